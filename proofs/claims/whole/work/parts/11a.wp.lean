/-! by program (wp.py): formulas that are enough -/
-- 3 GlassWires$Cells total ()I
theorem w3_0 {E : gw_N} {M : Mem} {res : Option Value × gw_H}  (H : res = (some (.int ((M 32) 5)), hs E M)) : Ev 1 3 0 [some (.ref 32)] [] (hs E M) res := by
  refine Ev.steps 2 (pc' := 4) (L' := [some (.ref 32)]) (st' := [.int ((M 32) 5)]) rfl ?_
  subst H
  exact Ev.ret rfl

def F3 (M : Mem) : Int32 := ((M 32) 5)
theorem s3 {E : gw_N} {M : Mem} : Rn 3 [.ref 32] (hs E M) (some (.int (F3 M))) (hs E M) :=
  w3_0 (rfl)
-- 4 GlassWires$Cells of (I)I
theorem w4_0 {E : gw_N} {M : Mem} {res : Option Value × gw_H} {x1 : Int32} (H : (inb x1 64 ∧ res = (some (.int ((M 33) (x1 : Int32).toNatClampNeg)), hs E M))) : Ev 1 4 0 [some (.ref 32), some (.int x1)] [] (hs E M) res := by
  refine Ev.steps 3 (pc' := 5) (L' := [some (.ref 32), some (.int x1)]) (st' := [.int x1, .ref 33]) rfl ?_
  refine Ev.rd (i := x1) (n := 64) (pc' := 6) (L' := [some (.ref 32), some (.int x1)]) (st' := [.int ((M 33) (x1 : Int32).toNatClampNeg)]) H.1 rfl ?_
  replace H := H.2
  subst H
  exact Ev.ret rfl

def F4 (M : Mem) (x1 : Int32) : Int32 := ((M 33) (x1 : Int32).toNatClampNeg)
def P4 (M : Mem) (x1 : Int32) : Prop := (inb x1 64)
theorem s4 {E : gw_N} {M : Mem} {x1 : Int32} (H : P4 M x1) : Rn 4 [.ref 32, .int x1] (hs E M) (some (.int (F4 M x1))) (hs E M) :=
  w4_0 (⟨H, rfl⟩)
-- 5 GlassWires$Cells has (I)Z
theorem w5_0 {E : gw_N} {M : Mem} {res : Option Value × gw_H} {x1 : Int32} (H : ((x1 < 0 → res = (some (.int 0), hs E M)) ∧ (¬ x1 < 0 → ((64 ≤ x1 → res = (some (.int 0), hs E M)) ∧ (¬ 64 ≤ x1 → (inb x1 64 ∧ ((((M 33) (x1 : Int32).toNatClampNeg) = x1 → res = (some (.int 1), hs E M)) ∧ (¬ ((M 33) (x1 : Int32).toNatClampNeg) = x1 → res = (some (.int 0), hs E M))))))))) : Ev 1 5 0 [some (.ref 32), some (.int x1)] [] (hs E M) res := by
  refine Ev.steps 2 (pc' := if x1 < 0 then 24 else 4) (L' := [some (.ref 32), some (.int x1)]) (st' := []) rfl ?_
  refine Ev_ite (fun hc => ?_) (fun hc => ?_)
  · replace H := H.1 hc
    refine Ev.steps 1 (pc' := 25) (L' := [some (.ref 32), some (.int x1)]) (st' := [.int 0]) rfl ?_
    subst H
    exact Ev.ret rfl
  · replace H := H.2 hc
    refine Ev.steps 3 (pc' := if 64 ≤ x1 then 24 else 10) (L' := [some (.ref 32), some (.int x1)]) (st' := []) rfl ?_
    refine Ev_ite (fun hc => ?_) (fun hc => ?_)
    · replace H := H.1 hc
      refine Ev.steps 1 (pc' := 25) (L' := [some (.ref 32), some (.int x1)]) (st' := [.int 0]) rfl ?_
      subst H
      exact Ev.ret rfl
    · replace H := H.2 hc
      refine Ev.steps 3 (pc' := 15) (L' := [some (.ref 32), some (.int x1)]) (st' := [.int x1, .ref 33]) rfl ?_
      refine Ev.rd (i := x1) (n := 64) (pc' := 16) (L' := [some (.ref 32), some (.int x1)]) (st' := [.int ((M 33) (x1 : Int32).toNatClampNeg)]) H.1 rfl ?_
      replace H := H.2
      refine Ev.steps 2 (pc' := if ((M 33) (x1 : Int32).toNatClampNeg) = x1 then 20 else 24) (L' := [some (.ref 32), some (.int x1)]) (st' := []) rfl ?_
      refine Ev_ite (fun hc => ?_) (fun hc => ?_)
      · replace H := H.1 hc
        refine Ev.steps 2 (pc' := 25) (L' := [some (.ref 32), some (.int x1)]) (st' := [.int 1]) rfl ?_
        subst H
        exact Ev.ret rfl
      · replace H := H.2 hc
        refine Ev.steps 1 (pc' := 25) (L' := [some (.ref 32), some (.int x1)]) (st' := [.int 0]) rfl ?_
        subst H
        exact Ev.ret rfl

def F5 (M : Mem) (x1 : Int32) : Int32 := (if x1 < 0 then 0 else (if 64 ≤ x1 then 0 else (if ((M 33) (x1 : Int32).toNatClampNeg) = x1 then 1 else 0)))
def P5 (M : Mem) (x1 : Int32) : Prop := ((x1 < 0 → True) ∧ (¬ x1 < 0 → ((64 ≤ x1 → True) ∧ (¬ 64 ≤ x1 → (inb x1 64)))))
theorem bb5 {M : Mem} {x1 : Int32} : F5 M x1 &&& 1 = F5 M x1 := by
  unfold F5
  (repeat' split) <;> first | rfl | decide
theorem s5 {E : gw_N} {M : Mem} {x1 : Int32} (H : P5 M x1) : Rn 5 [.ref 32, .int x1] (hs E M) (some (.int (F5 M x1))) (hs E M) :=
  w5_0 (⟨fun h0 => gw_reteq (if_pos h0), fun h0 => ⟨fun h1 => gw_reteq ((if_neg h0).trans (if_pos h1)), fun h1 => ⟨((H.2 h0).2 h1), ⟨fun h2 => gw_reteq (((if_neg h0).trans (if_neg h1)).trans (if_pos h2)), fun h2 => gw_reteq (((if_neg h0).trans (if_neg h1)).trans (if_neg h2))⟩⟩⟩⟩)
-- 6 GlassWires$Cells fieldsOf (I)I
theorem w6_0 {E : gw_N} {M : Mem} {res : Option Value × gw_H} {x1 : Int32} (H : (inb x1 64 ∧ res = (some (.int ((M 34) (x1 : Int32).toNatClampNeg)), hs E M))) : Ev 1 6 0 [some (.ref 32), some (.int x1)] [] (hs E M) res := by
  refine Ev.steps 3 (pc' := 5) (L' := [some (.ref 32), some (.int x1)]) (st' := [.int x1, .ref 34]) rfl ?_
  refine Ev.rd (i := x1) (n := 64) (pc' := 6) (L' := [some (.ref 32), some (.int x1)]) (st' := [.int ((M 34) (x1 : Int32).toNatClampNeg)]) H.1 rfl ?_
  replace H := H.2
  subst H
  exact Ev.ret rfl

def F6 (M : Mem) (x1 : Int32) : Int32 := ((M 34) (x1 : Int32).toNatClampNeg)
def P6 (M : Mem) (x1 : Int32) : Prop := (inb x1 64)
theorem s6 {E : gw_N} {M : Mem} {x1 : Int32} (H : P6 M x1) : Rn 6 [.ref 32, .int x1] (hs E M) (some (.int (F6 M x1))) (hs E M) :=
  w6_0 (⟨H, rfl⟩)
-- 10 GlassWires$Glass firings ()I
theorem w10_0 {E : gw_N} {M : Mem} {res : Option Value × gw_H}  (H : res = (some (.int ((M 44) 9)), hs E M)) : Ev 1 10 0 [some (.ref 44)] [] (hs E M) res := by
  refine Ev.steps 2 (pc' := 4) (L' := [some (.ref 44)]) (st' := [.int ((M 44) 9)]) rfl ?_
  subst H
  exact Ev.ret rfl

def F10 (M : Mem) : Int32 := ((M 44) 9)
theorem s10 {E : gw_N} {M : Mem} : Rn 10 [.ref 44] (hs E M) (some (.int (F10 M))) (hs E M) :=
  w10_0 (rfl)
-- 11 GlassWires$Glass layersOn (I)I
theorem w11_0 {E : gw_N} {M : Mem} {res : Option Value × gw_H} {x1 : Int32} (H : (inb x1 64 ∧ res = (some (.int ((M 45) (x1 : Int32).toNatClampNeg)), hs E M))) : Ev 1 11 0 [some (.ref 44), some (.int x1)] [] (hs E M) res := by
  refine Ev.steps 3 (pc' := 5) (L' := [some (.ref 44), some (.int x1)]) (st' := [.int x1, .ref 45]) rfl ?_
  refine Ev.rd (i := x1) (n := 64) (pc' := 6) (L' := [some (.ref 44), some (.int x1)]) (st' := [.int ((M 45) (x1 : Int32).toNatClampNeg)]) H.1 rfl ?_
  replace H := H.2
  subst H
  exact Ev.ret rfl

def F11 (M : Mem) (x1 : Int32) : Int32 := ((M 45) (x1 : Int32).toNatClampNeg)
def P11 (M : Mem) (x1 : Int32) : Prop := (inb x1 64)
theorem s11 {E : gw_N} {M : Mem} {x1 : Int32} (H : P11 M x1) : Rn 11 [.ref 44, .int x1] (hs E M) (some (.int (F11 M x1))) (hs E M) :=
  w11_0 (⟨H, rfl⟩)
-- 13 GlassWires$Glass high (I)I
theorem w13_0 {E : gw_N} {M : Mem} {res : Option Value × gw_H} {x1 : Int32} (H : Ev 1 13 4 [some (.ref 44), some (.int x1), some (.int 0), some (.int 0)] [] (hs E M) res) : Ev 1 13 0 [some (.ref 44), some (.int x1), none, none] [] (hs E M) res := by
  refine Ev.steps 4 (pc' := 4) (L' := [some (.ref 44), some (.int x1), some (.int 0), some (.int 0)]) (st' := []) rfl ?_
  exact Ev.weak [some (.ref 44), some (.int x1), some (.int 0), some (.int 0)] (gw_leb_le ⟨rfl, rfl, rfl, rfl, trivial⟩) H

theorem w13_4 {E : gw_N} {M : Mem} {res : Option Value × gw_H} {x1 : Int32} {x2 : Int32} {x3 : Int32} (H : (inb x1 64 ∧ ((((M 45) (x1 : Int32).toNatClampNeg) ≤ x3 → res = (some (.int x2), hs E M)) ∧ (¬ ((M 45) (x1 : Int32).toNatClampNeg) ≤ x3 → (inb ((12 * x1) + x3) 768 ∧ Ev 1 13 4 [some (.ref 44), some (.int x1), some (.int (x2 + ((M 47) (((12 * x1) + x3) : Int32).toNatClampNeg))), some (.int (x3 + 1))] [] (hs E M) res))))) : Ev 1 13 4 [some (.ref 44), some (.int x1), some (.int x2), some (.int x3)] [] (hs E M) res := by
  refine Ev.steps 4 (pc' := 10) (L' := [some (.ref 44), some (.int x1), some (.int x2), some (.int x3)]) (st' := [.int x1, .ref 45, .int x3]) rfl ?_
  refine Ev.rd (i := x1) (n := 64) (pc' := 11) (L' := [some (.ref 44), some (.int x1), some (.int x2), some (.int x3)]) (st' := [.int ((M 45) (x1 : Int32).toNatClampNeg), .int x3]) H.1 rfl ?_
  replace H := H.2
  refine Ev.steps 1 (pc' := if ((M 45) (x1 : Int32).toNatClampNeg) ≤ x3 then 34 else 14) (L' := [some (.ref 44), some (.int x1), some (.int x2), some (.int x3)]) (st' := []) rfl ?_
  refine Ev_ite (fun hc => ?_) (fun hc => ?_)
  · replace H := H.1 hc
    refine Ev.steps 1 (pc' := 35) (L' := [some (.ref 44), some (.int x1), some (.int x2), some (.int x3)]) (st' := [.int x2]) rfl ?_
    subst H
    exact Ev.ret rfl
  · replace H := H.2 hc
    refine Ev.steps 8 (pc' := 25) (L' := [some (.ref 44), some (.int x1), some (.int x2), some (.int x3)]) (st' := [.int ((12 * x1) + x3), .ref 47, .int x2]) rfl ?_
    refine Ev.rd (i := ((12 * x1) + x3)) (n := 768) (pc' := 26) (L' := [some (.ref 44), some (.int x1), some (.int x2), some (.int x3)]) (st' := [.int ((M 47) (((12 * x1) + x3) : Int32).toNatClampNeg), .int x2]) H.1 rfl ?_
    replace H := H.2
    refine Ev.steps 4 (pc' := 4) (L' := [some (.ref 44), some (.int x1), some (.int (x2 + ((M 47) (((12 * x1) + x3) : Int32).toNatClampNeg))), some (.int (x3 + 1))]) (st' := []) rfl ?_
    exact Ev.weak [some (.ref 44), some (.int x1), some (.int (x2 + ((M 47) (((12 * x1) + x3) : Int32).toNatClampNeg))), some (.int (x3 + 1))] (gw_leb_le ⟨rfl, rfl, rfl, rfl, trivial⟩) H

-- 14 GlassWires$Glass aboutLayer (III)I
theorem w14_0 {E : gw_N} {M : Mem} {res : Option Value × gw_H} {x1 : Int32} {x2 : Int32} {x3 : Int32} (H : ((x2 < 0 → res = (some (.int (-1)), hs E M)) ∧ (¬ x2 < 0 → (inb x1 64 ∧ ((x2 < ((M 45) (x1 : Int32).toNatClampNeg) → ((x3 = 0 → (inb ((12 * x1) + x2) 768 ∧ res = (some (.int ((M 46) (((12 * x1) + x2) : Int32).toNatClampNeg)), hs E M))) ∧ (x3 = 1 → (inb ((12 * x1) + x2) 768 ∧ res = (some (.int ((M 47) (((12 * x1) + x2) : Int32).toNatClampNeg)), hs E M))) ∧ (¬ x3 = 0 → ¬ x3 = 1 → (inb ((12 * x1) + x2) 768 ∧ res = (some (.int ((M 48) (((12 * x1) + x2) : Int32).toNatClampNeg)), hs E M))))) ∧ (¬ x2 < ((M 45) (x1 : Int32).toNatClampNeg) → res = (some (.int (-1)), hs E M))))))) : Ev 1 14 0 [some (.ref 44), some (.int x1), some (.int x2), some (.int x3), none] [] (hs E M) res := by
  refine Ev.steps 2 (pc' := if x2 < 0 then 14 else 4) (L' := [some (.ref 44), some (.int x1), some (.int x2), some (.int x3), none]) (st' := []) rfl ?_
  refine Ev_ite (fun hc => ?_) (fun hc => ?_)
  · replace H := H.1 hc
    refine Ev.steps 1 (pc' := 15) (L' := [some (.ref 44), some (.int x1), some (.int x2), some (.int x3), none]) (st' := [.int (-1)]) rfl ?_
    subst H
    exact Ev.ret rfl
  · replace H := H.2 hc
    refine Ev.steps 4 (pc' := 10) (L' := [some (.ref 44), some (.int x1), some (.int x2), some (.int x3), none]) (st' := [.int x1, .ref 45, .int x2]) rfl ?_
    refine Ev.rd (i := x1) (n := 64) (pc' := 11) (L' := [some (.ref 44), some (.int x1), some (.int x2), some (.int x3), none]) (st' := [.int ((M 45) (x1 : Int32).toNatClampNeg), .int x2]) H.1 rfl ?_
    replace H := H.2
    refine Ev.steps 1 (pc' := if x2 < ((M 45) (x1 : Int32).toNatClampNeg) then 16 else 14) (L' := [some (.ref 44), some (.int x1), some (.int x2), some (.int x3), none]) (st' := []) rfl ?_
    refine Ev_ite (fun hc => ?_) (fun hc => ?_)
    · replace H := H.1 hc
      refine Ev.steps 7 (pc' := 25) (L' := [some (.ref 44), some (.int x1), some (.int x2), some (.int x3), some (.int ((12 * x1) + x2))]) (st' := [.int x3]) rfl ?_
      by_cases hw0 : x3 = 0
      · replace H := H.1 hw0
        refine Ev.sw (p := ((25 : Nat) + Op.lookupswitch.offset [(0, 27), (1, 35)] 43 (x3 : Int32).toInt : Int).toNat) (pc' := 52) (L' := [some (.ref 44), some (.int x1), some (.int x2), some (.int x3), some (.int ((12 * x1) + x2))]) (st' := []) rfl (by rw [hw0]; decide +kernel) ?_
        refine Ev.steps 3 (pc' := 58) (L' := [some (.ref 44), some (.int x1), some (.int x2), some (.int x3), some (.int ((12 * x1) + x2))]) (st' := [.int ((12 * x1) + x2), .ref 46]) rfl ?_
        refine Ev.rd (i := ((12 * x1) + x2)) (n := 768) (pc' := 59) (L' := [some (.ref 44), some (.int x1), some (.int x2), some (.int x3), some (.int ((12 * x1) + x2))]) (st' := [.int ((M 46) (((12 * x1) + x2) : Int32).toNatClampNeg)]) H.1 rfl ?_
        replace H := H.2
        subst H
        exact Ev.ret rfl
      replace H := H.2
      by_cases hw1 : x3 = 1
      · replace H := H.1 hw1
        refine Ev.sw (p := ((25 : Nat) + Op.lookupswitch.offset [(0, 27), (1, 35)] 43 (x3 : Int32).toInt : Int).toNat) (pc' := 60) (L' := [some (.ref 44), some (.int x1), some (.int x2), some (.int x3), some (.int ((12 * x1) + x2))]) (st' := []) rfl (by rw [hw1]; decide +kernel) ?_
        refine Ev.steps 3 (pc' := 66) (L' := [some (.ref 44), some (.int x1), some (.int x2), some (.int x3), some (.int ((12 * x1) + x2))]) (st' := [.int ((12 * x1) + x2), .ref 47]) rfl ?_
        refine Ev.rd (i := ((12 * x1) + x2)) (n := 768) (pc' := 67) (L' := [some (.ref 44), some (.int x1), some (.int x2), some (.int x3), some (.int ((12 * x1) + x2))]) (st' := [.int ((M 47) (((12 * x1) + x2) : Int32).toNatClampNeg)]) H.1 rfl ?_
        replace H := H.2
        subst H
        exact Ev.ret rfl
      replace H := H.2
      replace H := H hw0 hw1
      refine Ev.sw (p := ((25 : Nat) + Op.lookupswitch.offset [(0, 27), (1, 35)] 43 (x3 : Int32).toInt : Int).toNat) (pc' := 68) (L' := [some (.ref 44), some (.int x1), some (.int x2), some (.int x3), some (.int ((12 * x1) + x2))]) (st' := []) rfl ((by rw [lookupswitch.offset_cons, if_neg (gw_ls_ne (v := 0) (by decide +kernel) hw0), lookupswitch.offset_cons, if_neg (gw_ls_ne (v := 1) (by decide +kernel) hw1), lookupswitch.offset_nil]; decide +kernel)) ?_
      refine Ev.steps 3 (pc' := 74) (L' := [some (.ref 44), some (.int x1), some (.int x2), some (.int x3), some (.int ((12 * x1) + x2))]) (st' := [.int ((12 * x1) + x2), .ref 48]) rfl ?_
      refine Ev.rd (i := ((12 * x1) + x2)) (n := 768) (pc' := 75) (L' := [some (.ref 44), some (.int x1), some (.int x2), some (.int x3), some (.int ((12 * x1) + x2))]) (st' := [.int ((M 48) (((12 * x1) + x2) : Int32).toNatClampNeg)]) H.1 rfl ?_
      replace H := H.2
      subst H
      exact Ev.ret rfl
    · replace H := H.2 hc
      refine Ev.steps 1 (pc' := 15) (L' := [some (.ref 44), some (.int x1), some (.int x2), some (.int x3), none]) (st' := [.int (-1)]) rfl ?_
      subst H
      exact Ev.ret rfl

def F14 (M : Mem) (x1 : Int32) (x2 : Int32) (x3 : Int32) : Int32 := (if x2 < 0 then (-1) else (if x2 < ((M 45) (x1 : Int32).toNatClampNeg) then (if x3 = 0 then ((M 46) (((12 * x1) + x2) : Int32).toNatClampNeg) else (if x3 = 1 then ((M 47) (((12 * x1) + x2) : Int32).toNatClampNeg) else ((M 48) (((12 * x1) + x2) : Int32).toNatClampNeg))) else (-1)))
def P14 (M : Mem) (x1 : Int32) (x2 : Int32) (x3 : Int32) : Prop := ((x2 < 0 → True) ∧ (¬ x2 < 0 → (inb x1 64 ∧ ((x2 < ((M 45) (x1 : Int32).toNatClampNeg) → ((x3 = 0 → (inb ((12 * x1) + x2) 768)) ∧ (x3 = 1 → (inb ((12 * x1) + x2) 768)) ∧ (¬ x3 = 0 → ¬ x3 = 1 → (inb ((12 * x1) + x2) 768)))) ∧ (¬ x2 < ((M 45) (x1 : Int32).toNatClampNeg) → True)))))
theorem s14 {E : gw_N} {M : Mem} {x1 : Int32} {x2 : Int32} {x3 : Int32} (H : P14 M x1 x2 x3) : Rn 14 [.ref 44, .int x1, .int x2, .int x3] (hs E M) (some (.int (F14 M x1 x2 x3))) (hs E M) :=
  w14_0 (⟨fun h0 => gw_reteq (if_pos h0), fun h0 => ⟨(H.2 h0).1, ⟨fun h1 => ⟨fun h2 => ⟨(((H.2 h0).2.1 h1).1 h2), gw_reteq (((if_neg h0).trans (if_pos h1)).trans (if_pos h2))⟩, fun h3 => ⟨(((H.2 h0).2.1 h1).2.1 h3), gw_reteq ((((if_neg h0).trans (if_pos h1)).trans (if_neg (fun k => absurd (h3.symm.trans k) (by decide)))).trans (if_pos h3))⟩, fun h2 h3 => ⟨(((H.2 h0).2.1 h1).2.2 h2 h3), gw_reteq ((((if_neg h0).trans (if_pos h1)).trans (if_neg h2)).trans (if_neg h3))⟩⟩, fun h1 => gw_reteq ((if_neg h0).trans (if_neg h1))⟩⟩⟩)
-- 15 GlassWires$Glass upmost (I)I
theorem w15_0 {E : gw_N} {M : Mem} {res : Option Value × gw_H} {x1 : Int32} (H : (inb x1 64 ∧ ((((M 45) (x1 : Int32).toNatClampNeg) ≤ 0 → res = (some (.int (-1)), hs E M)) ∧ (¬ ((M 45) (x1 : Int32).toNatClampNeg) ≤ 0 → (inb x1 64 ∧ res = (some (.int (((12 * x1) + ((M 45) (x1 : Int32).toNatClampNeg)) - 1)), hs E M)))))) : Ev 1 15 0 [some (.ref 44), some (.int x1)] [] (hs E M) res := by
  refine Ev.steps 3 (pc' := 5) (L' := [some (.ref 44), some (.int x1)]) (st' := [.int x1, .ref 45]) rfl ?_
  refine Ev.rd (i := x1) (n := 64) (pc' := 6) (L' := [some (.ref 44), some (.int x1)]) (st' := [.int ((M 45) (x1 : Int32).toNatClampNeg)]) H.1 rfl ?_
  replace H := H.2
  refine Ev.steps 1 (pc' := if ((M 45) (x1 : Int32).toNatClampNeg) ≤ 0 then 25 else 9) (L' := [some (.ref 44), some (.int x1)]) (st' := []) rfl ?_
  refine Ev_ite (fun hc => ?_) (fun hc => ?_)
  · replace H := H.1 hc
    refine Ev.steps 1 (pc' := 26) (L' := [some (.ref 44), some (.int x1)]) (st' := [.int (-1)]) rfl ?_
    subst H
    exact Ev.ret rfl
  · replace H := H.2 hc
    refine Ev.steps 6 (pc' := 18) (L' := [some (.ref 44), some (.int x1)]) (st' := [.int x1, .ref 45, .int (12 * x1)]) rfl ?_
    refine Ev.rd (i := x1) (n := 64) (pc' := 19) (L' := [some (.ref 44), some (.int x1)]) (st' := [.int ((M 45) (x1 : Int32).toNatClampNeg), .int (12 * x1)]) H.1 rfl ?_
    replace H := H.2
    refine Ev.steps 4 (pc' := 26) (L' := [some (.ref 44), some (.int x1)]) (st' := [.int (((12 * x1) + ((M 45) (x1 : Int32).toNatClampNeg)) - 1)]) rfl ?_
    subst H
    exact Ev.ret rfl

def F15 (M : Mem) (x1 : Int32) : Int32 := (if ((M 45) (x1 : Int32).toNatClampNeg) ≤ 0 then (-1) else (((12 * x1) + ((M 45) (x1 : Int32).toNatClampNeg)) - 1))
def P15 (M : Mem) (x1 : Int32) : Prop := (inb x1 64 ∧ ((((M 45) (x1 : Int32).toNatClampNeg) ≤ 0 → True) ∧ (¬ ((M 45) (x1 : Int32).toNatClampNeg) ≤ 0 → (inb x1 64))))
theorem s15 {E : gw_N} {M : Mem} {x1 : Int32} (H : P15 M x1) : Rn 15 [.ref 44, .int x1] (hs E M) (some (.int (F15 M x1))) (hs E M) :=
  w15_0 (⟨H.1, ⟨fun h0 => gw_reteq (if_pos h0), fun h0 => ⟨(H.2.2 h0), gw_reteq (if_neg h0)⟩⟩⟩)
-- 36 GlassWires$Grid allows (I)Z
theorem w36_0 {E : gw_N} {M : Mem} {res : Option Value × gw_H} {x0 : Int32} (H : ((x0 < 2 → res = (some (.int 0), hs E M)) ∧ (¬ x0 < 2 → ((8 < x0 → res = (some (.int 0), hs E M)) ∧ (¬ 8 < x0 → res = (some (.int 1), hs E M)))))) : Ev 1 36 0 [some (.int x0)] [] (hs E M) res := by
  refine Ev.steps 3 (pc' := if x0 < 2 then 15 else 5) (L' := [some (.int x0)]) (st' := []) rfl ?_
  refine Ev_ite (fun hc => ?_) (fun hc => ?_)
  · replace H := H.1 hc
    refine Ev.steps 1 (pc' := 16) (L' := [some (.int x0)]) (st' := [.int 0]) rfl ?_
    subst H
    exact Ev.ret rfl
  · replace H := H.2 hc
    refine Ev.steps 3 (pc' := if 8 < x0 then 15 else 11) (L' := [some (.int x0)]) (st' := []) rfl ?_
    refine Ev_ite (fun hc => ?_) (fun hc => ?_)
    · replace H := H.1 hc
      refine Ev.steps 1 (pc' := 16) (L' := [some (.int x0)]) (st' := [.int 0]) rfl ?_
      subst H
      exact Ev.ret rfl
    · replace H := H.2 hc
      refine Ev.steps 2 (pc' := 16) (L' := [some (.int x0)]) (st' := [.int 1]) rfl ?_
      subst H
      exact Ev.ret rfl

def F36 (M : Mem) (x0 : Int32) : Int32 := (if x0 < 2 then 0 else (if 8 < x0 then 0 else 1))
theorem bb36 {M : Mem} {x0 : Int32} : F36 M x0 &&& 1 = F36 M x0 := by
  unfold F36
  (repeat' split) <;> first | rfl | decide
theorem s36 {E : gw_N} {M : Mem} {x0 : Int32} : Rn 36 [.int x0] (hs E M) (some (.int (F36 M x0))) (hs E M) :=
  w36_0 (⟨fun h0 => gw_reteq (if_pos h0), fun h0 => ⟨fun h1 => gw_reteq ((if_neg h0).trans (if_pos h1)), fun h1 => gw_reteq ((if_neg h0).trans (if_neg h1))⟩⟩)
-- 37 GlassWires$Grid resize (II)V
theorem w37_0 {E : gw_N} {M : Mem} {res : Option Value × gw_H} {x1 : Int32} {x2 : Int32} (H : Ev 1 37 12 [some (.ref 9), some (.int x1), some (.int x2), some (.int 0), none] [] (hs E (up M 9 (upd (upd (M 9) 2 x1) 3 x2))) res) : Ev 1 37 0 [some (.ref 9), some (.int x1), some (.int x2), none, none] [] (hs E M) res := by
  refine Ev.steps 2 (pc' := 2) (L' := [some (.ref 9), some (.int x1), some (.int x2), none, none]) (st' := [.int x1, .ref 9]) rfl ?_
  refine Ev.mem (a := 9) (g := (upd (M 9) 2 x1)) (pc' := 5) (L' := [some (.ref 9), some (.int x1), some (.int x2), none, none]) (st' := []) (by decide) rfl ?_
  refine Ev.steps 2 (pc' := 7) (L' := [some (.ref 9), some (.int x1), some (.int x2), none, none]) (st' := [.int x2, .ref 9]) rfl ?_
  refine Ev.mem (a := 9) (g := (upd (upd (M 9) 2 x1) 3 x2)) (pc' := 10) (L' := [some (.ref 9), some (.int x1), some (.int x2), none, none]) (st' := []) (by decide) rfl ?_
  refine Ev.mto (M' := (up M 9 (upd (upd (M 9) 2 x1) 3 x2))) (by funext q9; unfold up; by_cases e9 : q9 = 9 <;> simp [e9]) ?_
  refine Ev.steps 2 (pc' := 12) (L' := [some (.ref 9), some (.int x1), some (.int x2), some (.int 0), none]) (st' := []) rfl ?_
  exact Ev.weak [some (.ref 9), some (.int x1), some (.int x2), some (.int 0), none] (gw_leb_le ⟨rfl, rfl, rfl, rfl, trivial⟩) H

theorem w37_12 {E : gw_N} {M : Mem} {res : Option Value × gw_H} {x1 : Int32} {x2 : Int32} {x3 : Int32} (H : ((x2 ≤ x3 → res = (none, hs E M)) ∧ (¬ x2 ≤ x3 → ((8 ≤ x3 → res = (none, hs E M)) ∧ (¬ 8 ≤ x3 → Ev 1 37 26 [some (.ref 9), some (.int x1), some (.int x2), some (.int x3), some (.int 0)] [] (hs E M) res))))) : Ev 1 37 12 [some (.ref 9), some (.int x1), some (.int x2), some (.int x3), none] [] (hs E M) res := by
  refine Ev.steps 3 (pc' := if x2 ≤ x3 then 76 else 17) (L' := [some (.ref 9), some (.int x1), some (.int x2), some (.int x3), none]) (st' := []) rfl ?_
  refine Ev_ite (fun hc => ?_) (fun hc => ?_)
  · replace H := H.1 hc
    subst H
    exact Ev.ret rfl
  · replace H := H.2 hc
    refine Ev.steps 3 (pc' := if 8 ≤ x3 then 76 else 23) (L' := [some (.ref 9), some (.int x1), some (.int x2), some (.int x3), none]) (st' := []) rfl ?_
    refine Ev_ite (fun hc => ?_) (fun hc => ?_)
    · replace H := H.1 hc
      subst H
      exact Ev.ret rfl
    · replace H := H.2 hc
      refine Ev.steps 2 (pc' := 26) (L' := [some (.ref 9), some (.int x1), some (.int x2), some (.int x3), some (.int 0)]) (st' := []) rfl ?_
      exact Ev.weak [some (.ref 9), some (.int x1), some (.int x2), some (.int x3), some (.int 0)] (gw_leb_le ⟨rfl, rfl, rfl, rfl, rfl, trivial⟩) H

theorem w37_26 {E : gw_N} {M : Mem} {res : Option Value × gw_H} {x1 : Int32} {x2 : Int32} {x3 : Int32} {x4 : Int32} (H : ((x1 ≤ x4 → Ev 1 37 12 [some (.ref 9), some (.int x1), some (.int x2), some (.int (x3 + 1)), none] [] (hs E M) res) ∧ (¬ x1 ≤ x4 → ((8 ≤ x4 → Ev 1 37 12 [some (.ref 9), some (.int x1), some (.int x2), some (.int (x3 + 1)), none] [] (hs E M) res) ∧ (¬ 8 ≤ x4 → (inb ((x1 * x3) + x4) 64 ∧ (inb ((x1 * x3) + x4) 64 ∧ Ev 1 37 26 [some (.ref 9), some (.int x1), some (.int x2), some (.int x3), some (.int (x4 + 1))] [] (hs E (up (up M 10 (upd (M 10) (((x1 * x3) + x4) : Int32).toNatClampNeg x4)) 11 (upd (M 11) (((x1 * x3) + x4) : Int32).toNatClampNeg x3))) res))))))) : Ev 1 37 26 [some (.ref 9), some (.int x1), some (.int x2), some (.int x3), some (.int x4)] [] (hs E M) res := by
  refine Ev.steps 3 (pc' := if x1 ≤ x4 then 70 else 32) (L' := [some (.ref 9), some (.int x1), some (.int x2), some (.int x3), some (.int x4)]) (st' := []) rfl ?_
  refine Ev_ite (fun hc => ?_) (fun hc => ?_)
  · replace H := H.1 hc
    refine Ev.steps 2 (pc' := 12) (L' := [some (.ref 9), some (.int x1), some (.int x2), some (.int (x3 + 1)), some (.int x4)]) (st' := []) rfl ?_
    exact Ev.weak [some (.ref 9), some (.int x1), some (.int x2), some (.int (x3 + 1)), none] (gw_leb_le ⟨rfl, rfl, rfl, rfl, trivial⟩) H
  · replace H := H.2 hc
    refine Ev.steps 3 (pc' := if 8 ≤ x4 then 70 else 39) (L' := [some (.ref 9), some (.int x1), some (.int x2), some (.int x3), some (.int x4)]) (st' := []) rfl ?_
    refine Ev_ite (fun hc => ?_) (fun hc => ?_)
    · replace H := H.1 hc
      refine Ev.steps 2 (pc' := 12) (L' := [some (.ref 9), some (.int x1), some (.int x2), some (.int (x3 + 1)), some (.int x4)]) (st' := []) rfl ?_
      exact Ev.weak [some (.ref 9), some (.int x1), some (.int x2), some (.int (x3 + 1)), none] (gw_leb_le ⟨rfl, rfl, rfl, rfl, trivial⟩) H
    · replace H := H.2 hc
      refine Ev.steps 8 (pc' := 51) (L' := [some (.ref 9), some (.int x1), some (.int x2), some (.int x3), some (.int x4)]) (st' := [.int x4, .int ((x1 * x3) + x4), .ref 10]) rfl ?_
      refine Ev.wr (a := 10) (g := (upd (M 10) (((x1 * x3) + x4) : Int32).toNatClampNeg x4)) (i := ((x1 * x3) + x4)) (n := 64) (pc' := 52) (L' := [some (.ref 9), some (.int x1), some (.int x2), some (.int x3), some (.int x4)]) (st' := []) (by decide) H.1 rfl ?_
      replace H := H.2
      refine Ev.steps 8 (pc' := 63) (L' := [some (.ref 9), some (.int x1), some (.int x2), some (.int x3), some (.int x4)]) (st' := [.int x3, .int ((x1 * x3) + x4), .ref 11]) rfl ?_
      refine Ev.wr (a := 11) (g := (upd (M 11) (((x1 * x3) + x4) : Int32).toNatClampNeg x3)) (i := ((x1 * x3) + x4)) (n := 64) (pc' := 64) (L' := [some (.ref 9), some (.int x1), some (.int x2), some (.int x3), some (.int x4)]) (st' := []) (by decide) H.1 rfl ?_
      replace H := H.2
      refine Ev.steps 2 (pc' := 26) (L' := [some (.ref 9), some (.int x1), some (.int x2), some (.int x3), some (.int (x4 + 1))]) (st' := []) rfl ?_
      exact Ev.weak [some (.ref 9), some (.int x1), some (.int x2), some (.int x3), some (.int (x4 + 1))] (gw_leb_le ⟨rfl, rfl, rfl, rfl, rfl, trivial⟩) H

-- 38 GlassWires$Grid wide ()I
theorem w38_0 {E : gw_N} {M : Mem} {res : Option Value × gw_H}  (H : res = (some (.int ((M 9) 2)), hs E M)) : Ev 1 38 0 [some (.ref 9)] [] (hs E M) res := by
  refine Ev.steps 2 (pc' := 4) (L' := [some (.ref 9)]) (st' := [.int ((M 9) 2)]) rfl ?_
  subst H
  exact Ev.ret rfl

def F38 (M : Mem) : Int32 := ((M 9) 2)
theorem s38 {E : gw_N} {M : Mem} : Rn 38 [.ref 9] (hs E M) (some (.int (F38 M))) (hs E M) :=
  w38_0 (rfl)
-- 39 GlassWires$Grid high ()I
theorem w39_0 {E : gw_N} {M : Mem} {res : Option Value × gw_H}  (H : res = (some (.int ((M 9) 3)), hs E M)) : Ev 1 39 0 [some (.ref 9)] [] (hs E M) res := by
  refine Ev.steps 2 (pc' := 4) (L' := [some (.ref 9)]) (st' := [.int ((M 9) 3)]) rfl ?_
  subst H
  exact Ev.ret rfl

def F39 (M : Mem) : Int32 := ((M 9) 3)
theorem s39 {E : gw_N} {M : Mem} : Rn 39 [.ref 9] (hs E M) (some (.int (F39 M))) (hs E M) :=
  w39_0 (rfl)
-- 40 GlassWires$Grid fields ()I
theorem w40_0 {E : gw_N} {M : Mem} {res : Option Value × gw_H}  (H : res = (some (.int (((M 9) 2) * ((M 9) 3))), hs E M)) : Ev 1 40 0 [some (.ref 9)] [] (hs E M) res := by
  refine Ev.steps 5 (pc' := 9) (L' := [some (.ref 9)]) (st' := [.int (((M 9) 2) * ((M 9) 3))]) rfl ?_
  subst H
  exact Ev.ret rfl

def F40 (M : Mem) : Int32 := (((M 9) 2) * ((M 9) 3))
theorem s40 {E : gw_N} {M : Mem} : Rn 40 [.ref 9] (hs E M) (some (.int (F40 M))) (hs E M) :=
  w40_0 (rfl)
-- 41 GlassWires$Grid hasPoint (II)Z
theorem w41_0 {E : gw_N} {M : Mem} {res : Option Value × gw_H} {x1 : Int32} {x2 : Int32} (H : ((x1 < 0 → res = (some (.int 0), hs E M)) ∧ (¬ x1 < 0 → ((((M 9) 2) < x1 → res = (some (.int 0), hs E M)) ∧ (¬ ((M 9) 2) < x1 → ((x2 < 0 → res = (some (.int 0), hs E M)) ∧ (¬ x2 < 0 → ((((M 9) 3) < x2 → res = (some (.int 0), hs E M)) ∧ (¬ ((M 9) 3) < x2 → res = (some (.int 1), hs E M)))))))))) : Ev 1 41 0 [some (.ref 9), some (.int x1), some (.int x2)] [] (hs E M) res := by
  refine Ev.steps 2 (pc' := if x1 < 0 then 28 else 4) (L' := [some (.ref 9), some (.int x1), some (.int x2)]) (st' := []) rfl ?_
  refine Ev_ite (fun hc => ?_) (fun hc => ?_)
  · replace H := H.1 hc
    refine Ev.steps 1 (pc' := 29) (L' := [some (.ref 9), some (.int x1), some (.int x2)]) (st' := [.int 0]) rfl ?_
    subst H
    exact Ev.ret rfl
  · replace H := H.2 hc
    refine Ev.steps 4 (pc' := if ((M 9) 2) < x1 then 28 else 12) (L' := [some (.ref 9), some (.int x1), some (.int x2)]) (st' := []) rfl ?_
    refine Ev_ite (fun hc => ?_) (fun hc => ?_)
    · replace H := H.1 hc
      refine Ev.steps 1 (pc' := 29) (L' := [some (.ref 9), some (.int x1), some (.int x2)]) (st' := [.int 0]) rfl ?_
      subst H
      exact Ev.ret rfl
    · replace H := H.2 hc
      refine Ev.steps 2 (pc' := if x2 < 0 then 28 else 16) (L' := [some (.ref 9), some (.int x1), some (.int x2)]) (st' := []) rfl ?_
      refine Ev_ite (fun hc => ?_) (fun hc => ?_)
      · replace H := H.1 hc
        refine Ev.steps 1 (pc' := 29) (L' := [some (.ref 9), some (.int x1), some (.int x2)]) (st' := [.int 0]) rfl ?_
        subst H
        exact Ev.ret rfl
      · replace H := H.2 hc
        refine Ev.steps 4 (pc' := if ((M 9) 3) < x2 then 28 else 24) (L' := [some (.ref 9), some (.int x1), some (.int x2)]) (st' := []) rfl ?_
        refine Ev_ite (fun hc => ?_) (fun hc => ?_)
        · replace H := H.1 hc
          refine Ev.steps 1 (pc' := 29) (L' := [some (.ref 9), some (.int x1), some (.int x2)]) (st' := [.int 0]) rfl ?_
          subst H
          exact Ev.ret rfl
        · replace H := H.2 hc
          refine Ev.steps 2 (pc' := 29) (L' := [some (.ref 9), some (.int x1), some (.int x2)]) (st' := [.int 1]) rfl ?_
          subst H
          exact Ev.ret rfl

def F41 (M : Mem) (x1 : Int32) (x2 : Int32) : Int32 := (if x1 < 0 then 0 else (if ((M 9) 2) < x1 then 0 else (if x2 < 0 then 0 else (if ((M 9) 3) < x2 then 0 else 1))))
theorem bb41 {M : Mem} {x1 : Int32} {x2 : Int32} : F41 M x1 x2 &&& 1 = F41 M x1 x2 := by
  unfold F41
  (repeat' split) <;> first | rfl | decide
theorem s41 {E : gw_N} {M : Mem} {x1 : Int32} {x2 : Int32} : Rn 41 [.ref 9, .int x1, .int x2] (hs E M) (some (.int (F41 M x1 x2))) (hs E M) :=
  w41_0 (⟨fun h0 => gw_reteq (if_pos h0), fun h0 => ⟨fun h1 => gw_reteq ((if_neg h0).trans (if_pos h1)), fun h1 => ⟨fun h2 => gw_reteq (((if_neg h0).trans (if_neg h1)).trans (if_pos h2)), fun h2 => ⟨fun h3 => gw_reteq ((((if_neg h0).trans (if_neg h1)).trans (if_neg h2)).trans (if_pos h3)), fun h3 => gw_reteq ((((if_neg h0).trans (if_neg h1)).trans (if_neg h2)).trans (if_neg h3))⟩⟩⟩⟩)
-- 42 GlassWires$Grid isAtRim (II)Z
theorem w42_0 {E : gw_N} {M : Mem} {res : Option Value × gw_H} {x1 : Int32} {x2 : Int32} (H : ((x1 = 0 → res = (some (.int 1), hs E M)) ∧ (¬ x1 = 0 → ((x1 = ((M 9) 2) → res = (some (.int 1), hs E M)) ∧ (¬ x1 = ((M 9) 2) → ((x2 = 0 → res = (some (.int 1), hs E M)) ∧ (¬ x2 = 0 → ((x2 = ((M 9) 3) → res = (some (.int 1), hs E M)) ∧ (¬ x2 = ((M 9) 3) → res = (some (.int 0), hs E M)))))))))) : Ev 1 42 0 [some (.ref 9), some (.int x1), some (.int x2)] [] (hs E M) res := by
  refine Ev.steps 2 (pc' := if x1 = 0 then 24 else 4) (L' := [some (.ref 9), some (.int x1), some (.int x2)]) (st' := []) rfl ?_
  refine Ev_ite (fun hc => ?_) (fun hc => ?_)
  · replace H := H.1 hc
    refine Ev.steps 2 (pc' := 29) (L' := [some (.ref 9), some (.int x1), some (.int x2)]) (st' := [.int 1]) rfl ?_
    subst H
    exact Ev.ret rfl
  · replace H := H.2 hc
    refine Ev.steps 4 (pc' := if x1 = ((M 9) 2) then 24 else 12) (L' := [some (.ref 9), some (.int x1), some (.int x2)]) (st' := []) rfl ?_
    refine Ev_ite (fun hc => ?_) (fun hc => ?_)
    · replace H := H.1 hc
      refine Ev.steps 2 (pc' := 29) (L' := [some (.ref 9), some (.int x1), some (.int x2)]) (st' := [.int 1]) rfl ?_
      subst H
      exact Ev.ret rfl
    · replace H := H.2 hc
      refine Ev.steps 2 (pc' := if x2 = 0 then 24 else 16) (L' := [some (.ref 9), some (.int x1), some (.int x2)]) (st' := []) rfl ?_
      refine Ev_ite (fun hc => ?_) (fun hc => ?_)
      · replace H := H.1 hc
        refine Ev.steps 2 (pc' := 29) (L' := [some (.ref 9), some (.int x1), some (.int x2)]) (st' := [.int 1]) rfl ?_
        subst H
        exact Ev.ret rfl
      · replace H := H.2 hc
        refine Ev.steps 4 (pc' := if x2 = ((M 9) 3) then 24 else 28) (L' := [some (.ref 9), some (.int x1), some (.int x2)]) (st' := []) rfl ?_
        refine Ev_ite (fun hc => ?_) (fun hc => ?_)
        · replace H := H.1 hc
          refine Ev.steps 2 (pc' := 29) (L' := [some (.ref 9), some (.int x1), some (.int x2)]) (st' := [.int 1]) rfl ?_
          subst H
          exact Ev.ret rfl
        · replace H := H.2 hc
          refine Ev.steps 1 (pc' := 29) (L' := [some (.ref 9), some (.int x1), some (.int x2)]) (st' := [.int 0]) rfl ?_
          subst H
          exact Ev.ret rfl

def F42 (M : Mem) (x1 : Int32) (x2 : Int32) : Int32 := (if x1 = 0 then 1 else (if x1 = ((M 9) 2) then 1 else (if x2 = 0 then 1 else (if x2 = ((M 9) 3) then 1 else 0))))
theorem bb42 {M : Mem} {x1 : Int32} {x2 : Int32} : F42 M x1 x2 &&& 1 = F42 M x1 x2 := by
  unfold F42
  (repeat' split) <;> first | rfl | decide
theorem s42 {E : gw_N} {M : Mem} {x1 : Int32} {x2 : Int32} : Rn 42 [.ref 9, .int x1, .int x2] (hs E M) (some (.int (F42 M x1 x2))) (hs E M) :=
  w42_0 (⟨fun h0 => gw_reteq (if_pos h0), fun h0 => ⟨fun h1 => gw_reteq ((if_neg h0).trans (if_pos h1)), fun h1 => ⟨fun h2 => gw_reteq (((if_neg h0).trans (if_neg h1)).trans (if_pos h2)), fun h2 => ⟨fun h3 => gw_reteq ((((if_neg h0).trans (if_neg h1)).trans (if_neg h2)).trans (if_pos h3)), fun h3 => gw_reteq ((((if_neg h0).trans (if_neg h1)).trans (if_neg h2)).trans (if_neg h3))⟩⟩⟩⟩)
-- 43 GlassWires$Grid hasField (II)Z
theorem w43_0 {E : gw_N} {M : Mem} {res : Option Value × gw_H} {x1 : Int32} {x2 : Int32} (H : ((x1 < 0 → res = (some (.int 0), hs E M)) ∧ (¬ x1 < 0 → ((((M 9) 2) ≤ x1 → res = (some (.int 0), hs E M)) ∧ (¬ ((M 9) 2) ≤ x1 → ((x2 < 0 → res = (some (.int 0), hs E M)) ∧ (¬ x2 < 0 → ((((M 9) 3) ≤ x2 → res = (some (.int 0), hs E M)) ∧ (¬ ((M 9) 3) ≤ x2 → res = (some (.int 1), hs E M)))))))))) : Ev 1 43 0 [some (.ref 9), some (.int x1), some (.int x2)] [] (hs E M) res := by
  refine Ev.steps 2 (pc' := if x1 < 0 then 28 else 4) (L' := [some (.ref 9), some (.int x1), some (.int x2)]) (st' := []) rfl ?_
  refine Ev_ite (fun hc => ?_) (fun hc => ?_)
  · replace H := H.1 hc
    refine Ev.steps 1 (pc' := 29) (L' := [some (.ref 9), some (.int x1), some (.int x2)]) (st' := [.int 0]) rfl ?_
    subst H
    exact Ev.ret rfl
  · replace H := H.2 hc
    refine Ev.steps 4 (pc' := if ((M 9) 2) ≤ x1 then 28 else 12) (L' := [some (.ref 9), some (.int x1), some (.int x2)]) (st' := []) rfl ?_
    refine Ev_ite (fun hc => ?_) (fun hc => ?_)
    · replace H := H.1 hc
      refine Ev.steps 1 (pc' := 29) (L' := [some (.ref 9), some (.int x1), some (.int x2)]) (st' := [.int 0]) rfl ?_
      subst H
      exact Ev.ret rfl
    · replace H := H.2 hc
      refine Ev.steps 2 (pc' := if x2 < 0 then 28 else 16) (L' := [some (.ref 9), some (.int x1), some (.int x2)]) (st' := []) rfl ?_
      refine Ev_ite (fun hc => ?_) (fun hc => ?_)
      · replace H := H.1 hc
        refine Ev.steps 1 (pc' := 29) (L' := [some (.ref 9), some (.int x1), some (.int x2)]) (st' := [.int 0]) rfl ?_
        subst H
        exact Ev.ret rfl
      · replace H := H.2 hc
        refine Ev.steps 4 (pc' := if ((M 9) 3) ≤ x2 then 28 else 24) (L' := [some (.ref 9), some (.int x1), some (.int x2)]) (st' := []) rfl ?_
        refine Ev_ite (fun hc => ?_) (fun hc => ?_)
        · replace H := H.1 hc
          refine Ev.steps 1 (pc' := 29) (L' := [some (.ref 9), some (.int x1), some (.int x2)]) (st' := [.int 0]) rfl ?_
          subst H
          exact Ev.ret rfl
        · replace H := H.2 hc
          refine Ev.steps 2 (pc' := 29) (L' := [some (.ref 9), some (.int x1), some (.int x2)]) (st' := [.int 1]) rfl ?_
          subst H
          exact Ev.ret rfl

def F43 (M : Mem) (x1 : Int32) (x2 : Int32) : Int32 := (if x1 < 0 then 0 else (if ((M 9) 2) ≤ x1 then 0 else (if x2 < 0 then 0 else (if ((M 9) 3) ≤ x2 then 0 else 1))))
theorem bb43 {M : Mem} {x1 : Int32} {x2 : Int32} : F43 M x1 x2 &&& 1 = F43 M x1 x2 := by
  unfold F43
  (repeat' split) <;> first | rfl | decide
theorem s43 {E : gw_N} {M : Mem} {x1 : Int32} {x2 : Int32} : Rn 43 [.ref 9, .int x1, .int x2] (hs E M) (some (.int (F43 M x1 x2))) (hs E M) :=
  w43_0 (⟨fun h0 => gw_reteq (if_pos h0), fun h0 => ⟨fun h1 => gw_reteq ((if_neg h0).trans (if_pos h1)), fun h1 => ⟨fun h2 => gw_reteq (((if_neg h0).trans (if_neg h1)).trans (if_pos h2)), fun h2 => ⟨fun h3 => gw_reteq ((((if_neg h0).trans (if_neg h1)).trans (if_neg h2)).trans (if_pos h3)), fun h3 => gw_reteq ((((if_neg h0).trans (if_neg h1)).trans (if_neg h2)).trans (if_neg h3))⟩⟩⟩⟩)
-- 45 GlassWires$Grid fieldNumber (II)I
theorem w45_0 {E : gw_N} {M : Mem} {res : Option Value × gw_H} {x1 : Int32} {x2 : Int32} (H : res = (some (.int ((((M 9) 2) * x2) + x1)), hs E M)) : Ev 1 45 0 [some (.ref 9), some (.int x1), some (.int x2)] [] (hs E M) res := by
  refine Ev.steps 6 (pc' := 8) (L' := [some (.ref 9), some (.int x1), some (.int x2)]) (st' := [.int ((((M 9) 2) * x2) + x1)]) rfl ?_
  subst H
  exact Ev.ret rfl

def F45 (M : Mem) (x1 : Int32) (x2 : Int32) : Int32 := ((((M 9) 2) * x2) + x1)
theorem s45 {E : gw_N} {M : Mem} {x1 : Int32} {x2 : Int32} : Rn 45 [.ref 9, .int x1, .int x2] (hs E M) (some (.int (F45 M x1 x2))) (hs E M) :=
  w45_0 (rfl)
-- 48 GlassWires$Grid pointNumber (II)I
theorem w48_0 {E : gw_N} {M : Mem} {res : Option Value × gw_H} {x0 : Int32} {x1 : Int32} (H : res = (some (.int ((10 * x1) + x0)), hs E M)) : Ev 1 48 0 [some (.int x0), some (.int x1)] [] (hs E M) res := by
  refine Ev.steps 5 (pc' := 6) (L' := [some (.int x0), some (.int x1)]) (st' := [.int ((10 * x1) + x0)]) rfl ?_
  subst H
  exact Ev.ret rfl

def F48 (M : Mem) (x0 : Int32) (x1 : Int32) : Int32 := ((10 * x1) + x0)
theorem s48 {E : gw_N} {M : Mem} {x0 : Int32} {x1 : Int32} : Rn 48 [.int x0, .int x1] (hs E M) (some (.int (F48 M x0 x1))) (hs E M) :=
  w48_0 (rfl)
-- 49 GlassWires$Grid columnOf (I)I
theorem w49_0 {E : gw_N} {M : Mem} {res : Option Value × gw_H} {x0 : Int32} (H : res = (some (.int (x0 - x0 / 10 * 10)), hs E M)) : Ev 1 49 0 [some (.int x0)] [] (hs E M) res := by
  refine Ev.steps 2 (pc' := 3) (L' := [some (.int x0)]) (st' := [.int 10, .int x0]) rfl ?_
  refine Ev.dv (y := 10) (pc' := 4) (L' := [some (.int x0)]) (st' := [.int (x0 - x0 / 10 * 10)]) (by decide) rfl ?_
  subst H
  exact Ev.ret rfl

def F49 (M : Mem) (x0 : Int32) : Int32 := (x0 - x0 / 10 * 10)
theorem s49 {E : gw_N} {M : Mem} {x0 : Int32} : Rn 49 [.int x0] (hs E M) (some (.int (F49 M x0))) (hs E M) :=
  w49_0 (rfl)
-- 50 GlassWires$Grid rowOf (I)I
theorem w50_0 {E : gw_N} {M : Mem} {res : Option Value × gw_H} {x0 : Int32} (H : res = (some (.int (x0 / 10)), hs E M)) : Ev 1 50 0 [some (.int x0)] [] (hs E M) res := by
  refine Ev.steps 2 (pc' := 3) (L' := [some (.int x0)]) (st' := [.int 10, .int x0]) rfl ?_
  refine Ev.dv (y := 10) (pc' := 4) (L' := [some (.int x0)]) (st' := [.int (x0 / 10)]) (by decide) rfl ?_
  subst H
  exact Ev.ret rfl

def F50 (M : Mem) (x0 : Int32) : Int32 := (x0 / 10)
theorem s50 {E : gw_N} {M : Mem} {x0 : Int32} : Rn 50 [.int x0] (hs E M) (some (.int (F50 M x0))) (hs E M) :=
  w50_0 (rfl)
-- 53 GlassWires$Grid stepRight (I)I
theorem w53_0 {E : gw_N} {M : Mem} {res : Option Value × gw_H} {x0 : Int32} (H : ((x0 = 0 → res = (some (.int 1), hs E M)) ∧ (¬ x0 = 0 → ((x0 = 2 → res = (some (.int (-1)), hs E M)) ∧ (¬ x0 = 2 → res = (some (.int 0), hs E M)))))) : Ev 1 53 0 [some (.int x0)] [] (hs E M) res := by
  refine Ev.steps 2 (pc' := if x0 = 0 then 4 else 8) (L' := [some (.int x0)]) (st' := []) rfl ?_
  refine Ev_ite (fun hc => ?_) (fun hc => ?_)
  · replace H := H.1 hc
    refine Ev.steps 2 (pc' := 18) (L' := [some (.int x0)]) (st' := [.int 1]) rfl ?_
    subst H
    exact Ev.ret rfl
  · replace H := H.2 hc
    refine Ev.steps 3 (pc' := if x0 = 2 then 13 else 17) (L' := [some (.int x0)]) (st' := []) rfl ?_
    refine Ev_ite (fun hc => ?_) (fun hc => ?_)
    · replace H := H.1 hc
      refine Ev.steps 2 (pc' := 18) (L' := [some (.int x0)]) (st' := [.int (-1)]) rfl ?_
      subst H
      exact Ev.ret rfl
    · replace H := H.2 hc
      refine Ev.steps 1 (pc' := 18) (L' := [some (.int x0)]) (st' := [.int 0]) rfl ?_
      subst H
      exact Ev.ret rfl

def F53 (M : Mem) (x0 : Int32) : Int32 := (if x0 = 0 then 1 else (if x0 = 2 then (-1) else 0))
theorem s53 {E : gw_N} {M : Mem} {x0 : Int32} : Rn 53 [.int x0] (hs E M) (some (.int (F53 M x0))) (hs E M) :=
  w53_0 (⟨fun h0 => gw_reteq (if_pos h0), fun h0 => ⟨fun h1 => gw_reteq ((if_neg h0).trans (if_pos h1)), fun h1 => gw_reteq ((if_neg h0).trans (if_neg h1))⟩⟩)
-- 54 GlassWires$Grid stepUp (I)I
theorem w54_0 {E : gw_N} {M : Mem} {res : Option Value × gw_H} {x0 : Int32} (H : ((x0 = 1 → res = (some (.int 1), hs E M)) ∧ (¬ x0 = 1 → ((x0 = 3 → res = (some (.int (-1)), hs E M)) ∧ (¬ x0 = 3 → res = (some (.int 0), hs E M)))))) : Ev 1 54 0 [some (.int x0)] [] (hs E M) res := by
  refine Ev.steps 3 (pc' := if x0 = 1 then 5 else 9) (L' := [some (.int x0)]) (st' := []) rfl ?_
  refine Ev_ite (fun hc => ?_) (fun hc => ?_)
  · replace H := H.1 hc
    refine Ev.steps 2 (pc' := 19) (L' := [some (.int x0)]) (st' := [.int 1]) rfl ?_
    subst H
    exact Ev.ret rfl
  · replace H := H.2 hc
    refine Ev.steps 3 (pc' := if x0 = 3 then 14 else 18) (L' := [some (.int x0)]) (st' := []) rfl ?_
    refine Ev_ite (fun hc => ?_) (fun hc => ?_)
    · replace H := H.1 hc
      refine Ev.steps 2 (pc' := 19) (L' := [some (.int x0)]) (st' := [.int (-1)]) rfl ?_
      subst H
      exact Ev.ret rfl
    · replace H := H.2 hc
      refine Ev.steps 1 (pc' := 19) (L' := [some (.int x0)]) (st' := [.int 0]) rfl ?_
      subst H
      exact Ev.ret rfl

def F54 (M : Mem) (x0 : Int32) : Int32 := (if x0 = 1 then 1 else (if x0 = 3 then (-1) else 0))
theorem s54 {E : gw_N} {M : Mem} {x0 : Int32} : Rn 54 [.int x0] (hs E M) (some (.int (F54 M x0))) (hs E M) :=
  w54_0 (⟨fun h0 => gw_reteq (if_pos h0), fun h0 => ⟨fun h1 => gw_reteq ((if_neg h0).trans (if_pos h1)), fun h1 => gw_reteq ((if_neg h0).trans (if_neg h1))⟩⟩)
-- 59 GlassWires$Net comeTo (II)V
theorem w59_0 {E : gw_N} {M : Mem} {res : Option Value × gw_H} {x1 : Int32} {x2 : Int32} (H : (inb x2 89 ∧ ((((M 27) (x2 : Int32).toNatClampNeg) = x1 → res = (none, hs E M)) ∧ (¬ ((M 27) (x2 : Int32).toNatClampNeg) = x1 → (inb x2 89 ∧ (inb x2 89 ∧ (inb x2 89 ∧ res = (none, hs E (up (up M 27 (upd (M 27) (x2 : Int32).toNatClampNeg x1)) 25 (upd (M 25) (x2 : Int32).toNatClampNeg (((M 25) (x2 : Int32).toNatClampNeg) + 1))))))))))) : Ev 1 59 0 [some (.ref 22), some (.int x1), some (.int x2)] [] (hs E M) res := by
  refine Ev.steps 3 (pc' := 5) (L' := [some (.ref 22), some (.int x1), some (.int x2)]) (st' := [.int x2, .ref 27]) rfl ?_
  refine Ev.rd (i := x2) (n := 89) (pc' := 6) (L' := [some (.ref 22), some (.int x1), some (.int x2)]) (st' := [.int ((M 27) (x2 : Int32).toNatClampNeg)]) H.1 rfl ?_
  replace H := H.2
  refine Ev.steps 2 (pc' := if ((M 27) (x2 : Int32).toNatClampNeg) = x1 then 27 else 10) (L' := [some (.ref 22), some (.int x1), some (.int x2)]) (st' := []) rfl ?_
  refine Ev_ite (fun hc => ?_) (fun hc => ?_)
  · replace H := H.1 hc
    subst H
    exact Ev.ret rfl
  · replace H := H.2 hc
    refine Ev.steps 4 (pc' := 16) (L' := [some (.ref 22), some (.int x1), some (.int x2)]) (st' := [.int x1, .int x2, .ref 27]) rfl ?_
    refine Ev.wr (a := 27) (g := (upd (M 27) (x2 : Int32).toNatClampNeg x1)) (i := x2) (n := 89) (pc' := 17) (L' := [some (.ref 22), some (.int x1), some (.int x2)]) (st' := []) (by decide) H.1 rfl ?_
    replace H := H.2
    refine Ev.steps 4 (pc' := 23) (L' := [some (.ref 22), some (.int x1), some (.int x2)]) (st' := [.int x2, .ref 25, .int x2, .ref 25]) rfl ?_
    refine Ev.rd (i := x2) (n := 89) (pc' := 24) (L' := [some (.ref 22), some (.int x1), some (.int x2)]) (st' := [.int ((M 25) (x2 : Int32).toNatClampNeg), .int x2, .ref 25]) H.1 rfl ?_
    replace H := H.2
    refine Ev.steps 2 (pc' := 26) (L' := [some (.ref 22), some (.int x1), some (.int x2)]) (st' := [.int (((M 25) (x2 : Int32).toNatClampNeg) + 1), .int x2, .ref 25]) rfl ?_
    refine Ev.wr (a := 25) (g := (upd (M 25) (x2 : Int32).toNatClampNeg (((M 25) (x2 : Int32).toNatClampNeg) + 1))) (i := x2) (n := 89) (pc' := 27) (L' := [some (.ref 22), some (.int x1), some (.int x2)]) (st' := []) (by decide) H.1 rfl ?_
    replace H := H.2
    subst H
    exact Ev.ret rfl

-- 66 GlassWires$Net wiresOn (I)I
theorem w66_0 {E : gw_N} {M : Mem} {res : Option Value × gw_H} {x1 : Int32} (H : (inb x1 178 ∧ res = (some (.int ((M 23) (x1 : Int32).toNatClampNeg)), hs E M))) : Ev 1 66 0 [some (.ref 22), some (.int x1)] [] (hs E M) res := by
  refine Ev.steps 3 (pc' := 5) (L' := [some (.ref 22), some (.int x1)]) (st' := [.int x1, .ref 23]) rfl ?_
  refine Ev.rd (i := x1) (n := 178) (pc' := 6) (L' := [some (.ref 22), some (.int x1)]) (st' := [.int ((M 23) (x1 : Int32).toNatClampNeg)]) H.1 rfl ?_
  replace H := H.2
  subst H
  exact Ev.ret rfl

def F66 (M : Mem) (x1 : Int32) : Int32 := ((M 23) (x1 : Int32).toNatClampNeg)
def P66 (M : Mem) (x1 : Int32) : Prop := (inb x1 178)
theorem s66 {E : gw_N} {M : Mem} {x1 : Int32} (H : P66 M x1) : Rn 66 [.ref 22, .int x1] (hs E M) (some (.int (F66 M x1))) (hs E M) :=
  w66_0 (⟨H, rfl⟩)
-- 67 GlassWires$Net isOpen (I)Z
theorem w67_0 {E : gw_N} {M : Mem} {res : Option Value × gw_H} {x1 : Int32} (H : (inb x1 178 ∧ ((((M 23) (x1 : Int32).toNatClampNeg) = 0 → res = (some (.int 1), hs E M)) ∧ (¬ ((M 23) (x1 : Int32).toNatClampNeg) = 0 → res = (some (.int 0), hs E M))))) : Ev 1 67 0 [some (.ref 22), some (.int x1)] [] (hs E M) res := by
  refine Ev.steps 3 (pc' := 5) (L' := [some (.ref 22), some (.int x1)]) (st' := [.int x1, .ref 23]) rfl ?_
  refine Ev.rd (i := x1) (n := 178) (pc' := 6) (L' := [some (.ref 22), some (.int x1)]) (st' := [.int ((M 23) (x1 : Int32).toNatClampNeg)]) H.1 rfl ?_
  replace H := H.2
  refine Ev.steps 1 (pc' := if ((M 23) (x1 : Int32).toNatClampNeg) = 0 then 9 else 13) (L' := [some (.ref 22), some (.int x1)]) (st' := []) rfl ?_
  refine Ev_ite (fun hc => ?_) (fun hc => ?_)
  · replace H := H.1 hc
    refine Ev.steps 2 (pc' := 14) (L' := [some (.ref 22), some (.int x1)]) (st' := [.int 1]) rfl ?_
    subst H
    exact Ev.ret rfl
  · replace H := H.2 hc
    refine Ev.steps 1 (pc' := 14) (L' := [some (.ref 22), some (.int x1)]) (st' := [.int 0]) rfl ?_
    subst H
    exact Ev.ret rfl

def F67 (M : Mem) (x1 : Int32) : Int32 := (if ((M 23) (x1 : Int32).toNatClampNeg) = 0 then 1 else 0)
def P67 (M : Mem) (x1 : Int32) : Prop := (inb x1 178)
theorem bb67 {M : Mem} {x1 : Int32} : F67 M x1 &&& 1 = F67 M x1 := by
  unfold F67
  (repeat' split) <;> first | rfl | decide
theorem s67 {E : gw_N} {M : Mem} {x1 : Int32} (H : P67 M x1) : Rn 67 [.ref 22, .int x1] (hs E M) (some (.int (F67 M x1))) (hs E M) :=
  w67_0 (⟨H, ⟨fun h0 => gw_reteq (if_pos h0), fun h0 => gw_reteq (if_neg h0)⟩⟩)
-- 68 GlassWires$Net isSoldered (I)Z
theorem w68_0 {E : gw_N} {M : Mem} {res : Option Value × gw_H} {x1 : Int32} (H : (inb x1 178 ∧ ((((M 24) (x1 : Int32).toNatClampNeg) ≤ 0 → res = (some (.int 0), hs E M)) ∧ (¬ ((M 24) (x1 : Int32).toNatClampNeg) ≤ 0 → res = (some (.int 1), hs E M))))) : Ev 1 68 0 [some (.ref 22), some (.int x1)] [] (hs E M) res := by
  refine Ev.steps 3 (pc' := 5) (L' := [some (.ref 22), some (.int x1)]) (st' := [.int x1, .ref 24]) rfl ?_
  refine Ev.rd (i := x1) (n := 178) (pc' := 6) (L' := [some (.ref 22), some (.int x1)]) (st' := [.int ((M 24) (x1 : Int32).toNatClampNeg)]) H.1 rfl ?_
  replace H := H.2
  refine Ev.steps 1 (pc' := if ((M 24) (x1 : Int32).toNatClampNeg) ≤ 0 then 13 else 9) (L' := [some (.ref 22), some (.int x1)]) (st' := []) rfl ?_
  refine Ev_ite (fun hc => ?_) (fun hc => ?_)
  · replace H := H.1 hc
    refine Ev.steps 1 (pc' := 14) (L' := [some (.ref 22), some (.int x1)]) (st' := [.int 0]) rfl ?_
    subst H
    exact Ev.ret rfl
  · replace H := H.2 hc
    refine Ev.steps 2 (pc' := 14) (L' := [some (.ref 22), some (.int x1)]) (st' := [.int 1]) rfl ?_
    subst H
    exact Ev.ret rfl

def F68 (M : Mem) (x1 : Int32) : Int32 := (if ((M 24) (x1 : Int32).toNatClampNeg) ≤ 0 then 0 else 1)
def P68 (M : Mem) (x1 : Int32) : Prop := (inb x1 178)
theorem bb68 {M : Mem} {x1 : Int32} : F68 M x1 &&& 1 = F68 M x1 := by
  unfold F68
  (repeat' split) <;> first | rfl | decide
theorem s68 {E : gw_N} {M : Mem} {x1 : Int32} (H : P68 M x1) : Rn 68 [.ref 22, .int x1] (hs E M) (some (.int (F68 M x1))) (hs E M) :=
  w68_0 (⟨H, ⟨fun h0 => gw_reteq (if_pos h0), fun h0 => gw_reteq (if_neg h0)⟩⟩)
-- 78 GlassWires$Page length ()I
theorem w78_0 {E : gw_N} {M : Mem} {res : Option Value × gw_H}  (H : res = (some (.int ((M 12) 1)), hs E M)) : Ev 1 78 0 [some (.ref 12)] [] (hs E M) res := by
  refine Ev.steps 2 (pc' := 4) (L' := [some (.ref 12)]) (st' := [.int ((M 12) 1)]) rfl ?_
  subst H
  exact Ev.ret rfl

def F78 (M : Mem) : Int32 := ((M 12) 1)
theorem s78 {E : gw_N} {M : Mem} : Rn 78 [.ref 12] (hs E M) (some (.int (F78 M))) (hs E M) :=
  w78_0 (rfl)
-- 79 GlassWires$Page clear ()I
theorem w79_0 {E : gw_N} {M : Mem} {res : Option Value × gw_H}  (H : res = (some (.int ((M 12) 1)), hs E (up M 12 (upd (M 12) 1 0)))) : Ev 1 79 0 [some (.ref 12), none] [] (hs E M) res := by
  refine Ev.steps 5 (pc' := 7) (L' := [some (.ref 12), some (.int ((M 12) 1))]) (st' := [.int 0, .ref 12]) rfl ?_
  refine Ev.mem (a := 12) (g := (upd (M 12) 1 0)) (pc' := 10) (L' := [some (.ref 12), some (.int ((M 12) 1))]) (st' := []) (by decide) rfl ?_
  refine Ev.steps 1 (pc' := 11) (L' := [some (.ref 12), some (.int ((M 12) 1))]) (st' := [.int ((M 12) 1)]) rfl ?_
  subst H
  exact Ev.ret rfl

-- 82 GlassWires$Page byteOf (JI)I
theorem w82_0 {E : gw_N} {M : Mem} {res : Option Value × gw_H} {x0 : Int64} {x2 : Int32} (H : res = (some (.int (Int64.toInt32 ((((x0).toUInt64 >>> (((8 * x2) : Int32).toInt64.toUInt64 &&& Int64.toUInt64 63)).toInt64) &&& 255))), hs E M)) : Ev 1 82 0 [some (.long x0), none, some (.int x2)] [] (hs E M) res := by
  refine Ev.steps 8 (pc' := 11) (L' := [some (.long x0), none, some (.int x2)]) (st' := [.int (Int64.toInt32 ((((x0).toUInt64 >>> (((8 * x2) : Int32).toInt64.toUInt64 &&& Int64.toUInt64 63)).toInt64) &&& 255))]) rfl ?_
  subst H
  exact Ev.ret rfl

def F82 (M : Mem) (x0 : Int64) (x2 : Int32) : Int32 := (Int64.toInt32 ((((x0).toUInt64 >>> (((8 * x2) : Int32).toInt64.toUInt64 &&& Int64.toUInt64 63)).toInt64) &&& 255))
theorem s82 {E : gw_N} {M : Mem} {x0 : Int64} {x2 : Int32} : Rn 82 [.long x0, .int x2] (hs E M) (some (.int (F82 M x0 x2))) (hs E M) :=
  w82_0 (rfl)
-- 83 GlassWires$Page wayAt (I)I
theorem w83_0 {E : gw_N} {M : Mem} {res : Option Value × gw_H} {x1 : Int32} (H : ((x1 < 0 → res = (some (.int (-1)), hs E M)) ∧ (¬ x1 < 0 → ((x1 < ((M 12) 1) → (inb x1 40 ∧ ((((M 13) (x1 : Int32).toNatClampNeg) = 100 → res = (some (.int 3), hs E M)) ∧ (((M 13) (x1 : Int32).toNatClampNeg) = 108 → res = (some (.int 2), hs E M)) ∧ (((M 13) (x1 : Int32).toNatClampNeg) = 114 → res = (some (.int 0), hs E M)) ∧ (((M 13) (x1 : Int32).toNatClampNeg) = 117 → res = (some (.int 1), hs E M)) ∧ (¬ ((M 13) (x1 : Int32).toNatClampNeg) = 100 → ¬ ((M 13) (x1 : Int32).toNatClampNeg) = 108 → ¬ ((M 13) (x1 : Int32).toNatClampNeg) = 114 → ¬ ((M 13) (x1 : Int32).toNatClampNeg) = 117 → res = (some (.int (-1)), hs E M))))) ∧ (¬ x1 < ((M 12) 1) → res = (some (.int (-1)), hs E M)))))) : Ev 1 83 0 [some (.ref 12), some (.int x1)] [] (hs E M) res := by
  refine Ev.steps 2 (pc' := if x1 < 0 then 12 else 4) (L' := [some (.ref 12), some (.int x1)]) (st' := []) rfl ?_
  refine Ev_ite (fun hc => ?_) (fun hc => ?_)
  · replace H := H.1 hc
    refine Ev.steps 1 (pc' := 13) (L' := [some (.ref 12), some (.int x1)]) (st' := [.int (-1)]) rfl ?_
    subst H
    exact Ev.ret rfl
  · replace H := H.2 hc
    refine Ev.steps 4 (pc' := if x1 < ((M 12) 1) then 14 else 12) (L' := [some (.ref 12), some (.int x1)]) (st' := []) rfl ?_
    refine Ev_ite (fun hc => ?_) (fun hc => ?_)
    · replace H := H.1 hc
      refine Ev.steps 3 (pc' := 19) (L' := [some (.ref 12), some (.int x1)]) (st' := [.int x1, .ref 13]) rfl ?_
      refine Ev.rd (i := x1) (n := 40) (pc' := 20) (L' := [some (.ref 12), some (.int x1)]) (st' := [.int ((M 13) (x1 : Int32).toNatClampNeg)]) H.1 rfl ?_
      replace H := H.2
      by_cases hw0 : ((M 13) (x1 : Int32).toNatClampNeg) = 100
      · replace H := H.1 hw0
        refine Ev.sw (p := ((20 : Nat) + Op.lookupswitch.offset [(100, 50), (108, 48), (114, 44), (117, 46)] 52 (((M 13) (x1 : Int32).toNatClampNeg) : Int32).toInt : Int).toNat) (pc' := 70) (L' := [some (.ref 12), some (.int x1)]) (st' := []) rfl (by rw [hw0]; decide +kernel) ?_
        refine Ev.steps 1 (pc' := 71) (L' := [some (.ref 12), some (.int x1)]) (st' := [.int 3]) rfl ?_
        subst H
        exact Ev.ret rfl
      replace H := H.2
      by_cases hw1 : ((M 13) (x1 : Int32).toNatClampNeg) = 108
      · replace H := H.1 hw1
        refine Ev.sw (p := ((20 : Nat) + Op.lookupswitch.offset [(100, 50), (108, 48), (114, 44), (117, 46)] 52 (((M 13) (x1 : Int32).toNatClampNeg) : Int32).toInt : Int).toNat) (pc' := 68) (L' := [some (.ref 12), some (.int x1)]) (st' := []) rfl (by rw [hw1]; decide +kernel) ?_
        refine Ev.steps 1 (pc' := 69) (L' := [some (.ref 12), some (.int x1)]) (st' := [.int 2]) rfl ?_
        subst H
        exact Ev.ret rfl
      replace H := H.2
      by_cases hw2 : ((M 13) (x1 : Int32).toNatClampNeg) = 114
      · replace H := H.1 hw2
        refine Ev.sw (p := ((20 : Nat) + Op.lookupswitch.offset [(100, 50), (108, 48), (114, 44), (117, 46)] 52 (((M 13) (x1 : Int32).toNatClampNeg) : Int32).toInt : Int).toNat) (pc' := 64) (L' := [some (.ref 12), some (.int x1)]) (st' := []) rfl (by rw [hw2]; decide +kernel) ?_
        refine Ev.steps 1 (pc' := 65) (L' := [some (.ref 12), some (.int x1)]) (st' := [.int 0]) rfl ?_
        subst H
        exact Ev.ret rfl
      replace H := H.2
      by_cases hw3 : ((M 13) (x1 : Int32).toNatClampNeg) = 117
      · replace H := H.1 hw3
        refine Ev.sw (p := ((20 : Nat) + Op.lookupswitch.offset [(100, 50), (108, 48), (114, 44), (117, 46)] 52 (((M 13) (x1 : Int32).toNatClampNeg) : Int32).toInt : Int).toNat) (pc' := 66) (L' := [some (.ref 12), some (.int x1)]) (st' := []) rfl (by rw [hw3]; decide +kernel) ?_
        refine Ev.steps 1 (pc' := 67) (L' := [some (.ref 12), some (.int x1)]) (st' := [.int 1]) rfl ?_
        subst H
        exact Ev.ret rfl
      replace H := H.2
      replace H := H hw0 hw1 hw2 hw3
      refine Ev.sw (p := ((20 : Nat) + Op.lookupswitch.offset [(100, 50), (108, 48), (114, 44), (117, 46)] 52 (((M 13) (x1 : Int32).toNatClampNeg) : Int32).toInt : Int).toNat) (pc' := 72) (L' := [some (.ref 12), some (.int x1)]) (st' := []) rfl ((by rw [lookupswitch.offset_cons, if_neg (gw_ls_ne (v := 100) (by decide +kernel) hw0), lookupswitch.offset_cons, if_neg (gw_ls_ne (v := 108) (by decide +kernel) hw1), lookupswitch.offset_cons, if_neg (gw_ls_ne (v := 114) (by decide +kernel) hw2), lookupswitch.offset_cons, if_neg (gw_ls_ne (v := 117) (by decide +kernel) hw3), lookupswitch.offset_nil]; decide +kernel)) ?_
      refine Ev.steps 1 (pc' := 73) (L' := [some (.ref 12), some (.int x1)]) (st' := [.int (-1)]) rfl ?_
      subst H
      exact Ev.ret rfl
    · replace H := H.2 hc
      refine Ev.steps 1 (pc' := 13) (L' := [some (.ref 12), some (.int x1)]) (st' := [.int (-1)]) rfl ?_
      subst H
      exact Ev.ret rfl

def F83 (M : Mem) (x1 : Int32) : Int32 := (if x1 < 0 then (-1) else (if x1 < ((M 12) 1) then (if ((M 13) (x1 : Int32).toNatClampNeg) = 100 then 3 else (if ((M 13) (x1 : Int32).toNatClampNeg) = 108 then 2 else (if ((M 13) (x1 : Int32).toNatClampNeg) = 114 then 0 else (if ((M 13) (x1 : Int32).toNatClampNeg) = 117 then 1 else (-1))))) else (-1)))
def P83 (M : Mem) (x1 : Int32) : Prop := ((x1 < 0 → True) ∧ (¬ x1 < 0 → ((x1 < ((M 12) 1) → (inb x1 40)) ∧ (¬ x1 < ((M 12) 1) → True))))
theorem s83 {E : gw_N} {M : Mem} {x1 : Int32} (H : P83 M x1) : Rn 83 [.ref 12, .int x1] (hs E M) (some (.int (F83 M x1))) (hs E M) :=
  w83_0 (⟨fun h0 => gw_reteq (if_pos h0), fun h0 => ⟨fun h1 => ⟨((H.2 h0).1 h1), ⟨fun h2 => gw_reteq (((if_neg h0).trans (if_pos h1)).trans (if_pos h2)), fun h3 => gw_reteq ((((if_neg h0).trans (if_pos h1)).trans (if_neg (fun k => absurd (h3.symm.trans k) (by decide)))).trans (if_pos h3)), fun h4 => gw_reteq (((((if_neg h0).trans (if_pos h1)).trans (if_neg (fun k => absurd (h4.symm.trans k) (by decide)))).trans (if_neg (fun k => absurd (h4.symm.trans k) (by decide)))).trans (if_pos h4)), fun h5 => gw_reteq ((((((if_neg h0).trans (if_pos h1)).trans (if_neg (fun k => absurd (h5.symm.trans k) (by decide)))).trans (if_neg (fun k => absurd (h5.symm.trans k) (by decide)))).trans (if_neg (fun k => absurd (h5.symm.trans k) (by decide)))).trans (if_pos h5)), fun h2 h3 h4 h5 => gw_reteq ((((((if_neg h0).trans (if_pos h1)).trans (if_neg h2)).trans (if_neg h3)).trans (if_neg h4)).trans (if_neg h5))⟩⟩, fun h1 => gw_reteq ((if_neg h0).trans (if_neg h1))⟩⟩)
-- 92 GlassWires$Painter isFree (I[III)Z
theorem w92_0 {E : gw_N} {M : Mem} {res : Option Value × gw_H} {x0 : Int32} {x2 : Int32} {x3 : Int32} (H : Ev 1 92 3 [some (.int x0), some (.ref 39), some (.int x2), some (.int x3), some (.int 0)] [] (hs E M) res) : Ev 1 92 0 [some (.int x0), some (.ref 39), some (.int x2), some (.int x3), none] [] (hs E M) res := by
  refine Ev.steps 2 (pc' := 3) (L' := [some (.int x0), some (.ref 39), some (.int x2), some (.int x3), some (.int 0)]) (st' := []) rfl ?_
  exact Ev.weak [some (.int x0), some (.ref 39), some (.int x2), some (.int x3), some (.int 0)] (gw_leb_le ⟨rfl, rfl, rfl, rfl, rfl, trivial⟩) H

theorem w92_3 {E : gw_N} {M : Mem} {res : Option Value × gw_H} {x0 : Int32} {x2 : Int32} {x3 : Int32} {x4 : Int32} (H : ((x2 ≤ x4 → res = (some (.int 1), hs E M)) ∧ (¬ x2 ≤ x4 → ((((x0 >>> (x4 &&& 31)) &&& 1) = 1 → (inb x4 10 ∧ ((((M 39) (x4 : Int32).toNatClampNeg) = x3 → res = (some (.int 0), hs E M)) ∧ (¬ ((M 39) (x4 : Int32).toNatClampNeg) = x3 → Ev 1 92 3 [some (.int x0), some (.ref 39), some (.int x2), some (.int x3), some (.int (x4 + 1))] [] (hs E M) res)))) ∧ (¬ ((x0 >>> (x4 &&& 31)) &&& 1) = 1 → Ev 1 92 3 [some (.int x0), some (.ref 39), some (.int x2), some (.int x3), some (.int (x4 + 1))] [] (hs E M) res))))) : Ev 1 92 3 [some (.int x0), some (.ref 39), some (.int x2), some (.int x3), some (.int x4)] [] (hs E M) res := by
  refine Ev.steps 3 (pc' := if x2 ≤ x4 then 35 else 9) (L' := [some (.int x0), some (.ref 39), some (.int x2), some (.int x3), some (.int x4)]) (st' := []) rfl ?_
  refine Ev_ite (fun hc => ?_) (fun hc => ?_)
  · replace H := H.1 hc
    refine Ev.steps 1 (pc' := 36) (L' := [some (.int x0), some (.ref 39), some (.int x2), some (.int x3), some (.int x4)]) (st' := [.int 1]) rfl ?_
    subst H
    exact Ev.ret rfl
  · replace H := H.2 hc
    refine Ev.steps 7 (pc' := if ((x0 >>> (x4 &&& 31)) &&& 1) = 1 then 19 else 29) (L' := [some (.int x0), some (.ref 39), some (.int x2), some (.int x3), some (.int x4)]) (st' := []) rfl ?_
    refine Ev_ite (fun hc => ?_) (fun hc => ?_)
    · replace H := H.1 hc
      refine Ev.steps 2 (pc' := 22) (L' := [some (.int x0), some (.ref 39), some (.int x2), some (.int x3), some (.int x4)]) (st' := [.int x4, .ref 39]) rfl ?_
      refine Ev.rd (i := x4) (n := 10) (pc' := 23) (L' := [some (.int x0), some (.ref 39), some (.int x2), some (.int x3), some (.int x4)]) (st' := [.int ((M 39) (x4 : Int32).toNatClampNeg)]) H.1 rfl ?_
      replace H := H.2
      refine Ev.steps 2 (pc' := if ((M 39) (x4 : Int32).toNatClampNeg) = x3 then 27 else 29) (L' := [some (.int x0), some (.ref 39), some (.int x2), some (.int x3), some (.int x4)]) (st' := []) rfl ?_
      refine Ev_ite (fun hc => ?_) (fun hc => ?_)
      · replace H := H.1 hc
        refine Ev.steps 1 (pc' := 28) (L' := [some (.int x0), some (.ref 39), some (.int x2), some (.int x3), some (.int x4)]) (st' := [.int 0]) rfl ?_
        subst H
        exact Ev.ret rfl
      · replace H := H.2 hc
        refine Ev.steps 2 (pc' := 3) (L' := [some (.int x0), some (.ref 39), some (.int x2), some (.int x3), some (.int (x4 + 1))]) (st' := []) rfl ?_
        exact Ev.weak [some (.int x0), some (.ref 39), some (.int x2), some (.int x3), some (.int (x4 + 1))] (gw_leb_le ⟨rfl, rfl, rfl, rfl, rfl, trivial⟩) H
    · replace H := H.2 hc
      refine Ev.steps 2 (pc' := 3) (L' := [some (.int x0), some (.ref 39), some (.int x2), some (.int x3), some (.int (x4 + 1))]) (st' := []) rfl ?_
      exact Ev.weak [some (.int x0), some (.ref 39), some (.int x2), some (.int x3), some (.int (x4 + 1))] (gw_leb_le ⟨rfl, rfl, rfl, rfl, rfl, trivial⟩) H

-- 94 GlassWires$Palette has (I)Z
theorem w94_0 {E : gw_N} {M : Mem} {res : Option Value × gw_H} {x0 : Int32} (H : ((x0 < 0 → res = (some (.int 0), hs E M)) ∧ (¬ x0 < 0 → ((8 ≤ x0 → res = (some (.int 0), hs E M)) ∧ (¬ 8 ≤ x0 → res = (some (.int 1), hs E M)))))) : Ev 1 94 0 [some (.int x0)] [] (hs E M) res := by
  refine Ev.steps 2 (pc' := if x0 < 0 then 14 else 4) (L' := [some (.int x0)]) (st' := []) rfl ?_
  refine Ev_ite (fun hc => ?_) (fun hc => ?_)
  · replace H := H.1 hc
    refine Ev.steps 1 (pc' := 15) (L' := [some (.int x0)]) (st' := [.int 0]) rfl ?_
    subst H
    exact Ev.ret rfl
  · replace H := H.2 hc
    refine Ev.steps 3 (pc' := if 8 ≤ x0 then 14 else 10) (L' := [some (.int x0)]) (st' := []) rfl ?_
    refine Ev_ite (fun hc => ?_) (fun hc => ?_)
    · replace H := H.1 hc
      refine Ev.steps 1 (pc' := 15) (L' := [some (.int x0)]) (st' := [.int 0]) rfl ?_
      subst H
      exact Ev.ret rfl
    · replace H := H.2 hc
      refine Ev.steps 2 (pc' := 15) (L' := [some (.int x0)]) (st' := [.int 1]) rfl ?_
      subst H
      exact Ev.ret rfl

def F94 (M : Mem) (x0 : Int32) : Int32 := (if x0 < 0 then 0 else (if 8 ≤ x0 then 0 else 1))
theorem bb94 {M : Mem} {x0 : Int32} : F94 M x0 &&& 1 = F94 M x0 := by
  unfold F94
  (repeat' split) <;> first | rfl | decide
theorem s94 {E : gw_N} {M : Mem} {x0 : Int32} : Rn 94 [.int x0] (hs E M) (some (.int (F94 M x0))) (hs E M) :=
  w94_0 (⟨fun h0 => gw_reteq (if_pos h0), fun h0 => ⟨fun h1 => gw_reteq ((if_neg h0).trans (if_pos h1)), fun h1 => gw_reteq ((if_neg h0).trans (if_neg h1))⟩⟩)
-- 95 GlassWires$Palette hasTrait (I)Z
theorem w95_0 {E : gw_N} {M : Mem} {res : Option Value × gw_H} {x0 : Int32} (H : ((x0 < 0 → res = (some (.int 0), hs E M)) ∧ (¬ x0 < 0 → ((3 ≤ x0 → res = (some (.int 0), hs E M)) ∧ (¬ 3 ≤ x0 → res = (some (.int 1), hs E M)))))) : Ev 1 95 0 [some (.int x0)] [] (hs E M) res := by
  refine Ev.steps 2 (pc' := if x0 < 0 then 13 else 4) (L' := [some (.int x0)]) (st' := []) rfl ?_
  refine Ev_ite (fun hc => ?_) (fun hc => ?_)
  · replace H := H.1 hc
    refine Ev.steps 1 (pc' := 14) (L' := [some (.int x0)]) (st' := [.int 0]) rfl ?_
    subst H
    exact Ev.ret rfl
  · replace H := H.2 hc
    refine Ev.steps 3 (pc' := if 3 ≤ x0 then 13 else 9) (L' := [some (.int x0)]) (st' := []) rfl ?_
    refine Ev_ite (fun hc => ?_) (fun hc => ?_)
    · replace H := H.1 hc
      refine Ev.steps 1 (pc' := 14) (L' := [some (.int x0)]) (st' := [.int 0]) rfl ?_
      subst H
      exact Ev.ret rfl
    · replace H := H.2 hc
      refine Ev.steps 2 (pc' := 14) (L' := [some (.int x0)]) (st' := [.int 1]) rfl ?_
      subst H
      exact Ev.ret rfl

def F95 (M : Mem) (x0 : Int32) : Int32 := (if x0 < 0 then 0 else (if 3 ≤ x0 then 0 else 1))
theorem bb95 {M : Mem} {x0 : Int32} : F95 M x0 &&& 1 = F95 M x0 := by
  unfold F95
  (repeat' split) <;> first | rfl | decide
theorem s95 {E : gw_N} {M : Mem} {x0 : Int32} : Rn 95 [.int x0] (hs E M) (some (.int (F95 M x0))) (hs E M) :=
  w95_0 (⟨fun h0 => gw_reteq (if_pos h0), fun h0 => ⟨fun h1 => gw_reteq ((if_neg h0).trans (if_pos h1)), fun h1 => gw_reteq ((if_neg h0).trans (if_neg h1))⟩⟩)
-- 96 GlassWires$Palette hasRule (I)Z
theorem w96_0 {E : gw_N} {M : Mem} {res : Option Value × gw_H} {x0 : Int32} (H : ((x0 < 0 → res = (some (.int 0), hs E M)) ∧ (¬ x0 < 0 → ((3 ≤ x0 → res = (some (.int 0), hs E M)) ∧ (¬ 3 ≤ x0 → res = (some (.int 1), hs E M)))))) : Ev 1 96 0 [some (.int x0)] [] (hs E M) res := by
  refine Ev.steps 2 (pc' := if x0 < 0 then 13 else 4) (L' := [some (.int x0)]) (st' := []) rfl ?_
  refine Ev_ite (fun hc => ?_) (fun hc => ?_)
  · replace H := H.1 hc
    refine Ev.steps 1 (pc' := 14) (L' := [some (.int x0)]) (st' := [.int 0]) rfl ?_
    subst H
    exact Ev.ret rfl
  · replace H := H.2 hc
    refine Ev.steps 3 (pc' := if 3 ≤ x0 then 13 else 9) (L' := [some (.int x0)]) (st' := []) rfl ?_
    refine Ev_ite (fun hc => ?_) (fun hc => ?_)
    · replace H := H.1 hc
      refine Ev.steps 1 (pc' := 14) (L' := [some (.int x0)]) (st' := [.int 0]) rfl ?_
      subst H
      exact Ev.ret rfl
    · replace H := H.2 hc
      refine Ev.steps 2 (pc' := 14) (L' := [some (.int x0)]) (st' := [.int 1]) rfl ?_
      subst H
      exact Ev.ret rfl

def F96 (M : Mem) (x0 : Int32) : Int32 := (if x0 < 0 then 0 else (if 3 ≤ x0 then 0 else 1))
theorem bb96 {M : Mem} {x0 : Int32} : F96 M x0 &&& 1 = F96 M x0 := by
  unfold F96
  (repeat' split) <;> first | rfl | decide
theorem s96 {E : gw_N} {M : Mem} {x0 : Int32} : Rn 96 [.int x0] (hs E M) (some (.int (F96 M x0))) (hs E M) :=
  w96_0 (⟨fun h0 => gw_reteq (if_pos h0), fun h0 => ⟨fun h1 => gw_reteq ((if_neg h0).trans (if_pos h1)), fun h1 => gw_reteq ((if_neg h0).trans (if_neg h1))⟩⟩)
-- 97 GlassWires$Palette setTrait (III)I
theorem w97_0 {E : gw_N} {M : Mem} {res : Option Value × gw_H} {x1 : Int32} {x2 : Int32} {x3 : Int32} (H : (inb x2 3 ∧ ((x3 < ((gw_rcL E.1.1 E.1.2 1).2 (x2 : Int32).toNatClampNeg) → res = (some (.int (-102)), hs E M)) ∧ (¬ x3 < ((gw_rcL E.1.1 E.1.2 1).2 (x2 : Int32).toNatClampNeg) → (inb x2 3 ∧ ((x3 ≤ ((gw_rcL E.1.1 E.1.2 2).2 (x2 : Int32).toNatClampNeg) → (inb ((3 * x1) + x2) 24 ∧ (inb ((3 * x1) + x2) 24 ∧ res = (some (.int ((M 41) (((3 * x1) + x2) : Int32).toNatClampNeg)), hs E (up M 41 (upd (M 41) (((3 * x1) + x2) : Int32).toNatClampNeg x3)))))) ∧ (¬ x3 ≤ ((gw_rcL E.1.1 E.1.2 2).2 (x2 : Int32).toNatClampNeg) → res = (some (.int (-102)), hs E M)))))))) : Ev 1 97 0 [some (.ref 40), some (.int x1), some (.int x2), some (.int x3), none] [] (hs E M) res := by
  refine Ev.steps 3 (pc' := 5) (L' := [some (.ref 40), some (.int x1), some (.int x2), some (.int x3), none]) (st' := [.int x2, .ref 1, .int x3]) rfl ?_
  refine Ev.rd (i := x2) (n := 3) (pc' := 6) (L' := [some (.ref 40), some (.int x1), some (.int x2), some (.int x3), none]) (st' := [.int ((gw_rcL E.1.1 E.1.2 1).2 (x2 : Int32).toNatClampNeg), .int x3]) H.1 rfl ?_
  replace H := H.2
  refine Ev.steps 1 (pc' := if x3 < ((gw_rcL E.1.1 E.1.2 1).2 (x2 : Int32).toNatClampNeg) then 18 else 9) (L' := [some (.ref 40), some (.int x1), some (.int x2), some (.int x3), none]) (st' := []) rfl ?_
  refine Ev_ite (fun hc => ?_) (fun hc => ?_)
  · replace H := H.1 hc
    refine Ev.steps 1 (pc' := 20) (L' := [some (.ref 40), some (.int x1), some (.int x2), some (.int x3), none]) (st' := [.int (-102)]) rfl ?_
    subst H
    exact Ev.ret rfl
  · replace H := H.2 hc
    refine Ev.steps 3 (pc' := 14) (L' := [some (.ref 40), some (.int x1), some (.int x2), some (.int x3), none]) (st' := [.int x2, .ref 2, .int x3]) rfl ?_
    refine Ev.rd (i := x2) (n := 3) (pc' := 15) (L' := [some (.ref 40), some (.int x1), some (.int x2), some (.int x3), none]) (st' := [.int ((gw_rcL E.1.1 E.1.2 2).2 (x2 : Int32).toNatClampNeg), .int x3]) H.1 rfl ?_
    replace H := H.2
    refine Ev.steps 1 (pc' := if x3 ≤ ((gw_rcL E.1.1 E.1.2 2).2 (x2 : Int32).toNatClampNeg) then 21 else 18) (L' := [some (.ref 40), some (.int x1), some (.int x2), some (.int x3), none]) (st' := []) rfl ?_
    refine Ev_ite (fun hc => ?_) (fun hc => ?_)
    · replace H := H.1 hc
      refine Ev.steps 7 (pc' := 30) (L' := [some (.ref 40), some (.int x1), some (.int x2), some (.int x3), none]) (st' := [.int ((3 * x1) + x2), .ref 41]) rfl ?_
      refine Ev.rd (i := ((3 * x1) + x2)) (n := 24) (pc' := 31) (L' := [some (.ref 40), some (.int x1), some (.int x2), some (.int x3), none]) (st' := [.int ((M 41) (((3 * x1) + x2) : Int32).toNatClampNeg)]) H.1 rfl ?_
      replace H := H.2
      refine Ev.steps 9 (pc' := 43) (L' := [some (.ref 40), some (.int x1), some (.int x2), some (.int x3), some (.int ((M 41) (((3 * x1) + x2) : Int32).toNatClampNeg))]) (st' := [.int x3, .int ((3 * x1) + x2), .ref 41]) rfl ?_
      refine Ev.wr (a := 41) (g := (upd (M 41) (((3 * x1) + x2) : Int32).toNatClampNeg x3)) (i := ((3 * x1) + x2)) (n := 24) (pc' := 44) (L' := [some (.ref 40), some (.int x1), some (.int x2), some (.int x3), some (.int ((M 41) (((3 * x1) + x2) : Int32).toNatClampNeg))]) (st' := []) (by decide) H.1 rfl ?_
      replace H := H.2
      refine Ev.steps 1 (pc' := 46) (L' := [some (.ref 40), some (.int x1), some (.int x2), some (.int x3), some (.int ((M 41) (((3 * x1) + x2) : Int32).toNatClampNeg))]) (st' := [.int ((M 41) (((3 * x1) + x2) : Int32).toNatClampNeg)]) rfl ?_
      subst H
      exact Ev.ret rfl
    · replace H := H.2 hc
      refine Ev.steps 1 (pc' := 20) (L' := [some (.ref 40), some (.int x1), some (.int x2), some (.int x3), none]) (st' := [.int (-102)]) rfl ?_
      subst H
      exact Ev.ret rfl

-- 98 GlassWires$Palette setRule (II)I
theorem w98_0 {E : gw_N} {M : Mem} {res : Option Value × gw_H} {x1 : Int32} {x2 : Int32} (H : ((x2 < 1 → res = (some (.int (-102)), hs E M)) ∧ (¬ x2 < 1 → (inb x1 3 ∧ ((x2 ≤ ((gw_rcL E.1.1 E.1.2 4).2 (x1 : Int32).toNatClampNeg) → (inb x1 3 ∧ (inb x1 3 ∧ res = (some (.int ((M 43) (x1 : Int32).toNatClampNeg)), hs E (up M 43 (upd (M 43) (x1 : Int32).toNatClampNeg x2)))))) ∧ (¬ x2 ≤ ((gw_rcL E.1.1 E.1.2 4).2 (x1 : Int32).toNatClampNeg) → res = (some (.int (-102)), hs E M))))))) : Ev 1 98 0 [some (.ref 40), some (.int x1), some (.int x2), none] [] (hs E M) res := by
  refine Ev.steps 3 (pc' := if x2 < 1 then 14 else 5) (L' := [some (.ref 40), some (.int x1), some (.int x2), none]) (st' := []) rfl ?_
  refine Ev_ite (fun hc => ?_) (fun hc => ?_)
  · replace H := H.1 hc
    refine Ev.steps 1 (pc' := 16) (L' := [some (.ref 40), some (.int x1), some (.int x2), none]) (st' := [.int (-102)]) rfl ?_
    subst H
    exact Ev.ret rfl
  · replace H := H.2 hc
    refine Ev.steps 3 (pc' := 10) (L' := [some (.ref 40), some (.int x1), some (.int x2), none]) (st' := [.int x1, .ref 4, .int x2]) rfl ?_
    refine Ev.rd (i := x1) (n := 3) (pc' := 11) (L' := [some (.ref 40), some (.int x1), some (.int x2), none]) (st' := [.int ((gw_rcL E.1.1 E.1.2 4).2 (x1 : Int32).toNatClampNeg), .int x2]) H.1 rfl ?_
    replace H := H.2
    refine Ev.steps 1 (pc' := if x2 ≤ ((gw_rcL E.1.1 E.1.2 4).2 (x1 : Int32).toNatClampNeg) then 17 else 14) (L' := [some (.ref 40), some (.int x1), some (.int x2), none]) (st' := []) rfl ?_
    refine Ev_ite (fun hc => ?_) (fun hc => ?_)
    · replace H := H.1 hc
      refine Ev.steps 3 (pc' := 22) (L' := [some (.ref 40), some (.int x1), some (.int x2), none]) (st' := [.int x1, .ref 43]) rfl ?_
      refine Ev.rd (i := x1) (n := 3) (pc' := 23) (L' := [some (.ref 40), some (.int x1), some (.int x2), none]) (st' := [.int ((M 43) (x1 : Int32).toNatClampNeg)]) H.1 rfl ?_
      replace H := H.2
      refine Ev.steps 5 (pc' := 30) (L' := [some (.ref 40), some (.int x1), some (.int x2), some (.int ((M 43) (x1 : Int32).toNatClampNeg))]) (st' := [.int x2, .int x1, .ref 43]) rfl ?_
      refine Ev.wr (a := 43) (g := (upd (M 43) (x1 : Int32).toNatClampNeg x2)) (i := x1) (n := 3) (pc' := 31) (L' := [some (.ref 40), some (.int x1), some (.int x2), some (.int ((M 43) (x1 : Int32).toNatClampNeg))]) (st' := []) (by decide) H.1 rfl ?_
      replace H := H.2
      refine Ev.steps 1 (pc' := 32) (L' := [some (.ref 40), some (.int x1), some (.int x2), some (.int ((M 43) (x1 : Int32).toNatClampNeg))]) (st' := [.int ((M 43) (x1 : Int32).toNatClampNeg)]) rfl ?_
      subst H
      exact Ev.ret rfl
    · replace H := H.2 hc
      refine Ev.steps 1 (pc' := 16) (L' := [some (.ref 40), some (.int x1), some (.int x2), none]) (st' := [.int (-102)]) rfl ?_
      subst H
      exact Ev.ret rfl

-- 99 GlassWires$Palette heatOf (I)I
theorem w99_0 {E : gw_N} {M : Mem} {res : Option Value × gw_H} {x1 : Int32} (H : (inb ((3 * x1) + 0) 24 ∧ res = (some (.int ((M 41) (((3 * x1) + 0) : Int32).toNatClampNeg)), hs E M))) : Ev 1 99 0 [some (.ref 40), some (.int x1)] [] (hs E M) res := by
  refine Ev.steps 7 (pc' := 9) (L' := [some (.ref 40), some (.int x1)]) (st' := [.int ((3 * x1) + 0), .ref 41]) rfl ?_
  refine Ev.rd (i := ((3 * x1) + 0)) (n := 24) (pc' := 10) (L' := [some (.ref 40), some (.int x1)]) (st' := [.int ((M 41) (((3 * x1) + 0) : Int32).toNatClampNeg)]) H.1 rfl ?_
  replace H := H.2
  subst H
  exact Ev.ret rfl

def F99 (M : Mem) (x1 : Int32) : Int32 := ((M 41) (((3 * x1) + 0) : Int32).toNatClampNeg)
def P99 (M : Mem) (x1 : Int32) : Prop := (inb ((3 * x1) + 0) 24)
theorem s99 {E : gw_N} {M : Mem} {x1 : Int32} (H : P99 M x1) : Rn 99 [.ref 40, .int x1] (hs E M) (some (.int (F99 M x1))) (hs E M) :=
  w99_0 (⟨H, rfl⟩)
-- 101 GlassWires$Palette pullOf (I)I
theorem w101_0 {E : gw_N} {M : Mem} {res : Option Value × gw_H} {x1 : Int32} (H : (inb ((3 * x1) + 2) 24 ∧ res = (some (.int ((M 41) (((3 * x1) + 2) : Int32).toNatClampNeg)), hs E M))) : Ev 1 101 0 [some (.ref 40), some (.int x1)] [] (hs E M) res := by
  refine Ev.steps 7 (pc' := 9) (L' := [some (.ref 40), some (.int x1)]) (st' := [.int ((3 * x1) + 2), .ref 41]) rfl ?_
  refine Ev.rd (i := ((3 * x1) + 2)) (n := 24) (pc' := 10) (L' := [some (.ref 40), some (.int x1)]) (st' := [.int ((M 41) (((3 * x1) + 2) : Int32).toNatClampNeg)]) H.1 rfl ?_
  replace H := H.2
  subst H
  exact Ev.ret rfl

def F101 (M : Mem) (x1 : Int32) : Int32 := ((M 41) (((3 * x1) + 2) : Int32).toNatClampNeg)
def P101 (M : Mem) (x1 : Int32) : Prop := (inb ((3 * x1) + 2) 24)
theorem s101 {E : gw_N} {M : Mem} {x1 : Int32} (H : P101 M x1) : Rn 101 [.ref 40, .int x1] (hs E M) (some (.int (F101 M x1))) (hs E M) :=
  w101_0 (⟨H, rfl⟩)
-- 102 GlassWires$Palette shrunk (II)I
theorem w102_0 {E : gw_N} {M : Mem} {res : Option Value × gw_H} {x1 : Int32} {x2 : Int32} (H : (inb ((3 * x1) + 1) 24 ∧ res = (some (.int (x2 - ((x2 * ((M 41) (((3 * x1) + 1) : Int32).toNatClampNeg)) / 10))), hs E M))) : Ev 1 102 0 [some (.ref 40), some (.int x1), some (.int x2)] [] (hs E M) res := by
  refine Ev.steps 9 (pc' := 11) (L' := [some (.ref 40), some (.int x1), some (.int x2)]) (st' := [.int ((3 * x1) + 1), .ref 41, .int x2, .int x2]) rfl ?_
  refine Ev.rd (i := ((3 * x1) + 1)) (n := 24) (pc' := 12) (L' := [some (.ref 40), some (.int x1), some (.int x2)]) (st' := [.int ((M 41) (((3 * x1) + 1) : Int32).toNatClampNeg), .int x2, .int x2]) H.1 rfl ?_
  replace H := H.2
  refine Ev.steps 2 (pc' := 15) (L' := [some (.ref 40), some (.int x1), some (.int x2)]) (st' := [.int 10, .int (x2 * ((M 41) (((3 * x1) + 1) : Int32).toNatClampNeg)), .int x2]) rfl ?_
  refine Ev.dv (y := 10) (pc' := 16) (L' := [some (.ref 40), some (.int x1), some (.int x2)]) (st' := [.int ((x2 * ((M 41) (((3 * x1) + 1) : Int32).toNatClampNeg)) / 10), .int x2]) (by decide) rfl ?_
  refine Ev.steps 1 (pc' := 17) (L' := [some (.ref 40), some (.int x1), some (.int x2)]) (st' := [.int (x2 - ((x2 * ((M 41) (((3 * x1) + 1) : Int32).toNatClampNeg)) / 10))]) rfl ?_
  subst H
  exact Ev.ret rfl

def F102 (M : Mem) (x1 : Int32) (x2 : Int32) : Int32 := (x2 - ((x2 * ((M 41) (((3 * x1) + 1) : Int32).toNatClampNeg)) / 10))
def P102 (M : Mem) (x1 : Int32) (x2 : Int32) : Prop := (inb ((3 * x1) + 1) 24)
theorem s102 {E : gw_N} {M : Mem} {x1 : Int32} {x2 : Int32} (H : P102 M x1 x2) : Rn 102 [.ref 40, .int x1, .int x2] (hs E M) (some (.int (F102 M x1 x2))) (hs E M) :=
  w102_0 (⟨H, rfl⟩)
-- 103 GlassWires$Palette wall ()I
theorem w103_0 {E : gw_N} {M : Mem} {res : Option Value × gw_H}  (H : (inb 0 3 ∧ res = (some (.int ((M 43) (0 : Int32).toNatClampNeg)), hs E M))) : Ev 1 103 0 [some (.ref 40)] [] (hs E M) res := by
  refine Ev.steps 3 (pc' := 5) (L' := [some (.ref 40)]) (st' := [.int 0, .ref 43]) rfl ?_
  refine Ev.rd (i := 0) (n := 3) (pc' := 6) (L' := [some (.ref 40)]) (st' := [.int ((M 43) (0 : Int32).toNatClampNeg)]) H.1 rfl ?_
  replace H := H.2
  subst H
  exact Ev.ret rfl

def F103 (M : Mem) : Int32 := ((M 43) (0 : Int32).toNatClampNeg)
def P103 (M : Mem) : Prop := (inb 0 3)
theorem s103 {E : gw_N} {M : Mem} (H : P103 M) : Rn 103 [.ref 40] (hs E M) (some (.int (F103 M))) (hs E M) :=
  w103_0 (⟨H, rfl⟩)
-- 104 GlassWires$Palette stiff ()I
theorem w104_0 {E : gw_N} {M : Mem} {res : Option Value × gw_H}  (H : (inb 1 3 ∧ res = (some (.int ((M 43) (1 : Int32).toNatClampNeg)), hs E M))) : Ev 1 104 0 [some (.ref 40)] [] (hs E M) res := by
  refine Ev.steps 3 (pc' := 5) (L' := [some (.ref 40)]) (st' := [.int 1, .ref 43]) rfl ?_
  refine Ev.rd (i := 1) (n := 3) (pc' := 6) (L' := [some (.ref 40)]) (st' := [.int ((M 43) (1 : Int32).toNatClampNeg)]) H.1 rfl ?_
  replace H := H.2
  subst H
  exact Ev.ret rfl

def F104 (M : Mem) : Int32 := ((M 43) (1 : Int32).toNatClampNeg)
def P104 (M : Mem) : Prop := (inb 1 3)
theorem s104 {E : gw_N} {M : Mem} (H : P104 M) : Rn 104 [.ref 40] (hs E M) (some (.int (F104 M))) (hs E M) :=
  w104_0 (⟨H, rfl⟩)
-- 105 GlassWires$Palette bear ()I
theorem w105_0 {E : gw_N} {M : Mem} {res : Option Value × gw_H}  (H : (inb 2 3 ∧ res = (some (.int ((M 43) (2 : Int32).toNatClampNeg)), hs E M))) : Ev 1 105 0 [some (.ref 40)] [] (hs E M) res := by
  refine Ev.steps 3 (pc' := 5) (L' := [some (.ref 40)]) (st' := [.int 2, .ref 43]) rfl ?_
  refine Ev.rd (i := 2) (n := 3) (pc' := 6) (L' := [some (.ref 40)]) (st' := [.int ((M 43) (2 : Int32).toNatClampNeg)]) H.1 rfl ?_
  replace H := H.2
  subst H
  exact Ev.ret rfl

def F105 (M : Mem) : Int32 := ((M 43) (2 : Int32).toNatClampNeg)
def P105 (M : Mem) : Prop := (inb 2 3)
theorem s105 {E : gw_N} {M : Mem} (H : P105 M) : Rn 105 [.ref 40] (hs E M) (some (.int (F105 M))) (hs E M) :=
  w105_0 (⟨H, rfl⟩)
-- 106 GlassWires$Palette areFoes (II)Z
theorem w106_0 {E : gw_N} {M : Mem} {res : Option Value × gw_H} {x1 : Int32} {x2 : Int32} (H : (inb x1 8 ∧ ((((((M 42) (x1 : Int32).toNatClampNeg) >>> (x2 &&& 31)) &&& 1) = 1 → res = (some (.int 1), hs E M)) ∧ (¬ ((((M 42) (x1 : Int32).toNatClampNeg) >>> (x2 &&& 31)) &&& 1) = 1 → res = (some (.int 0), hs E M))))) : Ev 1 106 0 [some (.ref 40), some (.int x1), some (.int x2)] [] (hs E M) res := by
  refine Ev.steps 3 (pc' := 5) (L' := [some (.ref 40), some (.int x1), some (.int x2)]) (st' := [.int x1, .ref 42]) rfl ?_
  refine Ev.rd (i := x1) (n := 8) (pc' := 6) (L' := [some (.ref 40), some (.int x1), some (.int x2)]) (st' := [.int ((M 42) (x1 : Int32).toNatClampNeg)]) H.1 rfl ?_
  replace H := H.2
  refine Ev.steps 6 (pc' := if ((((M 42) (x1 : Int32).toNatClampNeg) >>> (x2 &&& 31)) &&& 1) = 1 then 14 else 18) (L' := [some (.ref 40), some (.int x1), some (.int x2)]) (st' := []) rfl ?_
  refine Ev_ite (fun hc => ?_) (fun hc => ?_)
  · replace H := H.1 hc
    refine Ev.steps 2 (pc' := 19) (L' := [some (.ref 40), some (.int x1), some (.int x2)]) (st' := [.int 1]) rfl ?_
    subst H
    exact Ev.ret rfl
  · replace H := H.2 hc
    refine Ev.steps 1 (pc' := 19) (L' := [some (.ref 40), some (.int x1), some (.int x2)]) (st' := [.int 0]) rfl ?_
    subst H
    exact Ev.ret rfl

def F106 (M : Mem) (x1 : Int32) (x2 : Int32) : Int32 := (if ((((M 42) (x1 : Int32).toNatClampNeg) >>> (x2 &&& 31)) &&& 1) = 1 then 1 else 0)
def P106 (M : Mem) (x1 : Int32) (x2 : Int32) : Prop := (inb x1 8)
theorem bb106 {M : Mem} {x1 : Int32} {x2 : Int32} : F106 M x1 x2 &&& 1 = F106 M x1 x2 := by
  unfold F106
  (repeat' split) <;> first | rfl | decide
theorem s106 {E : gw_N} {M : Mem} {x1 : Int32} {x2 : Int32} (H : P106 M x1 x2) : Rn 106 [.ref 40, .int x1, .int x2] (hs E M) (some (.int (F106 M x1 x2))) (hs E M) :=
  w106_0 (⟨H, ⟨fun h0 => gw_reteq (if_pos h0), fun h0 => gw_reteq (if_neg h0)⟩⟩)
-- 107 GlassWires$Palette setFoes (IIZ)V
theorem w107_0 {E : gw_N} {M : Mem} {res : Option Value × gw_H} {x1 : Int32} {x2 : Int32} {x3 : Int32} (H : ((x3 = 0 → (inb x1 8 ∧ (inb x1 8 ∧ ((x3 = 0 → (inb x2 8 ∧ (inb x2 8 ∧ res = (none, hs E (up M 42 (upd (upd (M 42) (x1 : Int32).toNatClampNeg (((M 42) (x1 : Int32).toNatClampNeg) &&& ((1 <<< (x2 &&& 31)) ^^^ (-1)))) (x2 : Int32).toNatClampNeg (((upd (M 42) (x1 : Int32).toNatClampNeg (((M 42) (x1 : Int32).toNatClampNeg) &&& ((1 <<< (x2 &&& 31)) ^^^ (-1)))) (x2 : Int32).toNatClampNeg) &&& ((1 <<< (x1 &&& 31)) ^^^ (-1))))))))) ∧ (¬ x3 = 0 → (inb x2 8 ∧ (inb x2 8 ∧ res = (none, hs E (up M 42 (upd (upd (M 42) (x1 : Int32).toNatClampNeg (((M 42) (x1 : Int32).toNatClampNeg) &&& ((1 <<< (x2 &&& 31)) ^^^ (-1)))) (x2 : Int32).toNatClampNeg (((upd (M 42) (x1 : Int32).toNatClampNeg (((M 42) (x1 : Int32).toNatClampNeg) &&& ((1 <<< (x2 &&& 31)) ^^^ (-1)))) (x2 : Int32).toNatClampNeg) ||| (1 <<< (x1 &&& 31))))))))))))) ∧ (¬ x3 = 0 → (inb x1 8 ∧ (inb x1 8 ∧ ((x3 = 0 → (inb x2 8 ∧ (inb x2 8 ∧ res = (none, hs E (up M 42 (upd (upd (M 42) (x1 : Int32).toNatClampNeg (((M 42) (x1 : Int32).toNatClampNeg) ||| (1 <<< (x2 &&& 31)))) (x2 : Int32).toNatClampNeg (((upd (M 42) (x1 : Int32).toNatClampNeg (((M 42) (x1 : Int32).toNatClampNeg) ||| (1 <<< (x2 &&& 31)))) (x2 : Int32).toNatClampNeg) &&& ((1 <<< (x1 &&& 31)) ^^^ (-1))))))))) ∧ (¬ x3 = 0 → (inb x2 8 ∧ (inb x2 8 ∧ res = (none, hs E (up M 42 (upd (upd (M 42) (x1 : Int32).toNatClampNeg (((M 42) (x1 : Int32).toNatClampNeg) ||| (1 <<< (x2 &&& 31)))) (x2 : Int32).toNatClampNeg (((upd (M 42) (x1 : Int32).toNatClampNeg (((M 42) (x1 : Int32).toNatClampNeg) ||| (1 <<< (x2 &&& 31)))) (x2 : Int32).toNatClampNeg) ||| (1 <<< (x1 &&& 31))))))))))))))) : Ev 1 107 0 [some (.ref 40), some (.int x1), some (.int x2), some (.int x3)] [] (hs E M) res := by
  refine Ev.steps 5 (pc' := if x3 = 0 then 22 else 9) (L' := [some (.ref 40), some (.int x1), some (.int x2), some (.int x3)]) (st' := [.int x1, .ref 42]) rfl ?_
  refine Ev_ite (fun hc => ?_) (fun hc => ?_)
  · replace H := H.1 hc
    refine Ev.steps 3 (pc' := 27) (L' := [some (.ref 40), some (.int x1), some (.int x2), some (.int x3)]) (st' := [.int x1, .ref 42, .int x1, .ref 42]) rfl ?_
    refine Ev.rd (i := x1) (n := 8) (pc' := 28) (L' := [some (.ref 40), some (.int x1), some (.int x2), some (.int x3)]) (st' := [.int ((M 42) (x1 : Int32).toNatClampNeg), .int x1, .ref 42]) H.1 rfl ?_
    replace H := H.2
    refine Ev.steps 6 (pc' := 34) (L' := [some (.ref 40), some (.int x1), some (.int x2), some (.int x3)]) (st' := [.int (((M 42) (x1 : Int32).toNatClampNeg) &&& ((1 <<< (x2 &&& 31)) ^^^ (-1))), .int x1, .ref 42]) rfl ?_
    refine Ev.wr (a := 42) (g := (upd (M 42) (x1 : Int32).toNatClampNeg (((M 42) (x1 : Int32).toNatClampNeg) &&& ((1 <<< (x2 &&& 31)) ^^^ (-1))))) (i := x1) (n := 8) (pc' := 35) (L' := [some (.ref 40), some (.int x1), some (.int x2), some (.int x3)]) (st' := []) (by decide) H.1 rfl ?_
    replace H := H.2
    refine Ev.steps 5 (pc' := if x3 = 0 then 57 else 44) (L' := [some (.ref 40), some (.int x1), some (.int x2), some (.int x3)]) (st' := [.int x2, .ref 42]) rfl ?_
    refine Ev_ite (fun hc => ?_) (fun hc => ?_)
    · replace H := H.1 hc
      refine Ev.steps 3 (pc' := 62) (L' := [some (.ref 40), some (.int x1), some (.int x2), some (.int x3)]) (st' := [.int x2, .ref 42, .int x2, .ref 42]) rfl ?_
      refine Ev.rd (i := x2) (n := 8) (pc' := 63) (L' := [some (.ref 40), some (.int x1), some (.int x2), some (.int x3)]) (st' := [.int ((upd (M 42) (x1 : Int32).toNatClampNeg (((M 42) (x1 : Int32).toNatClampNeg) &&& ((1 <<< (x2 &&& 31)) ^^^ (-1)))) (x2 : Int32).toNatClampNeg), .int x2, .ref 42]) H.1 rfl ?_
      replace H := H.2
      refine Ev.steps 6 (pc' := 69) (L' := [some (.ref 40), some (.int x1), some (.int x2), some (.int x3)]) (st' := [.int (((upd (M 42) (x1 : Int32).toNatClampNeg (((M 42) (x1 : Int32).toNatClampNeg) &&& ((1 <<< (x2 &&& 31)) ^^^ (-1)))) (x2 : Int32).toNatClampNeg) &&& ((1 <<< (x1 &&& 31)) ^^^ (-1))), .int x2, .ref 42]) rfl ?_
      refine Ev.wr (a := 42) (g := (upd (upd (M 42) (x1 : Int32).toNatClampNeg (((M 42) (x1 : Int32).toNatClampNeg) &&& ((1 <<< (x2 &&& 31)) ^^^ (-1)))) (x2 : Int32).toNatClampNeg (((upd (M 42) (x1 : Int32).toNatClampNeg (((M 42) (x1 : Int32).toNatClampNeg) &&& ((1 <<< (x2 &&& 31)) ^^^ (-1)))) (x2 : Int32).toNatClampNeg) &&& ((1 <<< (x1 &&& 31)) ^^^ (-1))))) (i := x2) (n := 8) (pc' := 70) (L' := [some (.ref 40), some (.int x1), some (.int x2), some (.int x3)]) (st' := []) (by decide) H.1 rfl ?_
      replace H := H.2
      refine Ev.mto (M' := (up M 42 (upd (upd (M 42) (x1 : Int32).toNatClampNeg (((M 42) (x1 : Int32).toNatClampNeg) &&& ((1 <<< (x2 &&& 31)) ^^^ (-1)))) (x2 : Int32).toNatClampNeg (((upd (M 42) (x1 : Int32).toNatClampNeg (((M 42) (x1 : Int32).toNatClampNeg) &&& ((1 <<< (x2 &&& 31)) ^^^ (-1)))) (x2 : Int32).toNatClampNeg) &&& ((1 <<< (x1 &&& 31)) ^^^ (-1)))))) (by funext q9; unfold up; by_cases e9 : q9 = 42 <;> simp [e9]) ?_
      subst H
      exact Ev.ret rfl
    · replace H := H.2 hc
      refine Ev.steps 3 (pc' := 49) (L' := [some (.ref 40), some (.int x1), some (.int x2), some (.int x3)]) (st' := [.int x2, .ref 42, .int x2, .ref 42]) rfl ?_
      refine Ev.rd (i := x2) (n := 8) (pc' := 50) (L' := [some (.ref 40), some (.int x1), some (.int x2), some (.int x3)]) (st' := [.int ((upd (M 42) (x1 : Int32).toNatClampNeg (((M 42) (x1 : Int32).toNatClampNeg) &&& ((1 <<< (x2 &&& 31)) ^^^ (-1)))) (x2 : Int32).toNatClampNeg), .int x2, .ref 42]) H.1 rfl ?_
      replace H := H.2
      refine Ev.steps 5 (pc' := 69) (L' := [some (.ref 40), some (.int x1), some (.int x2), some (.int x3)]) (st' := [.int (((upd (M 42) (x1 : Int32).toNatClampNeg (((M 42) (x1 : Int32).toNatClampNeg) &&& ((1 <<< (x2 &&& 31)) ^^^ (-1)))) (x2 : Int32).toNatClampNeg) ||| (1 <<< (x1 &&& 31))), .int x2, .ref 42]) rfl ?_
      refine Ev.wr (a := 42) (g := (upd (upd (M 42) (x1 : Int32).toNatClampNeg (((M 42) (x1 : Int32).toNatClampNeg) &&& ((1 <<< (x2 &&& 31)) ^^^ (-1)))) (x2 : Int32).toNatClampNeg (((upd (M 42) (x1 : Int32).toNatClampNeg (((M 42) (x1 : Int32).toNatClampNeg) &&& ((1 <<< (x2 &&& 31)) ^^^ (-1)))) (x2 : Int32).toNatClampNeg) ||| (1 <<< (x1 &&& 31))))) (i := x2) (n := 8) (pc' := 70) (L' := [some (.ref 40), some (.int x1), some (.int x2), some (.int x3)]) (st' := []) (by decide) H.1 rfl ?_
      replace H := H.2
      refine Ev.mto (M' := (up M 42 (upd (upd (M 42) (x1 : Int32).toNatClampNeg (((M 42) (x1 : Int32).toNatClampNeg) &&& ((1 <<< (x2 &&& 31)) ^^^ (-1)))) (x2 : Int32).toNatClampNeg (((upd (M 42) (x1 : Int32).toNatClampNeg (((M 42) (x1 : Int32).toNatClampNeg) &&& ((1 <<< (x2 &&& 31)) ^^^ (-1)))) (x2 : Int32).toNatClampNeg) ||| (1 <<< (x1 &&& 31)))))) (by funext q9; unfold up; by_cases e9 : q9 = 42 <;> simp [e9]) ?_
      subst H
      exact Ev.ret rfl
  · replace H := H.2 hc
    refine Ev.steps 3 (pc' := 14) (L' := [some (.ref 40), some (.int x1), some (.int x2), some (.int x3)]) (st' := [.int x1, .ref 42, .int x1, .ref 42]) rfl ?_
    refine Ev.rd (i := x1) (n := 8) (pc' := 15) (L' := [some (.ref 40), some (.int x1), some (.int x2), some (.int x3)]) (st' := [.int ((M 42) (x1 : Int32).toNatClampNeg), .int x1, .ref 42]) H.1 rfl ?_
    replace H := H.2
    refine Ev.steps 5 (pc' := 34) (L' := [some (.ref 40), some (.int x1), some (.int x2), some (.int x3)]) (st' := [.int (((M 42) (x1 : Int32).toNatClampNeg) ||| (1 <<< (x2 &&& 31))), .int x1, .ref 42]) rfl ?_
    refine Ev.wr (a := 42) (g := (upd (M 42) (x1 : Int32).toNatClampNeg (((M 42) (x1 : Int32).toNatClampNeg) ||| (1 <<< (x2 &&& 31))))) (i := x1) (n := 8) (pc' := 35) (L' := [some (.ref 40), some (.int x1), some (.int x2), some (.int x3)]) (st' := []) (by decide) H.1 rfl ?_
    replace H := H.2
    refine Ev.steps 5 (pc' := if x3 = 0 then 57 else 44) (L' := [some (.ref 40), some (.int x1), some (.int x2), some (.int x3)]) (st' := [.int x2, .ref 42]) rfl ?_
    refine Ev_ite (fun hc => ?_) (fun hc => ?_)
    · replace H := H.1 hc
      refine Ev.steps 3 (pc' := 62) (L' := [some (.ref 40), some (.int x1), some (.int x2), some (.int x3)]) (st' := [.int x2, .ref 42, .int x2, .ref 42]) rfl ?_
      refine Ev.rd (i := x2) (n := 8) (pc' := 63) (L' := [some (.ref 40), some (.int x1), some (.int x2), some (.int x3)]) (st' := [.int ((upd (M 42) (x1 : Int32).toNatClampNeg (((M 42) (x1 : Int32).toNatClampNeg) ||| (1 <<< (x2 &&& 31)))) (x2 : Int32).toNatClampNeg), .int x2, .ref 42]) H.1 rfl ?_
      replace H := H.2
      refine Ev.steps 6 (pc' := 69) (L' := [some (.ref 40), some (.int x1), some (.int x2), some (.int x3)]) (st' := [.int (((upd (M 42) (x1 : Int32).toNatClampNeg (((M 42) (x1 : Int32).toNatClampNeg) ||| (1 <<< (x2 &&& 31)))) (x2 : Int32).toNatClampNeg) &&& ((1 <<< (x1 &&& 31)) ^^^ (-1))), .int x2, .ref 42]) rfl ?_
      refine Ev.wr (a := 42) (g := (upd (upd (M 42) (x1 : Int32).toNatClampNeg (((M 42) (x1 : Int32).toNatClampNeg) ||| (1 <<< (x2 &&& 31)))) (x2 : Int32).toNatClampNeg (((upd (M 42) (x1 : Int32).toNatClampNeg (((M 42) (x1 : Int32).toNatClampNeg) ||| (1 <<< (x2 &&& 31)))) (x2 : Int32).toNatClampNeg) &&& ((1 <<< (x1 &&& 31)) ^^^ (-1))))) (i := x2) (n := 8) (pc' := 70) (L' := [some (.ref 40), some (.int x1), some (.int x2), some (.int x3)]) (st' := []) (by decide) H.1 rfl ?_
      replace H := H.2
      refine Ev.mto (M' := (up M 42 (upd (upd (M 42) (x1 : Int32).toNatClampNeg (((M 42) (x1 : Int32).toNatClampNeg) ||| (1 <<< (x2 &&& 31)))) (x2 : Int32).toNatClampNeg (((upd (M 42) (x1 : Int32).toNatClampNeg (((M 42) (x1 : Int32).toNatClampNeg) ||| (1 <<< (x2 &&& 31)))) (x2 : Int32).toNatClampNeg) &&& ((1 <<< (x1 &&& 31)) ^^^ (-1)))))) (by funext q9; unfold up; by_cases e9 : q9 = 42 <;> simp [e9]) ?_
      subst H
      exact Ev.ret rfl
    · replace H := H.2 hc
      refine Ev.steps 3 (pc' := 49) (L' := [some (.ref 40), some (.int x1), some (.int x2), some (.int x3)]) (st' := [.int x2, .ref 42, .int x2, .ref 42]) rfl ?_
      refine Ev.rd (i := x2) (n := 8) (pc' := 50) (L' := [some (.ref 40), some (.int x1), some (.int x2), some (.int x3)]) (st' := [.int ((upd (M 42) (x1 : Int32).toNatClampNeg (((M 42) (x1 : Int32).toNatClampNeg) ||| (1 <<< (x2 &&& 31)))) (x2 : Int32).toNatClampNeg), .int x2, .ref 42]) H.1 rfl ?_
      replace H := H.2
      refine Ev.steps 5 (pc' := 69) (L' := [some (.ref 40), some (.int x1), some (.int x2), some (.int x3)]) (st' := [.int (((upd (M 42) (x1 : Int32).toNatClampNeg (((M 42) (x1 : Int32).toNatClampNeg) ||| (1 <<< (x2 &&& 31)))) (x2 : Int32).toNatClampNeg) ||| (1 <<< (x1 &&& 31))), .int x2, .ref 42]) rfl ?_
      refine Ev.wr (a := 42) (g := (upd (upd (M 42) (x1 : Int32).toNatClampNeg (((M 42) (x1 : Int32).toNatClampNeg) ||| (1 <<< (x2 &&& 31)))) (x2 : Int32).toNatClampNeg (((upd (M 42) (x1 : Int32).toNatClampNeg (((M 42) (x1 : Int32).toNatClampNeg) ||| (1 <<< (x2 &&& 31)))) (x2 : Int32).toNatClampNeg) ||| (1 <<< (x1 &&& 31))))) (i := x2) (n := 8) (pc' := 70) (L' := [some (.ref 40), some (.int x1), some (.int x2), some (.int x3)]) (st' := []) (by decide) H.1 rfl ?_
      replace H := H.2
      refine Ev.mto (M' := (up M 42 (upd (upd (M 42) (x1 : Int32).toNatClampNeg (((M 42) (x1 : Int32).toNatClampNeg) ||| (1 <<< (x2 &&& 31)))) (x2 : Int32).toNatClampNeg (((upd (M 42) (x1 : Int32).toNatClampNeg (((M 42) (x1 : Int32).toNatClampNeg) ||| (1 <<< (x2 &&& 31)))) (x2 : Int32).toNatClampNeg) ||| (1 <<< (x1 &&& 31)))))) (by funext q9; unfold up; by_cases e9 : q9 = 42 <;> simp [e9]) ?_
      subst H
      exact Ev.ret rfl

-- 111 GlassWires$Plan allows (I)Z
theorem w111_0 {E : gw_N} {M : Mem} {res : Option Value × gw_H} {x0 : Int32} (H : ((x0 < 0 → res = (some (.int 0), hs E M)) ∧ (¬ x0 < 0 → ((255 < x0 → res = (some (.int 0), hs E M)) ∧ (¬ 255 < x0 → res = (some (.int 1), hs E M)))))) : Ev 1 111 0 [some (.int x0)] [] (hs E M) res := by
  refine Ev.steps 2 (pc' := if x0 < 0 then 15 else 4) (L' := [some (.int x0)]) (st' := []) rfl ?_
  refine Ev_ite (fun hc => ?_) (fun hc => ?_)
  · replace H := H.1 hc
    refine Ev.steps 1 (pc' := 16) (L' := [some (.int x0)]) (st' := [.int 0]) rfl ?_
    subst H
    exact Ev.ret rfl
  · replace H := H.2 hc
    refine Ev.steps 3 (pc' := if 255 < x0 then 15 else 11) (L' := [some (.int x0)]) (st' := []) rfl ?_
    refine Ev_ite (fun hc => ?_) (fun hc => ?_)
    · replace H := H.1 hc
      refine Ev.steps 1 (pc' := 16) (L' := [some (.int x0)]) (st' := [.int 0]) rfl ?_
      subst H
      exact Ev.ret rfl
    · replace H := H.2 hc
      refine Ev.steps 2 (pc' := 16) (L' := [some (.int x0)]) (st' := [.int 1]) rfl ?_
      subst H
      exact Ev.ret rfl

def F111 (M : Mem) (x0 : Int32) : Int32 := (if x0 < 0 then 0 else (if 255 < x0 then 0 else 1))
theorem bb111 {M : Mem} {x0 : Int32} : F111 M x0 &&& 1 = F111 M x0 := by
  unfold F111
  (repeat' split) <;> first | rfl | decide
theorem s111 {E : gw_N} {M : Mem} {x0 : Int32} : Rn 111 [.int x0] (hs E M) (some (.int (F111 M x0))) (hs E M) :=
  w111_0 (⟨fun h0 => gw_reteq (if_pos h0), fun h0 => ⟨fun h1 => gw_reteq ((if_neg h0).trans (if_pos h1)), fun h1 => gw_reteq ((if_neg h0).trans (if_neg h1))⟩⟩)
-- 114 GlassWires$Plan serve (II)V
theorem w114_0 {E : gw_N} {M : Mem} {res : Option Value × gw_H} {x1 : Int32} {x2 : Int32} (H : Ev 1 114 5 [some (.ref 50), some (.int x1), none, some (.int x2), some (.int 0)] [] (hs E M) res) : Ev 1 114 0 [some (.ref 50), some (.int x1), some (.int x2), none, none] [] (hs E M) res := by
  refine Ev.steps 4 (pc' := 5) (L' := [some (.ref 50), some (.int x1), some (.int x2), some (.int x2), some (.int 0)]) (st' := []) rfl ?_
  exact Ev.weak [some (.ref 50), some (.int x1), none, some (.int x2), some (.int 0)] (gw_leb_le ⟨rfl, rfl, rfl, rfl, trivial⟩) H

theorem w114_5 {E : gw_N} {M : Mem} {res : Option Value × gw_H} {x1 : Int32} {x3 : Int32} {x4 : Int32} (H : ((((M 50) 3) ≤ x4 → ((x3 ≤ 0 → res = (none, hs E M)) ∧ (¬ x3 ≤ 0 → ((8 ≤ ((M 50) 3) → res = (none, hs E M)) ∧ (¬ 8 ≤ ((M 50) 3) → (inb ((M 50) 3) 8 ∧ (inb ((M 50) 3) 8 ∧ res = (none, hs E (up (up (up M 51 (upd (M 51) (((M 50) 3) : Int32).toNatClampNeg (x1 + 50))) 52 (upd (M 52) (((M 50) 3) : Int32).toNatClampNeg x3)) 50 (upd (M 50) 3 (((M 50) 3) + 1))))))))))) ∧ (¬ ((M 50) 3) ≤ x4 → (inb x4 8 ∧ ((((M 51) (x4 : Int32).toNatClampNeg) < x1 → Ev 1 114 5 [some (.ref 50), some (.int x1), none, some (.int x3), some (.int (x4 + 1))] [] (hs E M) res) ∧ (¬ ((M 51) (x4 : Int32).toNatClampNeg) < x1 → (inb x4 8 ∧ Ev 1 114 5 [some (.ref 50), some (.int x1), none, some (.int (x3 - ((M 52) (x4 : Int32).toNatClampNeg))), some (.int (x4 + 1))] [] (hs E M) res))))))) : Ev 1 114 5 [some (.ref 50), some (.int x1), none, some (.int x3), some (.int x4)] [] (hs E M) res := by
  refine Ev.steps 4 (pc' := if ((M 50) 3) ≤ x4 then 41 else 14) (L' := [some (.ref 50), some (.int x1), none, some (.int x3), some (.int x4)]) (st' := []) rfl ?_
  refine Ev_ite (fun hc => ?_) (fun hc => ?_)
  · replace H := H.1 hc
    refine Ev.steps 2 (pc' := if x3 ≤ 0 then 87 else 45) (L' := [some (.ref 50), some (.int x1), none, some (.int x3), some (.int x4)]) (st' := []) rfl ?_
    refine Ev_ite (fun hc => ?_) (fun hc => ?_)
    · replace H := H.1 hc
      subst H
      exact Ev.ret rfl
    · replace H := H.2 hc
      refine Ev.steps 4 (pc' := if 8 ≤ ((M 50) 3) then 87 else 54) (L' := [some (.ref 50), some (.int x1), none, some (.int x3), some (.int x4)]) (st' := []) rfl ?_
      refine Ev_ite (fun hc => ?_) (fun hc => ?_)
      · replace H := H.1 hc
        subst H
        exact Ev.ret rfl
      · replace H := H.2 hc
        refine Ev.steps 7 (pc' := 66) (L' := [some (.ref 50), some (.int x1), none, some (.int x3), some (.int x4)]) (st' := [.int (x1 + 50), .int ((M 50) 3), .ref 51]) rfl ?_
        refine Ev.wr (a := 51) (g := (upd (M 51) (((M 50) 3) : Int32).toNatClampNeg (x1 + 50))) (i := ((M 50) 3)) (n := 8) (pc' := 67) (L' := [some (.ref 50), some (.int x1), none, some (.int x3), some (.int x4)]) (st' := []) (by decide) H.1 rfl ?_
        replace H := H.2
        refine Ev.steps 5 (pc' := 76) (L' := [some (.ref 50), some (.int x1), none, some (.int x3), some (.int x4)]) (st' := [.int x3, .int ((M 50) 3), .ref 52]) rfl ?_
        refine Ev.wr (a := 52) (g := (upd (M 52) (((M 50) 3) : Int32).toNatClampNeg x3)) (i := ((M 50) 3)) (n := 8) (pc' := 77) (L' := [some (.ref 50), some (.int x1), none, some (.int x3), some (.int x4)]) (st' := []) (by decide) H.1 rfl ?_
        replace H := H.2
        refine Ev.steps 5 (pc' := 84) (L' := [some (.ref 50), some (.int x1), none, some (.int x3), some (.int x4)]) (st' := [.int (((M 50) 3) + 1), .ref 50]) rfl ?_
        refine Ev.mem (a := 50) (g := (upd (M 50) 3 (((M 50) 3) + 1))) (pc' := 87) (L' := [some (.ref 50), some (.int x1), none, some (.int x3), some (.int x4)]) (st' := []) (by decide) rfl ?_
        subst H
        exact Ev.ret rfl
  · replace H := H.2 hc
    refine Ev.steps 3 (pc' := 20) (L' := [some (.ref 50), some (.int x1), none, some (.int x3), some (.int x4)]) (st' := [.int x4, .ref 51]) rfl ?_
    refine Ev.rd (i := x4) (n := 8) (pc' := 21) (L' := [some (.ref 50), some (.int x1), none, some (.int x3), some (.int x4)]) (st' := [.int ((M 51) (x4 : Int32).toNatClampNeg)]) H.1 rfl ?_
    replace H := H.2
    refine Ev.steps 2 (pc' := if ((M 51) (x4 : Int32).toNatClampNeg) < x1 then 35 else 25) (L' := [some (.ref 50), some (.int x1), none, some (.int x3), some (.int x4)]) (st' := []) rfl ?_
    refine Ev_ite (fun hc => ?_) (fun hc => ?_)
    · replace H := H.1 hc
      refine Ev.steps 2 (pc' := 5) (L' := [some (.ref 50), some (.int x1), none, some (.int x3), some (.int (x4 + 1))]) (st' := []) rfl ?_
      exact Ev.weak [some (.ref 50), some (.int x1), none, some (.int x3), some (.int (x4 + 1))] (gw_leb_le ⟨rfl, rfl, rfl, rfl, trivial⟩) H
    · replace H := H.2 hc
      refine Ev.steps 4 (pc' := 32) (L' := [some (.ref 50), some (.int x1), none, some (.int x3), some (.int x4)]) (st' := [.int x4, .ref 52, .int x3]) rfl ?_
      refine Ev.rd (i := x4) (n := 8) (pc' := 33) (L' := [some (.ref 50), some (.int x1), none, some (.int x3), some (.int x4)]) (st' := [.int ((M 52) (x4 : Int32).toNatClampNeg), .int x3]) H.1 rfl ?_
      replace H := H.2
      refine Ev.steps 4 (pc' := 5) (L' := [some (.ref 50), some (.int x1), none, some (.int (x3 - ((M 52) (x4 : Int32).toNatClampNeg))), some (.int (x4 + 1))]) (st' := []) rfl ?_
      exact Ev.weak [some (.ref 50), some (.int x1), none, some (.int (x3 - ((M 52) (x4 : Int32).toNatClampNeg))), some (.int (x4 + 1))] (gw_leb_le ⟨rfl, rfl, rfl, rfl, trivial⟩) H

-- 115 GlassWires$Plan total ()I
theorem w115_0 {E : gw_N} {M : Mem} {res : Option Value × gw_H}  (H : Ev 1 115 4 [some (.ref 50), some (.int 0), some (.int 0)] [] (hs E M) res) : Ev 1 115 0 [some (.ref 50), none, none] [] (hs E M) res := by
  refine Ev.steps 4 (pc' := 4) (L' := [some (.ref 50), some (.int 0), some (.int 0)]) (st' := []) rfl ?_
  exact Ev.weak [some (.ref 50), some (.int 0), some (.int 0)] (gw_leb_le ⟨rfl, rfl, rfl, trivial⟩) H

theorem w115_4 {E : gw_N} {M : Mem} {res : Option Value × gw_H} {x1 : Int32} {x2 : Int32} (H : ((((M 50) 3) ≤ x2 → res = (some (.int x1), hs E M)) ∧ (¬ ((M 50) 3) ≤ x2 → (inb x2 8 ∧ Ev 1 115 4 [some (.ref 50), some (.int (x1 + ((M 52) (x2 : Int32).toNatClampNeg))), some (.int (x2 + 1))] [] (hs E M) res)))) : Ev 1 115 4 [some (.ref 50), some (.int x1), some (.int x2)] [] (hs E M) res := by
  refine Ev.steps 4 (pc' := if ((M 50) 3) ≤ x2 then 27 else 12) (L' := [some (.ref 50), some (.int x1), some (.int x2)]) (st' := []) rfl ?_
  refine Ev_ite (fun hc => ?_) (fun hc => ?_)
  · replace H := H.1 hc
    refine Ev.steps 1 (pc' := 28) (L' := [some (.ref 50), some (.int x1), some (.int x2)]) (st' := [.int x1]) rfl ?_
    subst H
    exact Ev.ret rfl
  · replace H := H.2 hc
    refine Ev.steps 4 (pc' := 18) (L' := [some (.ref 50), some (.int x1), some (.int x2)]) (st' := [.int x2, .ref 52, .int x1]) rfl ?_
    refine Ev.rd (i := x2) (n := 8) (pc' := 19) (L' := [some (.ref 50), some (.int x1), some (.int x2)]) (st' := [.int ((M 52) (x2 : Int32).toNatClampNeg), .int x1]) H.1 rfl ?_
    replace H := H.2
    refine Ev.steps 4 (pc' := 4) (L' := [some (.ref 50), some (.int (x1 + ((M 52) (x2 : Int32).toNatClampNeg))), some (.int (x2 + 1))]) (st' := []) rfl ?_
    exact Ev.weak [some (.ref 50), some (.int (x1 + ((M 52) (x2 : Int32).toNatClampNeg))), some (.int (x2 + 1))] (gw_leb_le ⟨rfl, rfl, rfl, trivial⟩) H

-- 116 GlassWires$Plan heatAt (I)I
theorem w116_0 {E : gw_N} {M : Mem} {res : Option Value × gw_H} {x1 : Int32} (H : ((0 ≤ x1 → Ev 1 116 15 [some (.ref 50), none, some (.int x1), some (.int (((M 50) 3) - 1))] [] (hs E M) res) ∧ (¬ 0 ≤ x1 → res = (some (.int (-1)), hs E M)))) : Ev 1 116 0 [some (.ref 50), some (.int x1), none, none] [] (hs E M) res := by
  refine Ev.steps 2 (pc' := if 0 ≤ x1 then 6 else 4) (L' := [some (.ref 50), some (.int x1), none, none]) (st' := []) rfl ?_
  refine Ev_ite (fun hc => ?_) (fun hc => ?_)
  · replace H := H.1 hc
    refine Ev.steps 7 (pc' := 15) (L' := [some (.ref 50), some (.int x1), some (.int x1), some (.int (((M 50) 3) - 1))]) (st' := []) rfl ?_
    exact Ev.weak [some (.ref 50), none, some (.int x1), some (.int (((M 50) 3) - 1))] (gw_leb_le ⟨rfl, rfl, rfl, trivial⟩) H
  · replace H := H.2 hc
    refine Ev.steps 1 (pc' := 5) (L' := [some (.ref 50), some (.int x1), none, none]) (st' := [.int (-1)]) rfl ?_
    subst H
    exact Ev.ret rfl

theorem w116_15 {E : gw_N} {M : Mem} {res : Option Value × gw_H} {x2 : Int32} {x3 : Int32} (H : ((x3 < 0 → res = (some (.int (-1)), hs E M)) ∧ (¬ x3 < 0 → (inb x3 8 ∧ ((((M 52) (x3 : Int32).toNatClampNeg) ≤ x2 → (inb x3 8 ∧ Ev 1 116 15 [some (.ref 50), none, some (.int (x2 - ((M 52) (x3 : Int32).toNatClampNeg))), some (.int (x3 + (-1)))] [] (hs E M) res)) ∧ (¬ ((M 52) (x3 : Int32).toNatClampNeg) ≤ x2 → (inb x3 8 ∧ res = (some (.int ((M 51) (x3 : Int32).toNatClampNeg)), hs E M)))))))) : Ev 1 116 15 [some (.ref 50), none, some (.int x2), some (.int x3)] [] (hs E M) res := by
  refine Ev.steps 2 (pc' := if x3 < 0 then 51 else 19) (L' := [some (.ref 50), none, some (.int x2), some (.int x3)]) (st' := []) rfl ?_
  refine Ev_ite (fun hc => ?_) (fun hc => ?_)
  · replace H := H.1 hc
    refine Ev.steps 1 (pc' := 52) (L' := [some (.ref 50), none, some (.int x2), some (.int x3)]) (st' := [.int (-1)]) rfl ?_
    subst H
    exact Ev.ret rfl
  · replace H := H.2 hc
    refine Ev.steps 4 (pc' := 25) (L' := [some (.ref 50), none, some (.int x2), some (.int x3)]) (st' := [.int x3, .ref 52, .int x2]) rfl ?_
    refine Ev.rd (i := x3) (n := 8) (pc' := 26) (L' := [some (.ref 50), none, some (.int x2), some (.int x3)]) (st' := [.int ((M 52) (x3 : Int32).toNatClampNeg), .int x2]) H.1 rfl ?_
    replace H := H.2
    refine Ev.steps 1 (pc' := if ((M 52) (x3 : Int32).toNatClampNeg) ≤ x2 then 36 else 29) (L' := [some (.ref 50), none, some (.int x2), some (.int x3)]) (st' := []) rfl ?_
    refine Ev_ite (fun hc => ?_) (fun hc => ?_)
    · replace H := H.1 hc
      refine Ev.steps 4 (pc' := 42) (L' := [some (.ref 50), none, some (.int x2), some (.int x3)]) (st' := [.int x3, .ref 52, .int x2]) rfl ?_
      refine Ev.rd (i := x3) (n := 8) (pc' := 43) (L' := [some (.ref 50), none, some (.int x2), some (.int x3)]) (st' := [.int ((M 52) (x3 : Int32).toNatClampNeg), .int x2]) H.1 rfl ?_
      replace H := H.2
      refine Ev.steps 4 (pc' := 15) (L' := [some (.ref 50), none, some (.int (x2 - ((M 52) (x3 : Int32).toNatClampNeg))), some (.int (x3 + (-1)))]) (st' := []) rfl ?_
      exact Ev.weak [some (.ref 50), none, some (.int (x2 - ((M 52) (x3 : Int32).toNatClampNeg))), some (.int (x3 + (-1)))] (gw_leb_le ⟨rfl, rfl, rfl, trivial⟩) H
    · replace H := H.2 hc
      refine Ev.steps 3 (pc' := 34) (L' := [some (.ref 50), none, some (.int x2), some (.int x3)]) (st' := [.int x3, .ref 51]) rfl ?_
      refine Ev.rd (i := x3) (n := 8) (pc' := 35) (L' := [some (.ref 50), none, some (.int x2), some (.int x3)]) (st' := [.int ((M 51) (x3 : Int32).toNatClampNeg)]) H.1 rfl ?_
      replace H := H.2
      subst H
      exact Ev.ret rfl

-- 118 GlassWires$Rods clear ()V
theorem w118_0 {E : gw_N} {M : Mem} {res : Option Value × gw_H}  (H : res = (none, hs E (up M 54 (upd (M 54) 4 0)))) : Ev 1 118 0 [some (.ref 54)] [] (hs E M) res := by
  refine Ev.steps 2 (pc' := 2) (L' := [some (.ref 54)]) (st' := [.int 0, .ref 54]) rfl ?_
  refine Ev.mem (a := 54) (g := (upd (M 54) 4 0)) (pc' := 5) (L' := [some (.ref 54)]) (st' := []) (by decide) rfl ?_
  subst H
  exact Ev.ret rfl

-- 119 GlassWires$Rods kinds ()I
theorem w119_0 {E : gw_N} {M : Mem} {res : Option Value × gw_H}  (H : res = (some (.int ((M 54) 4)), hs E M)) : Ev 1 119 0 [some (.ref 54)] [] (hs E M) res := by
  refine Ev.steps 2 (pc' := 4) (L' := [some (.ref 54)]) (st' := [.int ((M 54) 4)]) rfl ?_
  subst H
  exact Ev.ret rfl

def F119 (M : Mem) : Int32 := ((M 54) 4)
theorem s119 {E : gw_N} {M : Mem} : Rn 119 [.ref 54] (hs E M) (some (.int (F119 M))) (hs E M) :=
  w119_0 (rfl)
-- 120 GlassWires$Rods add (II)I
theorem w120_0 {E : gw_N} {M : Mem} {res : Option Value × gw_H} {x1 : Int32} {x2 : Int32} (H : ((x1 < 1 → res = (some (.int (-102)), hs E M)) ∧ (¬ x1 < 1 → ((99 < x1 → res = (some (.int (-102)), hs E M)) ∧ (¬ 99 < x1 → ((x2 < 0 → res = (some (.int (-102)), hs E M)) ∧ (¬ x2 < 0 → ((x2 ≤ 20 → ((((M 54) 4) < 8 → (inb ((M 54) 4) 8 ∧ (inb ((M 54) 4) 8 ∧ res = (some (.int (((upd (M 54) 4 (((M 54) 4) + 1)) 4) - 1)), hs E (up (up (up M 55 (upd (M 55) (((M 54) 4) : Int32).toNatClampNeg x1)) 56 (upd (M 56) (((M 54) 4) : Int32).toNatClampNeg x2)) 54 (upd (M 54) 4 (((M 54) 4) + 1))))))) ∧ (¬ ((M 54) 4) < 8 → res = (some (.int (-104)), hs E M)))) ∧ (¬ x2 ≤ 20 → res = (some (.int (-102)), hs E M)))))))))) : Ev 1 120 0 [some (.ref 54), some (.int x1), some (.int x2)] [] (hs E M) res := by
  refine Ev.steps 3 (pc' := if x1 < 1 then 21 else 5) (L' := [some (.ref 54), some (.int x1), some (.int x2)]) (st' := []) rfl ?_
  refine Ev_ite (fun hc => ?_) (fun hc => ?_)
  · replace H := H.1 hc
    refine Ev.steps 1 (pc' := 23) (L' := [some (.ref 54), some (.int x1), some (.int x2)]) (st' := [.int (-102)]) rfl ?_
    subst H
    exact Ev.ret rfl
  · replace H := H.2 hc
    refine Ev.steps 3 (pc' := if 99 < x1 then 21 else 11) (L' := [some (.ref 54), some (.int x1), some (.int x2)]) (st' := []) rfl ?_
    refine Ev_ite (fun hc => ?_) (fun hc => ?_)
    · replace H := H.1 hc
      refine Ev.steps 1 (pc' := 23) (L' := [some (.ref 54), some (.int x1), some (.int x2)]) (st' := [.int (-102)]) rfl ?_
      subst H
      exact Ev.ret rfl
    · replace H := H.2 hc
      refine Ev.steps 2 (pc' := if x2 < 0 then 21 else 15) (L' := [some (.ref 54), some (.int x1), some (.int x2)]) (st' := []) rfl ?_
      refine Ev_ite (fun hc => ?_) (fun hc => ?_)
      · replace H := H.1 hc
        refine Ev.steps 1 (pc' := 23) (L' := [some (.ref 54), some (.int x1), some (.int x2)]) (st' := [.int (-102)]) rfl ?_
        subst H
        exact Ev.ret rfl
      · replace H := H.2 hc
        refine Ev.steps 3 (pc' := if x2 ≤ 20 then 24 else 21) (L' := [some (.ref 54), some (.int x1), some (.int x2)]) (st' := []) rfl ?_
        refine Ev_ite (fun hc => ?_) (fun hc => ?_)
        · replace H := H.1 hc
          refine Ev.steps 4 (pc' := if ((M 54) 4) < 8 then 36 else 33) (L' := [some (.ref 54), some (.int x1), some (.int x2)]) (st' := []) rfl ?_
          refine Ev_ite (fun hc => ?_) (fun hc => ?_)
          · replace H := H.1 hc
            refine Ev.steps 5 (pc' := 45) (L' := [some (.ref 54), some (.int x1), some (.int x2)]) (st' := [.int x1, .int ((M 54) 4), .ref 55]) rfl ?_
            refine Ev.wr (a := 55) (g := (upd (M 55) (((M 54) 4) : Int32).toNatClampNeg x1)) (i := ((M 54) 4)) (n := 8) (pc' := 46) (L' := [some (.ref 54), some (.int x1), some (.int x2)]) (st' := []) (by decide) H.1 rfl ?_
            replace H := H.2
            refine Ev.steps 5 (pc' := 55) (L' := [some (.ref 54), some (.int x1), some (.int x2)]) (st' := [.int x2, .int ((M 54) 4), .ref 56]) rfl ?_
            refine Ev.wr (a := 56) (g := (upd (M 56) (((M 54) 4) : Int32).toNatClampNeg x2)) (i := ((M 54) 4)) (n := 8) (pc' := 56) (L' := [some (.ref 54), some (.int x1), some (.int x2)]) (st' := []) (by decide) H.1 rfl ?_
            replace H := H.2
            refine Ev.steps 5 (pc' := 63) (L' := [some (.ref 54), some (.int x1), some (.int x2)]) (st' := [.int (((M 54) 4) + 1), .ref 54]) rfl ?_
            refine Ev.mem (a := 54) (g := (upd (M 54) 4 (((M 54) 4) + 1))) (pc' := 66) (L' := [some (.ref 54), some (.int x1), some (.int x2)]) (st' := []) (by decide) rfl ?_
            refine Ev.steps 4 (pc' := 72) (L' := [some (.ref 54), some (.int x1), some (.int x2)]) (st' := [.int (((upd (M 54) 4 (((M 54) 4) + 1)) 4) - 1)]) rfl ?_
            subst H
            exact Ev.ret rfl
          · replace H := H.2 hc
            refine Ev.steps 1 (pc' := 35) (L' := [some (.ref 54), some (.int x1), some (.int x2)]) (st' := [.int (-104)]) rfl ?_
            subst H
            exact Ev.ret rfl
        · replace H := H.2 hc
          refine Ev.steps 1 (pc' := 23) (L' := [some (.ref 54), some (.int x1), some (.int x2)]) (st' := [.int (-102)]) rfl ?_
          subst H
          exact Ev.ret rfl

-- 126 GlassWires$Rods useRod (II)Z
theorem w126_0 {E : gw_N} {M : Mem} {res : Option Value × gw_H} {x1 : Int32} {x2 : Int32} (H : Ev 1 126 5 [some (.ref 54), some (.int x1), none, some (.int 0), some (.int x2), none, none] [] (hs E M) res) : Ev 1 126 0 [some (.ref 54), some (.int x1), some (.int x2), none, none, none, none] [] (hs E M) res := by
  refine Ev.steps 4 (pc' := 5) (L' := [some (.ref 54), some (.int x1), some (.int x2), some (.int 0), some (.int x2), none, none]) (st' := []) rfl ?_
  exact Ev.weak [some (.ref 54), some (.int x1), none, some (.int 0), some (.int x2), none, none] (gw_leb_le ⟨rfl, rfl, rfl, rfl, trivial⟩) H

theorem w126_5 {E : gw_N} {M : Mem} {res : Option Value × gw_H} {x1 : Int32} {x3 : Int32} {x4 : Int32} (H : ((x4 ≤ 0 → (x3 &&& 1 = x3 ∧ res = (some (.int x3), hs E M))) ∧ (¬ x4 ≤ 0 → Ev 1 126 14 [some (.ref 54), some (.int x1), none, some (.int x3), some (.int x4), some (.int x4), none] [] (hs E M) res))) : Ev 1 126 5 [some (.ref 54), some (.int x1), none, some (.int x3), some (.int x4), none, none] [] (hs E M) res := by
  refine Ev.steps 2 (pc' := if x4 ≤ 0 then 89 else 10) (L' := [some (.ref 54), some (.int x1), none, some (.int x3), some (.int x4), none, none]) (st' := []) rfl ?_
  refine Ev_ite (fun hc => ?_) (fun hc => ?_)
  · replace H := H.1 hc
    refine Ev.steps 1 (pc' := 90) (L' := [some (.ref 54), some (.int x1), none, some (.int x3), some (.int x4), none, none]) (st' := [.int x3]) rfl ?_
    obtain ⟨H1, H⟩ := H
    subst H
    exact Ev.ret (if_pos H1)
  · replace H := H.2 hc
    refine Ev.steps 2 (pc' := 14) (L' := [some (.ref 54), some (.int x1), none, some (.int x3), some (.int x4), some (.int x4), none]) (st' := []) rfl ?_
    exact Ev.weak [some (.ref 54), some (.int x1), none, some (.int x3), some (.int x4), some (.int x4), none] (gw_leb_le ⟨rfl, rfl, rfl, rfl, rfl, trivial⟩) H

theorem w126_14 {E : gw_N} {M : Mem} {res : Option Value × gw_H} {x1 : Int32} {x3 : Int32} {x4 : Int32} {x5 : Int32} (H : ((x5 ≤ 0 → Ev 1 126 5 [some (.ref 54), some (.int x1), none, some (.int x3), some (.int (x4 + (-1))), none, none] [] (hs E M) res) ∧ (¬ x5 ≤ 0 → (inb (x4 ^^^ x5) 256 ∧ (inb x5 256 ∧ ((x1 < ((M 57) (x5 : Int32).toNatClampNeg) → Ev 1 126 14 [some (.ref 54), some (.int x1), none, some (.int x3), some (.int x4), some (.int ((x5 - 1) &&& x4)), none] [] (hs E M) res) ∧ (¬ x1 < ((M 57) (x5 : Int32).toNatClampNeg) → (inb x4 256 ∧ ((((M 58) (x4 : Int32).toNatClampNeg) ≤ ((((M 58) ((x4 ^^^ x5) : Int32).toNatClampNeg) + 1000) + x1) → Ev 1 126 14 [some (.ref 54), some (.int x1), none, some (.int x3), some (.int x4), some (.int ((x5 - 1) &&& x4)), none] [] (hs E M) res) ∧ (¬ ((M 58) (x4 : Int32).toNatClampNeg) ≤ ((((M 58) ((x4 ^^^ x5) : Int32).toNatClampNeg) + 1000) + x1) → (inb x4 256 ∧ Ev 1 126 14 [some (.ref 54), some (.int x1), none, some (.int 1), some (.int x4), some (.int ((x5 - 1) &&& x4)), none] [] (hs E (up M 58 (upd (M 58) (x4 : Int32).toNatClampNeg ((((M 58) ((x4 ^^^ x5) : Int32).toNatClampNeg) + 1000) + x1)))) res))))))))))) : Ev 1 126 14 [some (.ref 54), some (.int x1), none, some (.int x3), some (.int x4), some (.int x5), none] [] (hs E M) res := by
  refine Ev.steps 2 (pc' := if x5 ≤ 0 then 83 else 19) (L' := [some (.ref 54), some (.int x1), none, some (.int x3), some (.int x4), some (.int x5), none]) (st' := []) rfl ?_
  refine Ev_ite (fun hc => ?_) (fun hc => ?_)
  · replace H := H.1 hc
    refine Ev.steps 2 (pc' := 5) (L' := [some (.ref 54), some (.int x1), none, some (.int x3), some (.int (x4 + (-1))), some (.int x5), none]) (st' := []) rfl ?_
    exact Ev.weak [some (.ref 54), some (.int x1), none, some (.int x3), some (.int (x4 + (-1))), none, none] (gw_leb_le ⟨rfl, rfl, rfl, rfl, trivial⟩) H
  · replace H := H.2 hc
    refine Ev.steps 5 (pc' := 28) (L' := [some (.ref 54), some (.int x1), none, some (.int x3), some (.int x4), some (.int x5), none]) (st' := [.int (x4 ^^^ x5), .ref 58]) rfl ?_
    refine Ev.rd (i := (x4 ^^^ x5)) (n := 256) (pc' := 29) (L' := [some (.ref 54), some (.int x1), none, some (.int x3), some (.int x4), some (.int x5), none]) (st' := [.int ((M 58) ((x4 ^^^ x5) : Int32).toNatClampNeg)]) H.1 rfl ?_
    replace H := H.2
    refine Ev.steps 8 (pc' := 43) (L' := [some (.ref 54), some (.int x1), none, some (.int x3), some (.int x4), some (.int x5), some (.int ((((M 58) ((x4 ^^^ x5) : Int32).toNatClampNeg) + 1000) + x1))]) (st' := [.int x5, .ref 57]) rfl ?_
    refine Ev.rd (i := x5) (n := 256) (pc' := 44) (L' := [some (.ref 54), some (.int x1), none, some (.int x3), some (.int x4), some (.int x5), some (.int ((((M 58) ((x4 ^^^ x5) : Int32).toNatClampNeg) + 1000) + x1))]) (st' := [.int ((M 57) (x5 : Int32).toNatClampNeg)]) H.1 rfl ?_
    replace H := H.2
    refine Ev.steps 2 (pc' := if x1 < ((M 57) (x5 : Int32).toNatClampNeg) then 71 else 48) (L' := [some (.ref 54), some (.int x1), none, some (.int x3), some (.int x4), some (.int x5), some (.int ((((M 58) ((x4 ^^^ x5) : Int32).toNatClampNeg) + 1000) + x1))]) (st' := []) rfl ?_
    refine Ev_ite (fun hc => ?_) (fun hc => ?_)
    · replace H := H.1 hc
      refine Ev.steps 7 (pc' := 14) (L' := [some (.ref 54), some (.int x1), none, some (.int x3), some (.int x4), some (.int ((x5 - 1) &&& x4)), some (.int ((((M 58) ((x4 ^^^ x5) : Int32).toNatClampNeg) + 1000) + x1))]) (st' := []) rfl ?_
      exact Ev.weak [some (.ref 54), some (.int x1), none, some (.int x3), some (.int x4), some (.int ((x5 - 1) &&& x4)), none] (gw_leb_le ⟨rfl, rfl, rfl, rfl, rfl, trivial⟩) H
    · replace H := H.2 hc
      refine Ev.steps 4 (pc' := 56) (L' := [some (.ref 54), some (.int x1), none, some (.int x3), some (.int x4), some (.int x5), some (.int ((((M 58) ((x4 ^^^ x5) : Int32).toNatClampNeg) + 1000) + x1))]) (st' := [.int x4, .ref 58, .int ((((M 58) ((x4 ^^^ x5) : Int32).toNatClampNeg) + 1000) + x1)]) rfl ?_
      refine Ev.rd (i := x4) (n := 256) (pc' := 57) (L' := [some (.ref 54), some (.int x1), none, some (.int x3), some (.int x4), some (.int x5), some (.int ((((M 58) ((x4 ^^^ x5) : Int32).toNatClampNeg) + 1000) + x1))]) (st' := [.int ((M 58) (x4 : Int32).toNatClampNeg), .int ((((M 58) ((x4 ^^^ x5) : Int32).toNatClampNeg) + 1000) + x1)]) H.1 rfl ?_
      replace H := H.2
      refine Ev.steps 1 (pc' := if ((M 58) (x4 : Int32).toNatClampNeg) ≤ ((((M 58) ((x4 ^^^ x5) : Int32).toNatClampNeg) + 1000) + x1) then 71 else 60) (L' := [some (.ref 54), some (.int x1), none, some (.int x3), some (.int x4), some (.int x5), some (.int ((((M 58) ((x4 ^^^ x5) : Int32).toNatClampNeg) + 1000) + x1))]) (st' := []) rfl ?_
      refine Ev_ite (fun hc => ?_) (fun hc => ?_)
      · replace H := H.1 hc
        refine Ev.steps 7 (pc' := 14) (L' := [some (.ref 54), some (.int x1), none, some (.int x3), some (.int x4), some (.int ((x5 - 1) &&& x4)), some (.int ((((M 58) ((x4 ^^^ x5) : Int32).toNatClampNeg) + 1000) + x1))]) (st' := []) rfl ?_
        exact Ev.weak [some (.ref 54), some (.int x1), none, some (.int x3), some (.int x4), some (.int ((x5 - 1) &&& x4)), none] (gw_leb_le ⟨rfl, rfl, rfl, rfl, rfl, trivial⟩) H
      · replace H := H.2 hc
        refine Ev.steps 4 (pc' := 68) (L' := [some (.ref 54), some (.int x1), none, some (.int x3), some (.int x4), some (.int x5), some (.int ((((M 58) ((x4 ^^^ x5) : Int32).toNatClampNeg) + 1000) + x1))]) (st' := [.int ((((M 58) ((x4 ^^^ x5) : Int32).toNatClampNeg) + 1000) + x1), .int x4, .ref 58]) rfl ?_
        refine Ev.wr (a := 58) (g := (upd (M 58) (x4 : Int32).toNatClampNeg ((((M 58) ((x4 ^^^ x5) : Int32).toNatClampNeg) + 1000) + x1))) (i := x4) (n := 256) (pc' := 69) (L' := [some (.ref 54), some (.int x1), none, some (.int x3), some (.int x4), some (.int x5), some (.int ((((M 58) ((x4 ^^^ x5) : Int32).toNatClampNeg) + 1000) + x1))]) (st' := []) (by decide) H.1 rfl ?_
        replace H := H.2
        refine Ev.steps 9 (pc' := 14) (L' := [some (.ref 54), some (.int x1), none, some (.int 1), some (.int x4), some (.int ((x5 - 1) &&& x4)), some (.int ((((M 58) ((x4 ^^^ x5) : Int32).toNatClampNeg) + 1000) + x1))]) (st' := []) rfl ?_
        exact Ev.weak [some (.ref 54), some (.int x1), none, some (.int 1), some (.int x4), some (.int ((x5 - 1) &&& x4)), none] (gw_leb_le ⟨rfl, rfl, rfl, rfl, rfl, trivial⟩) H

-- 129 GlassWires$Tension setBack (II)V
theorem w129_0 {E : gw_N} {M : Mem} {res : Option Value × gw_H} {x1 : Int32} {x2 : Int32} (H : res = (none, hs E (up M 53 (upd (upd (M 53) 3 x1) 4 x2)))) : Ev 1 129 0 [some (.ref 53), some (.int x1), some (.int x2)] [] (hs E M) res := by
  refine Ev.steps 2 (pc' := 2) (L' := [some (.ref 53), some (.int x1), some (.int x2)]) (st' := [.int x1, .ref 53]) rfl ?_
  refine Ev.mem (a := 53) (g := (upd (M 53) 3 x1)) (pc' := 5) (L' := [some (.ref 53), some (.int x1), some (.int x2)]) (st' := []) (by decide) rfl ?_
  refine Ev.steps 2 (pc' := 7) (L' := [some (.ref 53), some (.int x1), some (.int x2)]) (st' := [.int x2, .ref 53]) rfl ?_
  refine Ev.mem (a := 53) (g := (upd (upd (M 53) 3 x1) 4 x2)) (pc' := 10) (L' := [some (.ref 53), some (.int x1), some (.int x2)]) (st' := []) (by decide) rfl ?_
  refine Ev.mto (M' := (up M 53 (upd (upd (M 53) 3 x1) 4 x2))) (by funext q9; unfold up; by_cases e9 : q9 = 53 <;> simp [e9]) ?_
  subst H
  exact Ev.ret rfl

-- 142 GlassWires$Wires clear ()V
theorem w142_0 {E : gw_N} {M : Mem} {res : Option Value × gw_H}  (H : res = (none, hs E (up M 14 (upd (M 14) 7 0)))) : Ev 1 142 0 [some (.ref 14)] [] (hs E M) res := by
  refine Ev.steps 2 (pc' := 2) (L' := [some (.ref 14)]) (st' := [.int 0, .ref 14]) rfl ?_
  refine Ev.mem (a := 14) (g := (upd (M 14) 7 0)) (pc' := 5) (L' := [some (.ref 14)]) (st' := []) (by decide) rfl ?_
  subst H
  exact Ev.ret rfl

-- 143 GlassWires$Wires total ()I
theorem w143_0 {E : gw_N} {M : Mem} {res : Option Value × gw_H}  (H : res = (some (.int ((M 14) 7)), hs E M)) : Ev 1 143 0 [some (.ref 14)] [] (hs E M) res := by
  refine Ev.steps 2 (pc' := 4) (L' := [some (.ref 14)]) (st' := [.int ((M 14) 7)]) rfl ?_
  subst H
  exact Ev.ret rfl

def F143 (M : Mem) : Int32 := ((M 14) 7)
theorem s143 {E : gw_N} {M : Mem} : Rn 143 [.ref 14] (hs E M) (some (.int (F143 M))) (hs E M) :=
  w143_0 (rfl)
-- 144 GlassWires$Wires has (I)Z
theorem w144_0 {E : gw_N} {M : Mem} {res : Option Value × gw_H} {x1 : Int32} (H : ((x1 < 0 → res = (some (.int 0), hs E M)) ∧ (¬ x1 < 0 → ((((M 14) 7) ≤ x1 → res = (some (.int 0), hs E M)) ∧ (¬ ((M 14) 7) ≤ x1 → res = (some (.int 1), hs E M)))))) : Ev 1 144 0 [some (.ref 14), some (.int x1)] [] (hs E M) res := by
  refine Ev.steps 2 (pc' := if x1 < 0 then 16 else 4) (L' := [some (.ref 14), some (.int x1)]) (st' := []) rfl ?_
  refine Ev_ite (fun hc => ?_) (fun hc => ?_)
  · replace H := H.1 hc
    refine Ev.steps 1 (pc' := 17) (L' := [some (.ref 14), some (.int x1)]) (st' := [.int 0]) rfl ?_
    subst H
    exact Ev.ret rfl
  · replace H := H.2 hc
    refine Ev.steps 4 (pc' := if ((M 14) 7) ≤ x1 then 16 else 12) (L' := [some (.ref 14), some (.int x1)]) (st' := []) rfl ?_
    refine Ev_ite (fun hc => ?_) (fun hc => ?_)
    · replace H := H.1 hc
      refine Ev.steps 1 (pc' := 17) (L' := [some (.ref 14), some (.int x1)]) (st' := [.int 0]) rfl ?_
      subst H
      exact Ev.ret rfl
    · replace H := H.2 hc
      refine Ev.steps 2 (pc' := 17) (L' := [some (.ref 14), some (.int x1)]) (st' := [.int 1]) rfl ?_
      subst H
      exact Ev.ret rfl

def F144 (M : Mem) (x1 : Int32) : Int32 := (if x1 < 0 then 0 else (if ((M 14) 7) ≤ x1 then 0 else 1))
theorem bb144 {M : Mem} {x1 : Int32} : F144 M x1 &&& 1 = F144 M x1 := by
  unfold F144
  (repeat' split) <;> first | rfl | decide
theorem s144 {E : gw_N} {M : Mem} {x1 : Int32} : Rn 144 [.ref 14, .int x1] (hs E M) (some (.int (F144 M x1))) (hs E M) :=
  w144_0 (⟨fun h0 => gw_reteq (if_pos h0), fun h0 => ⟨fun h1 => gw_reteq ((if_neg h0).trans (if_pos h1)), fun h1 => gw_reteq ((if_neg h0).trans (if_neg h1))⟩⟩)
-- 145 GlassWires$Wires isLaid (I)Z
theorem w145_0 {E : gw_N} {M : Mem} {res : Option Value × gw_H} {x1 : Int32} (H : (inb x1 30 ∧ (((M 15) (x1 : Int32).toNatClampNeg) &&& 1 = ((M 15) (x1 : Int32).toNatClampNeg) ∧ res = (some (.int ((M 15) (x1 : Int32).toNatClampNeg)), hs E M)))) : Ev 1 145 0 [some (.ref 14), some (.int x1)] [] (hs E M) res := by
  refine Ev.steps 3 (pc' := 5) (L' := [some (.ref 14), some (.int x1)]) (st' := [.int x1, .ref 15]) rfl ?_
  refine Ev.rd (i := x1) (n := 30) (pc' := 6) (L' := [some (.ref 14), some (.int x1)]) (st' := [.int ((M 15) (x1 : Int32).toNatClampNeg)]) H.1 rfl ?_
  replace H := H.2
  obtain ⟨H1, H⟩ := H
  subst H
  exact Ev.ret (if_pos H1)

def F145 (M : Mem) (x1 : Int32) : Int32 := ((M 15) (x1 : Int32).toNatClampNeg)
def P145 (M : Mem) (x1 : Int32) : Prop := (inb x1 30 ∧ (((M 15) (x1 : Int32).toNatClampNeg) &&& 1 = ((M 15) (x1 : Int32).toNatClampNeg)))
theorem s145 {E : gw_N} {M : Mem} {x1 : Int32} (H : P145 M x1) : Rn 145 [.ref 14, .int x1] (hs E M) (some (.int (F145 M x1))) (hs E M) :=
  w145_0 (⟨H.1, ⟨H.2, rfl⟩⟩)
-- 146 GlassWires$Wires setLaid (IZ)V
theorem w146_0 {E : gw_N} {M : Mem} {res : Option Value × gw_H} {x1 : Int32} {x2 : Int32} (H : (inb x1 30 ∧ res = (none, hs E (up M 15 (upd (M 15) (x1 : Int32).toNatClampNeg (x2 &&& 1)))))) : Ev 1 146 0 [some (.ref 14), some (.int x1), some (.int x2)] [] (hs E M) res := by
  refine Ev.steps 4 (pc' := 6) (L' := [some (.ref 14), some (.int x1), some (.int x2)]) (st' := [.int x2, .int x1, .ref 15]) rfl ?_
  refine Ev.wr (a := 15) (g := (upd (M 15) (x1 : Int32).toNatClampNeg (x2 &&& 1))) (i := x1) (n := 30) (pc' := 7) (L' := [some (.ref 14), some (.int x1), some (.int x2)]) (st' := []) (by decide) H.1 rfl ?_
  replace H := H.2
  subst H
  exact Ev.ret rfl

-- 147 GlassWires$Wires isSoldered (I)Z
theorem w147_0 {E : gw_N} {M : Mem} {res : Option Value × gw_H} {x1 : Int32} (H : (inb x1 30 ∧ (((M 16) (x1 : Int32).toNatClampNeg) &&& 1 = ((M 16) (x1 : Int32).toNatClampNeg) ∧ res = (some (.int ((M 16) (x1 : Int32).toNatClampNeg)), hs E M)))) : Ev 1 147 0 [some (.ref 14), some (.int x1)] [] (hs E M) res := by
  refine Ev.steps 3 (pc' := 5) (L' := [some (.ref 14), some (.int x1)]) (st' := [.int x1, .ref 16]) rfl ?_
  refine Ev.rd (i := x1) (n := 30) (pc' := 6) (L' := [some (.ref 14), some (.int x1)]) (st' := [.int ((M 16) (x1 : Int32).toNatClampNeg)]) H.1 rfl ?_
  replace H := H.2
  obtain ⟨H1, H⟩ := H
  subst H
  exact Ev.ret (if_pos H1)

def F147 (M : Mem) (x1 : Int32) : Int32 := ((M 16) (x1 : Int32).toNatClampNeg)
def P147 (M : Mem) (x1 : Int32) : Prop := (inb x1 30 ∧ (((M 16) (x1 : Int32).toNatClampNeg) &&& 1 = ((M 16) (x1 : Int32).toNatClampNeg)))
theorem s147 {E : gw_N} {M : Mem} {x1 : Int32} (H : P147 M x1) : Rn 147 [.ref 14, .int x1] (hs E M) (some (.int (F147 M x1))) (hs E M) :=
  w147_0 (⟨H.1, ⟨H.2, rfl⟩⟩)
-- 148 GlassWires$Wires setSoldered (IZ)V
theorem w148_0 {E : gw_N} {M : Mem} {res : Option Value × gw_H} {x1 : Int32} {x2 : Int32} (H : (inb x1 30 ∧ res = (none, hs E (up M 16 (upd (M 16) (x1 : Int32).toNatClampNeg (x2 &&& 1)))))) : Ev 1 148 0 [some (.ref 14), some (.int x1), some (.int x2)] [] (hs E M) res := by
  refine Ev.steps 4 (pc' := 6) (L' := [some (.ref 14), some (.int x1), some (.int x2)]) (st' := [.int x2, .int x1, .ref 16]) rfl ?_
  refine Ev.wr (a := 16) (g := (upd (M 16) (x1 : Int32).toNatClampNeg (x2 &&& 1))) (i := x1) (n := 30) (pc' := 7) (L' := [some (.ref 14), some (.int x1), some (.int x2)]) (st' := []) (by decide) H.1 rfl ?_
  replace H := H.2
  subst H
  exact Ev.ret rfl

-- 149 GlassWires$Wires movesOf (I)I
theorem w149_0 {E : gw_N} {M : Mem} {res : Option Value × gw_H} {x1 : Int32} (H : (inb x1 30 ∧ res = (some (.int ((M 17) (x1 : Int32).toNatClampNeg)), hs E M))) : Ev 1 149 0 [some (.ref 14), some (.int x1)] [] (hs E M) res := by
  refine Ev.steps 3 (pc' := 5) (L' := [some (.ref 14), some (.int x1)]) (st' := [.int x1, .ref 17]) rfl ?_
  refine Ev.rd (i := x1) (n := 30) (pc' := 6) (L' := [some (.ref 14), some (.int x1)]) (st' := [.int ((M 17) (x1 : Int32).toNatClampNeg)]) H.1 rfl ?_
  replace H := H.2
  subst H
  exact Ev.ret rfl

def F149 (M : Mem) (x1 : Int32) : Int32 := ((M 17) (x1 : Int32).toNatClampNeg)
def P149 (M : Mem) (x1 : Int32) : Prop := (inb x1 30)
theorem s149 {E : gw_N} {M : Mem} {x1 : Int32} (H : P149 M x1) : Rn 149 [.ref 14, .int x1] (hs E M) (some (.int (F149 M x1))) (hs E M) :=
  w149_0 (⟨H, rfl⟩)
-- 150 GlassWires$Wires bendsOf (I)I
theorem w150_0 {E : gw_N} {M : Mem} {res : Option Value × gw_H} {x1 : Int32} (H : (inb x1 30 ∧ res = (some (.int ((M 18) (x1 : Int32).toNatClampNeg)), hs E M))) : Ev 1 150 0 [some (.ref 14), some (.int x1)] [] (hs E M) res := by
  refine Ev.steps 3 (pc' := 5) (L' := [some (.ref 14), some (.int x1)]) (st' := [.int x1, .ref 18]) rfl ?_
  refine Ev.rd (i := x1) (n := 30) (pc' := 6) (L' := [some (.ref 14), some (.int x1)]) (st' := [.int ((M 18) (x1 : Int32).toNatClampNeg)]) H.1 rfl ?_
  replace H := H.2
  subst H
  exact Ev.ret rfl

def F150 (M : Mem) (x1 : Int32) : Int32 := ((M 18) (x1 : Int32).toNatClampNeg)
def P150 (M : Mem) (x1 : Int32) : Prop := (inb x1 30)
theorem s150 {E : gw_N} {M : Mem} {x1 : Int32} (H : P150 M x1) : Rn 150 [.ref 14, .int x1] (hs E M) (some (.int (F150 M x1))) (hs E M) :=
  w150_0 (⟨H, rfl⟩)
-- 151 GlassWires$Wires edgesOf (I)I
theorem w151_0 {E : gw_N} {M : Mem} {res : Option Value × gw_H} {x1 : Int32} (H : (inb x1 30 ∧ res = (some (.int ((M 19) (x1 : Int32).toNatClampNeg)), hs E M))) : Ev 1 151 0 [some (.ref 14), some (.int x1)] [] (hs E M) res := by
  refine Ev.steps 3 (pc' := 5) (L' := [some (.ref 14), some (.int x1)]) (st' := [.int x1, .ref 19]) rfl ?_
  refine Ev.rd (i := x1) (n := 30) (pc' := 6) (L' := [some (.ref 14), some (.int x1)]) (st' := [.int ((M 19) (x1 : Int32).toNatClampNeg)]) H.1 rfl ?_
  replace H := H.2
  subst H
  exact Ev.ret rfl

def F151 (M : Mem) (x1 : Int32) : Int32 := ((M 19) (x1 : Int32).toNatClampNeg)
def P151 (M : Mem) (x1 : Int32) : Prop := (inb x1 30)
theorem s151 {E : gw_N} {M : Mem} {x1 : Int32} (H : P151 M x1) : Rn 151 [.ref 14, .int x1] (hs E M) (some (.int (F151 M x1))) (hs E M) :=
  w151_0 (⟨H, rfl⟩)
-- 152 GlassWires$Wires stands (I)Z
theorem w152_0 {E : gw_N} {M : Mem} {res : Option Value × gw_H} {x1 : Int32} (H : (inb x1 30 ∧ ((((M 18) (x1 : Int32).toNatClampNeg) ≤ 0 → res = (some (.int 0), hs E M)) ∧ (¬ ((M 18) (x1 : Int32).toNatClampNeg) ≤ 0 → res = (some (.int 1), hs E M))))) : Ev 1 152 0 [some (.ref 14), some (.int x1)] [] (hs E M) res := by
  refine Ev.steps 3 (pc' := 5) (L' := [some (.ref 14), some (.int x1)]) (st' := [.int x1, .ref 18]) rfl ?_
  refine Ev.rd (i := x1) (n := 30) (pc' := 6) (L' := [some (.ref 14), some (.int x1)]) (st' := [.int ((M 18) (x1 : Int32).toNatClampNeg)]) H.1 rfl ?_
  replace H := H.2
  refine Ev.steps 1 (pc' := if ((M 18) (x1 : Int32).toNatClampNeg) ≤ 0 then 13 else 9) (L' := [some (.ref 14), some (.int x1)]) (st' := []) rfl ?_
  refine Ev_ite (fun hc => ?_) (fun hc => ?_)
  · replace H := H.1 hc
    refine Ev.steps 1 (pc' := 14) (L' := [some (.ref 14), some (.int x1)]) (st' := [.int 0]) rfl ?_
    subst H
    exact Ev.ret rfl
  · replace H := H.2 hc
    refine Ev.steps 2 (pc' := 14) (L' := [some (.ref 14), some (.int x1)]) (st' := [.int 1]) rfl ?_
    subst H
    exact Ev.ret rfl

def F152 (M : Mem) (x1 : Int32) : Int32 := (if ((M 18) (x1 : Int32).toNatClampNeg) ≤ 0 then 0 else 1)
def P152 (M : Mem) (x1 : Int32) : Prop := (inb x1 30)
theorem bb152 {M : Mem} {x1 : Int32} : F152 M x1 &&& 1 = F152 M x1 := by
  unfold F152
  (repeat' split) <;> first | rfl | decide
theorem s152 {E : gw_N} {M : Mem} {x1 : Int32} (H : P152 M x1) : Rn 152 [.ref 14, .int x1] (hs E M) (some (.int (F152 M x1))) (hs E M) :=
  w152_0 (⟨H, ⟨fun h0 => gw_reteq (if_pos h0), fun h0 => gw_reteq (if_neg h0)⟩⟩)
-- 153 GlassWires$Wires pointAt (II)I
theorem w153_0 {E : gw_N} {M : Mem} {res : Option Value × gw_H} {x1 : Int32} {x2 : Int32} (H : (inb ((25 * x1) + x2) 750 ∧ res = (some (.int ((M 20) (((25 * x1) + x2) : Int32).toNatClampNeg)), hs E M))) : Ev 1 153 0 [some (.ref 14), some (.int x1), some (.int x2)] [] (hs E M) res := by
  refine Ev.steps 7 (pc' := 10) (L' := [some (.ref 14), some (.int x1), some (.int x2)]) (st' := [.int ((25 * x1) + x2), .ref 20]) rfl ?_
  refine Ev.rd (i := ((25 * x1) + x2)) (n := 750) (pc' := 11) (L' := [some (.ref 14), some (.int x1), some (.int x2)]) (st' := [.int ((M 20) (((25 * x1) + x2) : Int32).toNatClampNeg)]) H.1 rfl ?_
  replace H := H.2
  subst H
  exact Ev.ret rfl

def F153 (M : Mem) (x1 : Int32) (x2 : Int32) : Int32 := ((M 20) (((25 * x1) + x2) : Int32).toNatClampNeg)
def P153 (M : Mem) (x1 : Int32) (x2 : Int32) : Prop := (inb ((25 * x1) + x2) 750)
theorem s153 {E : gw_N} {M : Mem} {x1 : Int32} {x2 : Int32} (H : P153 M x1 x2) : Rn 153 [.ref 14, .int x1, .int x2] (hs E M) (some (.int (F153 M x1 x2))) (hs E M) :=
  w153_0 (⟨H, rfl⟩)
-- 154 GlassWires$Wires edgeAt (II)I
theorem w154_0 {E : gw_N} {M : Mem} {res : Option Value × gw_H} {x1 : Int32} {x2 : Int32} (H : (inb ((24 * x1) + x2) 720 ∧ res = (some (.int ((M 21) (((24 * x1) + x2) : Int32).toNatClampNeg)), hs E M))) : Ev 1 154 0 [some (.ref 14), some (.int x1), some (.int x2)] [] (hs E M) res := by
  refine Ev.steps 7 (pc' := 10) (L' := [some (.ref 14), some (.int x1), some (.int x2)]) (st' := [.int ((24 * x1) + x2), .ref 21]) rfl ?_
  refine Ev.rd (i := ((24 * x1) + x2)) (n := 720) (pc' := 11) (L' := [some (.ref 14), some (.int x1), some (.int x2)]) (st' := [.int ((M 21) (((24 * x1) + x2) : Int32).toNatClampNeg)]) H.1 rfl ?_
  replace H := H.2
  subst H
  exact Ev.ret rfl

def F154 (M : Mem) (x1 : Int32) (x2 : Int32) : Int32 := ((M 21) (((24 * x1) + x2) : Int32).toNatClampNeg)
def P154 (M : Mem) (x1 : Int32) (x2 : Int32) : Prop := (inb ((24 * x1) + x2) 720)
theorem s154 {E : gw_N} {M : Mem} {x1 : Int32} {x2 : Int32} (H : P154 M x1 x2) : Rn 154 [.ref 14, .int x1, .int x2] (hs E M) (some (.int (F154 M x1 x2))) (hs E M) :=
  w154_0 (⟨H, rfl⟩)
