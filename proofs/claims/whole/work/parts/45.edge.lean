/-! point, covers, what bleeds -/
section EDG
variable {E : gw_N} {N : NM} {P : Pic} {G : Geo}
theorem op_point {x1 x2 : Int} (hI : GInv P N) (h1 : R x1) (h2 : R x2) : Both E N 169 232 [.int (J x1), .int (J x2)] := by
  have hws := hI.ok.geo.ws
  have e1 := hI.cls.wires.ws
  have e2 := hI.ref.ws
  by_cases hv : 0 ≤ x1 ∧ x1 < P.toGeo.ws
  · have hm := hI.ok.geo.mv x1 hv.1 hv.2
    have em : G149 N x1 = P.toGeo.mv x1 := hI.cls.wires.mv x1 hv.1 hv.2
    by_cases hi : 0 ≤ x2 ∧ x2 ≤ P.toGeo.mv x1
    · refine both_same (r := .int (J (ptC P.toGeo x1 x2))) hI (c169 (v169_0 ?_)) (c232 (v232_0 ?_))
      · rw [em, show G153 N x1 x2 = ptC P.toGeo x1 x2 from hI.cls.wires.pt x1 x2 hv.1 hv.2 hi.1 hi.2]
        simp only [G144, e1]
        unfold Q144
        rw [e1]
        ((repeat' (first | omega | exact True.intro | exact absurd True.intro ‹¬ True› | apply And.intro | intro _)) <;> rfl)
      · simp only [G220, e2, hI.ref.mv, hI.ref.px, hI.ref.py]
        unfold Q220
        rw [e2]
        ((repeat' (first | omega | exact True.intro | exact absurd True.intro ‹¬ True› | apply And.intro | intro _)) <;> rfl)
    · refine both_same (r := .int (J (-1))) hI (c169 (v169_0 ?_)) (c232 (v232_0 ?_))
      · rw [em]
        simp only [G144, e1]
        unfold Q144
        rw [e1]
        ((repeat' (first | omega | exact True.intro | exact absurd True.intro ‹¬ True› | apply And.intro | intro _)) <;> rfl)
      · simp only [G220, e2, hI.ref.mv, hI.ref.px, hI.ref.py]
        unfold Q220
        rw [e2]
        ((repeat' (first | omega | exact True.intro | exact absurd True.intro ‹¬ True› | apply And.intro | intro _)) <;> rfl)
  · refine both_same (r := .int (J (-101))) hI (c169 (v169_0 ?_)) (c232 (v232_0 ?_))
    · simp only [G144, e1]
      unfold Q144
      rw [e1]
      ((repeat' (first | omega | exact True.intro | exact absurd True.intro ‹¬ True› | apply And.intro | intro _)) <;> rfl)
    · simp only [G220, e2]
      unfold Q220
      rw [e2]
      ((repeat' (first | omega | exact True.intro | exact absurd True.intro ‹¬ True› | apply And.intro | intro _)) <;> rfl)
theorem sp224 {v e : Int} (hI : PicOK P) (hR : RefOK P N) (hv : 0 ≤ v ∧ v < P.toGeo.ws) (he : R e) : Rn 224 [.ref 59, .int (J v), .int (J e)] (hs E (jm N)) (some (.int (J (bZ (onR P.toGeo v (P.toGeo.mv v) e))))) (hs E (jm N)) := by
  have hws := hI.geo.ws
  have hm := hI.geo.mv v hv.1 hv.2
  refine c224 (v224_0 ?_)
  have h0 := loopZ (a := 0) (n := P.toGeo.mv v) (Q := fun k => Ev 2 224 5 [some (.ref 59), some (.int (J v)), some (.int (J e)), some (.int (J (bZ (onR P.toGeo v k e)))), some (.int (J k))] [] (hs E (jm N)) (some (.int (J (bZ (onR P.toGeo v (P.toGeo.mv v) e)))), (hs E (jm N)))) (by omega) ?_ ?_
  · rw [bZ_f onR_0] at h0
    exact h0
  · have h01 := bZ_01 (p := onR P.toGeo v (P.toGeo.mv v) e)
    refine v224_5 ?_
    rw [hR.mv]
    ((repeat' (first | omega | exact True.intro | exact absurd True.intro ‹¬ True› | apply And.intro | intro _)) <;> rfl)
  · intro k k1 k2 ih
    have hsp := eR_spec hI.geo hv ⟨k1, k2⟩
    have hq := Q223_e hI hR hv ⟨k1, k2⟩
    have h01 := bZ_01 (p := onR P.toGeo v k e)
    refine v224_5 ?_
    rw [hR.mv, G223_e hR]
    rw [show onR P.toGeo v (k + 1) e = (onR P.toGeo v k e ∨ eR P.toGeo v k = e) from propext (exZ_succ k1)] at ih
    by_cases q : onR P.toGeo v k e
    · rw [bZ_t q]
      rw [bZ_t (Or.inl q)] at ih
      (repeat' (first | omega | exact True.intro | exact absurd True.intro ‹¬ True› | apply And.intro | intro _))
      all_goals exact ih
    · rw [bZ_f q]
      by_cases q2 : eR P.toGeo v k = e
      · rw [bZ_t (Or.inr q2)] at ih
        refine ⟨by omega, by omega, by omega, fun z => absurd z (by omega), fun _ => ⟨by decide, fun _ => ⟨hq, by omega, he, fun _ => ih, fun z => absurd q2 z⟩, fun z => absurd rfl z⟩⟩
      · rw [bZ_f (fun z => z.elim q q2)] at ih
        refine ⟨by omega, by omega, by omega, fun z => absurd z (by omega), fun _ => ⟨by decide, fun _ => ⟨hq, by omega, he, fun z => absurd z q2, fun _ => ih⟩, fun z => absurd rfl z⟩⟩
theorem sp233 {e : Int} (hI : PicOK P) (hR : RefOK P N) (he : 0 ≤ e ∧ e < 162) : Rn 233 [.ref 59, .int (J e)] (hs E (jm N)) (some (.int (J (covC P.toGeo (toC e))))) (hs E (jm N)) := by
  have hws := hI.geo.ws
  have e2 := hR.ws
  unfold covC
  refine c233 (v233_0 ?_)
  refine loopZ (a := 0) (n := P.toGeo.ws) (Q := fun v => Ev 3 233 4 [some (.ref 59), some (.int (J e)), some (.int (J (sumZ v (fun v => bZ (P.toGeo.laid v = 1 ∧ onC P.toGeo v (toC e)))))), some (.int (J v))] [] (hs E (jm N)) (_, _)) hws.1 ?_ ?_
  · refine v233_4 ?_
    rw [e2]
    ((repeat' (first | omega | exact True.intro | exact absurd True.intro ‹¬ True› | apply And.intro | intro _)) <;> rfl)
  · intro v v1 v2 ih
    have hl := hI.geo.laid v v1 v2
    have h01 := bZ_01 (p := onR P.toGeo v (P.toGeo.mv v) e)
    refine v233_4 ?_
    rw [e2, hR.laid]
    rw [sumZ_succ v1] at ih
    by_cases q : P.toGeo.laid v = 1
    · (repeat' (first | omega | exact True.intro | exact absurd True.intro ‹¬ True› | apply And.intro | intro _))
      refine ⟨_, sp224 hI hR ⟨v1, v2⟩ (by omega), ?_⟩
      (repeat' (first | omega | exact True.intro | exact absurd True.intro ‹¬ True› | apply And.intro | intro _))
      · rw [bZ_f (fun z => (bZ_0.mp ‹_›) ((onR_onC hI.geo ⟨v1, v2⟩ he).mpr z.2))] at ih
        exact ih
      · rw [bZ_t ⟨q, (onR_onC hI.geo ⟨v1, v2⟩ he).mp (bZ_1.mp (by omega))⟩] at ih
        exact ih
    · rw [bZ_f (fun z => q z.1)] at ih
      (repeat' (first | omega | exact True.intro | exact absurd True.intro ‹¬ True› | apply And.intro | intro _))
      all_goals exact ih
def isE (G : Geo) (x y s : Int) : Prop := (s = 0 ∧ 0 ≤ x ∧ x < G.w ∧ 0 ≤ y ∧ y ≤ G.h) ∨ (s = 1 ∧ 0 ≤ x ∧ x ≤ G.w ∧ 0 ≤ y ∧ y < G.h)
theorem cEdge {x y s : Int} (hG : GeoR G) (hg : GridOK G N) (h1 : R x) (h2 : R y) (h3 : R s) : G44 N x y s = bZ (isE G x y s) ∧ Q44 N x y s := by
  have h8 := hG.w
  have h9 := hG.h
  have h41 : ∀ a b, G41 N a b = if 0 ≤ a ∧ a ≤ G.w ∧ 0 ≤ b ∧ b ≤ G.h then 1 else 0 := by
    intro a b
    unfold G41
    rw [hg.w, hg.h]
    (repeat' split) <;> omega
  have q41 : ∀ a b, R a → R b → Q41 N a b := by
    intro a b ha hb
    unfold Q41
    rw [hg.w, hg.h]
    (repeat' (first | omega | exact True.intro | exact absurd True.intro ‹¬ True› | apply And.intro | intro _))
  unfold G44 Q44
  rw [h41, h41]
  by_cases a : s = 0
  · subst a
    have e1 : G53 N 0 = 1 := rfl
    have e2 : G54 N 0 = 0 := rfl
    rw [e1, e2]
    refine ⟨?_, ⟨by decide, fun _ => ⟨q41 _ _ h1 h2, by split <;> decide, fun _ => trivial, fun z => ⟨by unfold Q53; (repeat' (first | omega | exact True.intro | exact absurd True.intro ‹¬ True› | apply And.intro | intro _)), by unfold Q54; (repeat' (first | omega | exact True.intro | exact absurd True.intro ‹¬ True› | apply And.intro | intro _)), q41 _ _ (by split at z <;> omega) (by split at z <;> omega), by split <;> decide, fun _ => trivial, fun _ => trivial⟩⟩, fun z => absurd rfl z⟩⟩
    rw [if_pos rfl]
    by_cases q : isE G x y 0
    · rw [bZ_t q]
      have q' : 0 ≤ x ∧ x < G.w ∧ 0 ≤ y ∧ y ≤ G.h := by
        rcases q with q | q
        · exact q.2
        · exact absurd q.1 (by decide)
      rw [if_neg (by rw [if_pos (by omega)]; decide), if_neg (by rw [if_pos (by omega)]; decide)]
    · rw [bZ_f q]
      have q' : ¬ (0 ≤ x ∧ x < G.w ∧ 0 ≤ y ∧ y ≤ G.h) := fun z => q (Or.inl ⟨rfl, z⟩)
      (repeat' split) <;> omega
  · by_cases b : s = 1
    · subst b
      have e1 : G53 N 1 = 0 := rfl
      have e2 : G54 N 1 = 1 := rfl
      rw [e1, e2]
      refine ⟨?_, ⟨by decide, fun z => absurd z (by decide), fun _ => ⟨fun _ => ⟨q41 _ _ h1 h2, by split <;> decide, fun _ => trivial, fun z => ⟨by unfold Q53; (repeat' (first | omega | exact True.intro | exact absurd True.intro ‹¬ True› | apply And.intro | intro _)), by unfold Q54; (repeat' (first | omega | exact True.intro | exact absurd True.intro ‹¬ True› | apply And.intro | intro _)), q41 _ _ (by split at z <;> omega) (by split at z <;> omega), by split <;> decide, fun _ => trivial, fun _ => trivial⟩⟩, fun z => absurd rfl z⟩⟩⟩
      rw [if_neg (by decide), if_pos rfl]
      by_cases q : isE G x y 1
      · rw [bZ_t q]
        have q' : 0 ≤ x ∧ x ≤ G.w ∧ 0 ≤ y ∧ y < G.h := by
          rcases q with q | q
          · exact absurd q.1 (by decide)
          · exact q.2
        rw [if_neg (by rw [if_pos (by omega)]; decide), if_neg (by rw [if_pos (by omega)]; decide)]
      · rw [bZ_f q]
        have q' : ¬ (0 ≤ x ∧ x ≤ G.w ∧ 0 ≤ y ∧ y < G.h) := fun z => q (Or.inr ⟨rfl, z⟩)
        (repeat' split) <;> omega
    · refine ⟨?_, ⟨h3, fun z => absurd z a, fun _ => ⟨fun z => absurd z b, fun _ => trivial⟩⟩⟩
      rw [if_neg a, if_neg b, bZ_f]
      rintro (z | z)
      · exact a z.1
      · exact b z.1
theorem rEdge {x y s : Int} (hI : PicOK P) (hR : RefOK P N) (h1 : R x) (h2 : R y) (h3 : R s) : G234 N x y s = bZ (isE P.toGeo x y s) ∧ Q234 N x y s := by
  have h8 := hI.geo.w
  have h9 := hI.geo.h
  unfold G234 Q234
  rw [hR.w, hR.h]
  refine ⟨?_, by (repeat' (first | omega | exact True.intro | exact absurd True.intro ‹¬ True› | apply And.intro | intro _))⟩
  by_cases q : isE P.toGeo x y s
  · rw [bZ_t q]
    unfold isE at q
    (repeat' split) <;> omega
  · rw [bZ_f q]
    unfold isE at q
    (repeat' split) <;> omega
theorem op_covers {x1 x2 x3 : Int} (hI : GInv P N) (h1 : R x1) (h2 : R x2) (h3 : R x3) : Both E N 170 236 [.int (J x1), .int (J x2), .int (J x3)] := by
  have h8 := hI.ok.geo.w
  have h9 := hI.ok.geo.h
  obtain ⟨a1, a2⟩ := cEdge hI.ok.geo hI.cls.grid h1 h2 h3
  obtain ⟨b1, b2⟩ := rEdge hI.ok hI.ref h1 h2 h3
  by_cases q : isE P.toGeo x1 x2 x3
  · have q' := q
    unfold isE at q'
    have hb : 0 ≤ 89 * x3 + (10 * x2 + x1) ∧ 89 * x3 + (10 * x2 + x1) < 178 := by omega
    have hb2 : 0 ≤ 81 * x3 + 9 * x2 + x1 ∧ 81 * x3 + 9 * x2 + x1 < 162 := by omega
    have et : toC (81 * x3 + 9 * x2 + x1) = 89 * x3 + (10 * x2 + x1) := by
      unfold toC
      rcases q' with q' | q'
      · rw [q'.1]
        have c1 : (81 * 0 + 9 * x2 + x1) / 81 = 0 := by omega
        have c2 : (81 * 0 + 9 * x2 + x1) % 81 = 9 * x2 + x1 := by omega
        rw [c1, c2]; omega
      · rw [q'.1]
        have c1 : (81 * 1 + 9 * x2 + x1) / 81 = 1 := by omega
        have c2 : (81 * 1 + 9 * x2 + x1) % 81 = 9 * x2 + x1 := by omega
        rw [c1, c2]; omega
    refine both_same (r := .int (J (covC P.toGeo (89 * x3 + (10 * x2 + x1))))) hI (c170 (v170_0 ?_)) (c236 (v236_0 ?_))
    · rw [a1, bZ_t q, show G51 N x1 x2 x3 = 89 * x3 + (10 * x2 + x1) from rfl, show G66 N (89 * x3 + (10 * x2 + x1)) = covC P.toGeo (89 * x3 + (10 * x2 + x1)) from hI.cls.net.cov _ hb.1 hb.2]
      exact ⟨a2, by decide, fun z => absurd z (by decide), fun _ => ⟨⟨hb, trivial⟩, rfl⟩⟩
    · have h233 := sp233 (E := E) (N := N) hI.ok hI.ref hb2
      rw [et] at h233
      rw [b1, bZ_t q]
      exact ⟨b2, by decide, fun z => absurd z (by decide), fun _ => ⟨_, h233, rfl⟩⟩
  · refine both_same (r := .int (J (-101))) hI (c170 (v170_0 ?_)) (c236 (v236_0 ?_))
    · rw [a1, bZ_f q]
      exact ⟨a2, by decide, fun _ => rfl, fun z => absurd rfl z⟩
    · rw [b1, bZ_f q]
      exact ⟨b2, by decide, fun _ => rfl, fun z => absurd rfl z⟩
end EDG
