/-! polish -/
section POM
variable {E : gw_N} {N : NM} {P : Pic} {A : Gla}
theorem sp13' {x1 : Int} (hA : GlaR A) (e1 : N 45 = A.lay) (e2 : N 47 = A.thk) (hx : 0 ≤ x1 ∧ x1 < 64) :
    Rn 13 [.ref 44, .int (J x1)] (hs E (jm N)) (some (.int (J (highZ A x1)))) (hs E (jm N)) := by
  have hl := hA.lay x1 hx.1 hx.2
  unfold highZ
  refine c13 (v13_0 ?_)
  refine loopZ (a := 0) (n := A.lay x1) (Q := fun k => Ev 1 13 4 [some (.ref 44), some (.int (J x1)), some (.int (J (sumZ k (fun k => A.thk (12 * x1 + k))))), some (.int (J k))] [] (hs E (jm N)) (_, _)) hl.1 ?_ ?_
  · refine v13_4 ?_
    rw [e1]
    ((repeat' (first | omega | exact True.intro | exact absurd True.intro ‹¬ True› | apply And.intro | intro _)) <;> rfl)
  · intro k h1 h2 ih
    refine v13_4 ?_
    rw [e1, e2]
    (repeat' (first | omega | exact True.intro | exact absurd True.intro ‹¬ True› | apply And.intro | intro _))
    rw [sumZ_succ h1] at ih
    exact ih
theorem sp267' {x1 : Int} (hA : GlaR A) (e1 : N 77 = A.lay) (e2 : N 79 = A.thk) (hx : 0 ≤ x1 ∧ x1 < 64) :
    Rn 267 [.ref 59, .int (J x1)] (hs E (jm N)) (some (.int (J (highZ A x1)))) (hs E (jm N)) := by
  have hl := hA.lay x1 hx.1 hx.2
  unfold highZ
  refine c267 (v267_0 ?_)
  refine loopZ (a := 0) (n := A.lay x1) (Q := fun k => Ev 1 267 4 [some (.ref 59), some (.int (J x1)), some (.int (J (sumZ k (fun k => A.thk (12 * x1 + k))))), some (.int (J k))] [] (hs E (jm N)) (_, _)) hl.1 ?_ ?_
  · refine v267_4 ?_
    rw [e1]
    ((repeat' (first | omega | exact True.intro | exact absurd True.intro ‹¬ True› | apply And.intro | intro _)) <;> rfl)
  · intro k h1 h2 ih
    refine v267_4 ?_
    rw [e1, e2]
    (repeat' (first | omega | exact True.intro | exact absurd True.intro ‹¬ True› | apply And.intro | intro _))
    rw [sumZ_succ h1] at ih
    exact ih
theorem highA_bd {f : Int} (hA : GlaR A) (hf : 0 ≤ f ∧ f < 64) : 0 ≤ highZ A f ∧ highZ A f ≤ 1188 := by
  have hl := hA.lay f hf.1 hf.2
  unfold highZ
  have := sumZ_bd' (g := fun k => A.thk (12 * f + k)) (n := A.lay f) (B := 12) (c := 99) (fun k k1 k2 => hA.thk _ (by omega) (by omega)) hl.1 hl.2 (by decide)
  omega
def polF (f : Int) : Nat → Int → Gla × Int → Gla × Int
  | 0, _, s => s
  | n + 1, o, s => if o ≤ 0 then s else polF f n (o - tkB s.1 f o) (tkF s.1 f o, s.2 + tkB s.1 f o)
theorem polF_stop {f o : Int} {n : Nat} {s : Gla × Int} (h : o ≤ 0) : polF f n o s = s := by
  cases n with
  | zero => rfl
  | succ n => exact if_pos h
theorem polF_go {f o : Int} {n : Nat} {s : Gla × Int} (h : ¬ o ≤ 0) : polF f (n + 1) o s = polF f n (o - tkB s.1 f o) (tkF s.1 f o, s.2 + tkB s.1 f o) := if_neg h
def sameG (A B : Gla) : Prop := B.fires = A.fires ∧ B.col = A.col ∧ B.sta = A.sta
theorem tkF_same {f m : Int} : sameG A (tkF A f m) := ⟨rfl, rfl, rfl⟩
theorem polF_ok {f w : Int} (hf : 0 ≤ f ∧ f < 64) (hw : 1 ≤ w) : ∀ (n : Nat) (o : Int) (s : Gla × Int), GlaR s.1 → highZ s.1 f = o + w → GlaR (polF f n o s).1 ∧ sameG s.1 (polF f n o s).1 := by
  intro n
  induction n with
  | zero => intro o s h1 h2; exact ⟨h1, rfl, rfl, rfl⟩
  | succ n ih =>
    intro o s h1 h2
    by_cases q : o ≤ 0
    · rw [polF_stop q]; exact ⟨h1, rfl, rfl, rfl⟩
    · have hl := high_pos h1 hf (by omega)
      rw [polF_go q]
      exact ih _ _ (tkF_R h1 hf hl (by omega)) (by show highZ (tkF s.1 f o) f = _; rw [tkF_high h1 hf hl (by omega)]; omega)
theorem pol_cls {res : Option Value × gw_H} {f w : Int} (hf : 0 ≤ f ∧ f < 64) (hw : 1 ≤ w ∧ w ≤ 99) : ∀ (n : Nat) (o s : Int) (A : Gla), (n : Int) ≤ 12 → GlaR A → highZ A f = o + w →
    Ev 3 25 4 [some (.ref 44), some (.int (J ((polF f n o (A, s)).2))), some (.int (J (f + 1))), none, none, none] [] (hs E (jm (clsG N (polF f n o (A, s)).1))) res → Ev 3 25 32 [some (.ref 44), some (.int (J s)), some (.int (J f)), some (.int (J o)), some (.int (J (12 - n))), none] [] (hs E (jm (clsG N A))) res := by
  intro n
  induction n with
  | zero =>
    intro o s A _ hA hh hK
    have hb := highA_bd hA hf
    refine v25_32 ?_
    (repeat' (first | omega | exact True.intro | exact absurd True.intro ‹¬ True› | apply And.intro | intro _))
    all_goals exact hK
  | succ n ih =>
    intro o s A hn hA hh hK
    have hb := highA_bd hA hf
    by_cases q : o ≤ 0
    · rw [polF_stop q] at hK
      refine v25_32 ?_
      (repeat' (first | omega | exact True.intro | exact absurd True.intro ‹¬ True› | apply And.intro | intro _))
      all_goals exact hK
    · have hl := high_pos hA hf (by omega)
      rw [polF_go q] at hK
      have h := ih (o - tkB A f o) (s + tkB A f o) (tkF A f o) (by omega) (tkF_R hA hf hl (show 0 ≤ o by omega)) (by rw [tkF_high hA hf hl (by omega)]; omega) hK
      refine v25_32 ?_
      (repeat' (first | omega | exact True.intro | exact absurd True.intro ‹¬ True› | apply And.intro | intro _))
      refine ⟨_, _, sp24 hA hf hl (by omega) (by omega), ?_⟩
      rw [show 12 - ((n + 1 : Nat) : Int) + 1 = 12 - (n : Int) by omega]
      exact h
theorem pol_ref {res : Option Value × gw_H} {f w : Int} (hf : 0 ≤ f ∧ f < 64) (hw : 1 ≤ w ∧ w ≤ 99) : ∀ (n : Nat) (o s : Int) (A : Gla), A.lay f ≤ n → GlaR A → highZ A f = o + w →
    Ev 2 274 4 [some (.ref 59), some (.int (J ((polF f n o (A, s)).2))), some (.int (J (f + 1))), none, none] [] (hs E (jm (refG N (polF f n o (A, s)).1))) res → Ev 2 274 23 [some (.ref 59), some (.int (J s)), some (.int (J f)), some (.int (J o)), none] [] (hs E (jm (refG N A))) res := by
  intro n
  induction n with
  | zero =>
    intro o s A hn hA hh hK
    have hb := highA_bd hA hf
    have h0 : ¬ 0 < highZ A f := fun q => by have := high_pos hA hf q; omega
    refine v274_23 ?_
    (repeat' (first | omega | exact True.intro | exact absurd True.intro ‹¬ True› | apply And.intro | intro _))
    all_goals exact hK
  | succ n ih =>
    intro o s A hn hA hh hK
    have hb := highA_bd hA hf
    by_cases q : o ≤ 0
    · rw [polF_stop q] at hK
      refine v274_23 ?_
      (repeat' (first | omega | exact True.intro | exact absurd True.intro ‹¬ True› | apply And.intro | intro _))
      all_goals exact hK
    · have hl := high_pos hA hf (by omega)
      have hk := topT hA hf hl
      rw [polF_go q] at hK
      refine v274_23 ?_
      (repeat' (first | omega | exact True.intro | exact absurd True.intro ‹¬ True› | apply And.intro | intro _))
      refine ⟨_, _, sp272 hA hf hl (by omega) (by omega), ?_⟩
      by_cases e : A.thk (topZ A f) - tkB A f o = 0
      · refine ih (o - tkB A f o) (s + tkB A f o) (tkF A f o) ?_ (tkF_R hA hf hl (show 0 ≤ o by omega)) (by rw [tkF_high hA hf hl (by omega)]; omega) hK
        show (if A.thk (topZ A f) - tkB A f o = 0 then updZ A.lay f (A.lay f - 1) else A.lay) f ≤ _
        rw [if_pos e, updZ_s]
        omega
      · have eo : tkB A f o = o := by unfold tkB at e ⊢; omega
        rw [eo, Int.sub_self, polF_stop (by decide)] at hK
        rw [eo, Int.sub_self]
        refine v274_23 ?_
        (repeat' (first | omega | exact True.intro | exact absurd True.intro ‹¬ True› | apply And.intro | intro _))
        all_goals exact hK
def polA (w : Int) : Nat → Gla → Gla × Int
  | 0, A => (A, 0)
  | k + 1, A => polF (k : Int) 12 (highZ (polA w k A).1 (k : Int) - w) (polA w k A)
def polZ (w k : Int) (A : Gla) : Gla × Int := polA w k.toNat A
theorem polZ_succ {w k : Int} (hk : 0 ≤ k) : polZ w (k + 1) A = polF k 12 (highZ (polZ w k A).1 k - w) (polZ w k A) := by
  unfold polZ
  have e : (k + 1).toNat = k.toNat + 1 := by omega
  rw [e]
  show polF (k.toNat : Int) 12 (highZ (polA w k.toNat A).1 (k.toNat : Int) - w) (polA w k.toNat A) = _
  rw [Int.toNat_of_nonneg hk]
theorem polZ_ok {w : Int} (hw : 1 ≤ w) (hA : GlaR A) : ∀ k, 0 ≤ k → k ≤ 64 → GlaR (polZ w k A).1 ∧ sameG A (polZ w k A).1 := by
  refine indZ (P := fun k => k ≤ 64 → GlaR (polZ w k A).1 ∧ sameG A (polZ w k A).1) (fun _ => ⟨hA, rfl, rfl, rfl⟩) ?_
  intro k hk ih hk2
  obtain ⟨h1, h2⟩ := ih (by omega)
  rw [polZ_succ hk]
  obtain ⟨k1, k2⟩ := polF_ok (f := k) (w := w) (by omega) hw 12 (highZ (polZ w k A).1 k - w) (polZ w k A) h1 (by omega)
  exact ⟨k1, k2.1.trans h2.1, k2.2.1.trans h2.2.1, k2.2.2.trans h2.2.2⟩
theorem clsG_id (hC : GlassOK A N) : clsG N A = N := by
  unfold clsG
  rw [← hC.layF, ← hC.thkF, upZ_id, upZ_id]
theorem refG_id (hR : RefOK P N) : refG N P.toGla = N := by
  unfold refG
  rw [← hR.lay, ← hR.thk, upZ_id, upZ_id]
theorem op_polish (hI : GInv P N) : Both E N 185 274 [] := by
  have hb := fld_bd hI.ok.geo
  have hw := hI.ok.pal.wall
  have hz := polZ_ok hw.1 hI.ok.gla
  obtain ⟨z1, z2⟩ := hz (P.toGeo.w * P.toGeo.h) (by omega) hb.2
  refine both (r := .int (J (polZ P.toPal.wall (P.toGeo.w * P.toGeo.h) P.toGla).2)) (P' := P.setGla (polZ P.toPal.wall (P.toGeo.w * P.toGeo.h) P.toGla).1) hI (PicOK.mk hI.ok.geo hI.ok.pag hI.ok.pal z1 hI.ok.ten hI.ok.rod) ?_ ?_
  · refine ⟨clsG N (polZ P.toPal.wall (P.toGeo.w * P.toGeo.h) P.toGla).1, c185 (v185_0 ⟨_, _, c25 (v25_0 ?_), rfl⟩), ?_, ?_⟩
    · have h0 := loopZ (a := 0) (n := P.toGeo.w * P.toGeo.h) (Q := fun k => Ev 3 25 4 [some (.ref 44), some (.int (J ((polZ P.toPal.wall k P.toGla).2))), some (.int (J k)), none, none, none] [] (hs E (jm (clsG N (polZ P.toPal.wall k P.toGla).1))) (some (.int (J (polZ P.toPal.wall (P.toGeo.w * P.toGeo.h) P.toGla).2)), hs E (jm (clsG N (polZ P.toPal.wall (P.toGeo.w * P.toGeo.h) P.toGla).1)))) (by omega) ?_ ?_
      · have e : clsG N (polZ P.toPal.wall 0 P.toGla).1 = N := clsG_id hI.cls.glass
        rw [e] at h0
        exact h0
      · refine v25_4 ?_
        rw [show G40 (clsG N (polZ P.toPal.wall (P.toGeo.w * P.toGeo.h) P.toGla).1) = P.toGeo.w * P.toGeo.h from cF hI.cls.grid]
        ((repeat' (first | omega | exact True.intro | exact absurd True.intro ‹¬ True› | apply And.intro | intro _)) <;> rfl)
      · intro k k1 k2 ih
        obtain ⟨y1, y2⟩ := hz k k1 (by omega)
        refine v25_4 ?_
        rw [show G40 (clsG N (polZ P.toPal.wall k P.toGla).1) = P.toGeo.w * P.toGeo.h from cF hI.cls.grid, show G103 (clsG N (polZ P.toPal.wall k P.toGla).1) = P.toPal.wall from hI.cls.pal.wall]
        (repeat' (first | omega | exact True.intro | exact absurd True.intro ‹¬ True› | apply And.intro | intro _))
        refine ⟨_, sp13' y1 rfl rfl (by omega), ?_⟩
        (repeat' (first | omega | exact True.intro | exact absurd True.intro ‹¬ True› | apply And.intro | intro _))
        refine pol_cls (w := P.toPal.wall) (by omega) hw 12 (highZ (polZ P.toPal.wall k P.toGla).1 k - P.toPal.wall) (polZ P.toPal.wall k P.toGla).2 (polZ P.toPal.wall k P.toGla).1 (by decide) y1 (by omega) ?_
        rw [polZ_succ k1] at ih
        exact ih
    · (refine ClsOK.mk ?_ ?_ ?_ ?_ ?_ ?_ ?_ ?_ ?_ <;> first | exact (hI.cls).grid.fr rfl rfl rfl | exact (hI.cls).page.fr rfl rfl | exact (hI.cls).wires.fr rfl rfl rfl rfl rfl rfl rfl rfl | exact (hI.cls).net.fr rfl rfl rfl rfl | exact (hI.cls).cells.fr rfl rfl rfl | exact (hI.cls).pal.fr rfl rfl rfl | exact (hI.cls).glass.fr rfl rfl rfl rfl rfl | exact (hI.cls).ten.fr rfl | exact (hI.cls).rods.fr rfl rfl rfl | skip)
      exact GlassOK.mk (hI.cls.glass.fires.trans z2.1.symm) rfl (hI.cls.glass.colF.trans z2.2.1.symm) rfl (hI.cls.glass.staF.trans z2.2.2.symm)
    · intro a ha
      show upZ (upZ N 47 _) 45 _ a = N a
      rw [upZ_n (by omega), upZ_n (by omega)]
  · intro N hR
    refine ⟨refG N (polZ P.toPal.wall (P.toGeo.w * P.toGeo.h) P.toGla).1, c274 (v274_0 ?_), ?_, ?_⟩
    · have h0 := loopZ (a := 0) (n := P.toGeo.w * P.toGeo.h) (Q := fun k => Ev 2 274 4 [some (.ref 59), some (.int (J ((polZ P.toPal.wall k P.toGla).2))), some (.int (J k)), none, none] [] (hs E (jm (refG N (polZ P.toPal.wall k P.toGla).1))) (some (.int (J (polZ P.toPal.wall (P.toGeo.w * P.toGeo.h) P.toGla).2)), hs E (jm (refG N (polZ P.toPal.wall (P.toGeo.w * P.toGeo.h) P.toGla).1)))) (by omega) ?_ ?_
      · have e : refG N (polZ P.toPal.wall 0 P.toGla).1 = N := refG_id hR
        rw [e] at h0
        exact h0
      · refine v274_4 ?_
        rw [show G243 (refG N (polZ P.toPal.wall (P.toGeo.w * P.toGeo.h) P.toGla).1) = P.toGeo.w * P.toGeo.h from (rF hR : G243 N = P.toGeo.w * P.toGeo.h)]
        ((repeat' (first | omega | exact True.intro | exact absurd True.intro ‹¬ True› | apply And.intro | intro _)) <;> rfl)
      · intro k k1 k2 ih
        obtain ⟨y1, y2⟩ := hz k k1 (by omega)
        refine v274_4 ?_
        rw [show G243 (refG N (polZ P.toPal.wall k P.toGla).1) = P.toGeo.w * P.toGeo.h from (rF hR : G243 N = P.toGeo.w * P.toGeo.h), show (refG N (polZ P.toPal.wall k P.toGla).1) 59 22 = P.toPal.wall from hR.wall]
        (repeat' (first | omega | exact True.intro | exact absurd True.intro ‹¬ True› | apply And.intro | intro _))
        refine ⟨_, sp267' y1 rfl rfl (by omega), ?_⟩
        have hy := y1.lay k k1 (by omega)
        refine pol_ref (w := P.toPal.wall) (by omega) hw 12 (highZ (polZ P.toPal.wall k P.toGla).1 k - P.toPal.wall) (polZ P.toPal.wall k P.toGla).2 (polZ P.toPal.wall k P.toGla).1 (by omega) y1 (by omega) ?_
        rw [polZ_succ k1] at ih
        exact ih
    · exact RefOK.mk hR.w hR.h hR.pm hR.ws hR.wall hR.stiff hR.bear (hR.fires.trans z2.1.symm) hR.bc hR.bt hR.rods hR.pg hR.px hR.py hR.mv hR.laid hR.sold hR.heat hR.shr hR.pul hR.foe rfl (hR.col.trans z2.2.1.symm) rfl (hR.sta.trans z2.2.2.symm) hR.rl hR.rm
    · intro a ha
      show upZ (upZ N 79 _) 77 _ a = N a
      rw [upZ_n (by omega), upZ_n (by omega)]
end POM
