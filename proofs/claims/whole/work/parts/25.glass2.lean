/-! layer, count, state but bleeding, pull -/
section GL2
variable {E : gw_N} {N : NM} {P : Pic}
theorem G206_0 {N : NM} : G206 N 0 = 0 := by unfold G206; rfl
theorem G206_1 {N : NM} : G206 N 1 = 1 := by unfold G206; rfl
theorem cF {G : Geo} (h : GridOK G N) : G40 N = G.w * G.h := by unfold G40; rw [h.w, h.h]
theorem rF (h : RefOK P N) : G243 N = P.toGeo.w * P.toGeo.h := by unfold G243; rw [h.w, h.h]
theorem op_layer {x1 x2 x3 x4 : Int} (hI : GInv P N) (h1 : R x1) (h2 : R x2) (h3 : R x3) (h4 : R x4) : Both E N 183 269 [.int (J x1), .int (J x2), .int (J x3), .int (J x4)] := by
  have hw := hI.ok.geo.w
  have hh := hI.ok.geo.h
  have e1 := hI.cls.grid.w
  have e2 := hI.cls.grid.h
  have e3 := hI.ref.w
  have e4 := hI.ref.h
  have hb := fld_bd hI.ok.geo
  by_cases hc : (0 ≤ x1 ∧ x1 < P.toGeo.w) ∧ 0 ≤ x2 ∧ x2 < P.toGeo.h
  · have hf := (fld_at hI.ok.geo hc.1 hc.2).1
    have hl := hI.ok.gla.lay (P.toGeo.w * x2 + x1) (by omega) (by omega)
    have el := hI.cls.glass.lay (P.toGeo.w * x2 + x1) (by omega) (by omega)
    have er := hI.ref.lay
    by_cases hx : 0 ≤ x4 ∧ x4 ≤ 2
    · by_cases hk : 0 ≤ x3 ∧ x3 < P.toGla.lay (P.toGeo.w * x2 + x1)
      · refine both_same (r := .int (J (if x4 = 0 then P.toGla.col (12 * (P.toGeo.w * x2 + x1) + x3) else if x4 = 1 then P.toGla.thk (12 * (P.toGeo.w * x2 + x1) + x3) else P.toGla.sta (12 * (P.toGeo.w * x2 + x1) + x3)))) hI (c183 (v183_0 ?_)) (c269 (v269_0 ?_))
        · simp only [G43, G45, e1, e2, G14]
          unfold Q43 Q14
          simp only [e1, e2]
          rw [el, hI.cls.glass.col _ (by omega) (by omega), hI.cls.glass.thk _ (by omega) (by omega), hI.cls.glass.sta _ (by omega) (by omega)]
          (repeat' (first | omega | exact True.intro | exact absurd True.intro ‹¬ True› | apply And.intro | intro _))
          have q0 : ¬ x3 < 0 := by omega
          rw [if_neg q0, if_pos hk.2]
        · simp only [G244, e3, e4]
          unfold Q244
          simp only [e3, e4]
          rw [er, hI.ref.col, hI.ref.thk, hI.ref.sta]
          (repeat' (first | omega | exact True.intro | exact absurd True.intro ‹¬ True› | apply And.intro | intro _))
          · rw [if_pos ‹x4 = 0›]
          · rw [if_neg ‹¬ x4 = 0›, if_pos ‹x4 = 1›]
          · rw [if_neg ‹¬ x4 = 0›, if_neg ‹¬ x4 = 1›]
      · refine both_same (r := .int (J (-1))) hI (c183 (v183_0 ?_)) (c269 (v269_0 ?_))
        · simp only [G43, G45, e1, e2, G14]
          unfold Q43 Q14
          simp only [e1, e2]
          rw [el]
          (repeat' (first | omega | exact True.intro | exact absurd True.intro ‹¬ True› | apply And.intro | intro _))
          by_cases q : x3 < 0
          · rw [if_pos q]
          · rw [if_neg q, if_neg (show ¬ x3 < P.toGla.lay (P.toGeo.w * x2 + x1) by omega)]
        · simp only [G244, e3, e4]
          unfold Q244
          simp only [e3, e4]
          rw [er]
          ((repeat' (first | omega | exact True.intro | exact absurd True.intro ‹¬ True› | apply And.intro | intro _)) <;> rfl)
    · refine both_same (r := .int (J (-102))) hI (c183 (v183_0 ?_)) (c269 (v269_0 ?_))
      · simp only [G43, G45, e1, e2, G14]
        unfold Q43 Q14
        simp only [e1, e2]
        ((repeat' (first | omega | exact True.intro | exact absurd True.intro ‹¬ True› | apply And.intro | intro _)) <;> rfl)
      · simp only [G244, e3, e4]
        unfold Q244
        simp only [e3, e4]
        ((repeat' (first | omega | exact True.intro | exact absurd True.intro ‹¬ True› | apply And.intro | intro _)) <;> rfl)
  · refine both_same (r := .int (J (-101))) hI (c183 (v183_0 ?_)) (c269 (v269_0 ?_))
    · simp only [G43, G45, e1, e2, G14]
      unfold Q43 Q14
      simp only [e1, e2]
      ((repeat' (first | omega | exact True.intro | exact absurd True.intro ‹¬ True› | apply And.intro | intro _)) <;> rfl)
    · simp only [G244, e3, e4]
      unfold Q244
      simp only [e3, e4]
      ((repeat' (first | omega | exact True.intro | exact absurd True.intro ‹¬ True› | apply And.intro | intro _)) <;> rfl)
def laidN (G : Geo) : Int := sumZ G.ws (fun v => G.laid v)
theorem sp155 {G : Geo} (hG : GeoR G) (hW : WiresOK G N) : Rn 155 [.ref 14] (hs E (jm N)) (some (.int (J (laidN G)))) (hs E (jm N)) := by
  have hsw := hG.ws
  have e := hW.ws
  unfold laidN
  refine c155 (v155_0 ?_)
  refine loopZ (a := 0) (n := G.ws) (Q := fun k => Ev 2 155 4 [some (.ref 14), some (.int (J (sumZ k (fun v => G.laid v)))), some (.int (J k))] [] (hs E (jm N)) (_, _)) hsw.1 ?_ ?_
  · refine v155_4 ?_
    ((repeat' (first | omega | exact True.intro | exact absurd True.intro ‹¬ True› | apply And.intro | intro _)) <;> rfl)
  · intro k h1 h2 ih
    have hl := hG.laid k h1 h2
    refine v155_4 ?_
    rw [hW.laid k h1 h2]
    rw [sumZ_succ h1] at ih
    have e9 : G206 N (G.laid k) = G.laid k := by
      rcases hl with h | h <;> rw [h]
      · exact G206_0
      · exact G206_1
    rw [e9]
    (repeat' (first | omega | exact True.intro | exact absurd True.intro ‹¬ True› | apply And.intro | intro _))
    all_goals exact ih
theorem sp305 (hI : PicOK P) (hR : RefOK P N) : Rn 305 [.ref 59] (hs E (jm N)) (some (.int (J (laidN P.toGeo)))) (hs E (jm N)) := by
  have hsw := hI.geo.ws
  have e := hR.ws
  unfold laidN
  refine c305 (v305_0 ?_)
  refine loopZ (a := 0) (n := P.toGeo.ws) (Q := fun k => Ev 1 305 4 [some (.ref 59), some (.int (J (sumZ k (fun v => P.toGeo.laid v)))), some (.int (J k))] [] (hs E (jm N)) (_, _)) hsw.1 ?_ ?_
  · refine v305_4 ?_
    ((repeat' (first | omega | exact True.intro | exact absurd True.intro ‹¬ True› | apply And.intro | intro _)) <;> rfl)
  · intro k h1 h2 ih
    have hl := hI.geo.laid k h1 h2
    refine v305_4 ?_
    rw [hR.laid]
    rw [sumZ_succ h1] at ih
    (repeat' (first | omega | exact True.intro | exact absurd True.intro ‹¬ True› | apply And.intro | intro _))
    · rw [show P.toGeo.laid k = 0 by omega] at ih
      exact ih
    · rw [show P.toGeo.laid k = 1 by omega] at ih
      exact ih
theorem sp12 (hI : PicOK P) (hg : GridOK P.toGeo N) (hC : GlassOK P.toGla N) : Rn 12 [.ref 44] (hs E (jm N)) (some (.int (J (sumZ (P.toGeo.w * P.toGeo.h) (fun f => P.toGla.lay f))))) (hs E (jm N)) := by
  have hb := fld_bd hI.geo
  refine c12 (v12_0 ?_)
  refine loopZ (a := 0) (n := P.toGeo.w * P.toGeo.h) (Q := fun k => Ev 2 12 4 [some (.ref 44), some (.int (J (sumZ k (fun f => P.toGla.lay f)))), some (.int (J k))] [] (hs E (jm N)) (_, _)) (by omega) ?_ ?_
  · refine v12_4 ?_
    rw [cF hg]
    ((repeat' (first | omega | exact True.intro | exact absurd True.intro ‹¬ True› | apply And.intro | intro _)) <;> rfl)
  · intro k h1 h2 ih
    refine v12_4 ?_
    rw [cF hg, hC.lay k h1 (by omega)]
    rw [sumZ_succ h1] at ih
    (repeat' (first | omega | exact True.intro | exact absurd True.intro ‹¬ True› | apply And.intro | intro _))
    all_goals exact ih
theorem op_count {x1 : Int} (hI : GInv P N) (h1 : R x1) : Both E N 201 307 [.int (J x1)] := by
  have hb := fld_bd hI.ok.geo
  by_cases a0 : x1 = 0
  · refine both_same (r := .int (J (P.toGeo.w * P.toGeo.h))) hI (c201 (v201_0 ?_)) (c307 (v307_0 ?_))
    · rw [cF hI.cls.grid]; ((repeat' (first | omega | exact True.intro | exact absurd True.intro ‹¬ True› | apply And.intro | intro _)) <;> rfl)
    · rw [rF hI.ref]; ((repeat' (first | omega | exact True.intro | exact absurd True.intro ‹¬ True› | apply And.intro | intro _)) <;> rfl)
  by_cases a1 : x1 = 1
  · refine both_same (r := .int (J P.toGeo.ws)) hI (c201 (v201_0 ?_)) (c307 (v307_0 ?_))
    · rw [show G143 N = P.toGeo.ws from hI.cls.wires.ws]; ((repeat' (first | omega | exact True.intro | exact absurd True.intro ‹¬ True› | apply And.intro | intro _)) <;> rfl)
    · rw [hI.ref.ws]; ((repeat' (first | omega | exact True.intro | exact absurd True.intro ‹¬ True› | apply And.intro | intro _)) <;> rfl)
  by_cases a2 : x1 = 2
  · refine both_same (r := .int (J (laidN P.toGeo))) hI (c201 (v201_0 ?_)) (c307 (v307_0 ?_))
    · (repeat' (first | omega | exact True.intro | exact absurd True.intro ‹¬ True› | apply And.intro | intro _))
      exact ⟨_, sp155 hI.ok.geo hI.cls.wires, rfl⟩
    · (repeat' (first | omega | exact True.intro | exact absurd True.intro ‹¬ True› | apply And.intro | intro _))
      exact ⟨_, sp305 hI.ok hI.ref, rfl⟩
  by_cases a3 : x1 = 3
  · refine both_same (r := .int (J P.toPag.pm)) hI (c201 (v201_0 ?_)) (c307 (v307_0 ?_))
    · rw [show G78 N = P.toPag.pm from hI.cls.page.pm]; ((repeat' (first | omega | exact True.intro | exact absurd True.intro ‹¬ True› | apply And.intro | intro _)) <;> rfl)
    · rw [hI.ref.pm]; ((repeat' (first | omega | exact True.intro | exact absurd True.intro ‹¬ True› | apply And.intro | intro _)) <;> rfl)
  by_cases a4 : x1 = 4
  · refine both_same (r := .int (J P.toRod.rods)) hI (c201 (v201_0 ?_)) (c307 (v307_0 ?_))
    · rw [show G119 N = P.toRod.rods from hI.cls.rods.rods]; ((repeat' (first | omega | exact True.intro | exact absurd True.intro ‹¬ True› | apply And.intro | intro _)) <;> rfl)
    · rw [hI.ref.rods]; ((repeat' (first | omega | exact True.intro | exact absurd True.intro ‹¬ True› | apply And.intro | intro _)) <;> rfl)
  by_cases a5 : x1 = 5
  · refine both_same (r := .int (J (sumZ (P.toGeo.w * P.toGeo.h) (fun f => P.toGla.lay f)))) hI (c201 (v201_0 ?_)) (c307 (v307_0 ?_))
    · (repeat' (first | omega | exact True.intro | exact absurd True.intro ‹¬ True› | apply And.intro | intro _))
      exact ⟨_, sp12 hI.ok hI.cls.grid hI.cls.glass, rfl⟩
    · (repeat' (first | omega | exact True.intro | exact absurd True.intro ‹¬ True› | apply And.intro | intro _))
      refine loopZ (a := 0) (n := P.toGeo.w * P.toGeo.h) (Q := fun k => Ev 2 307 67 [some (.ref 59), none, some (.int (J (sumZ k (fun f => P.toGla.lay f)))), some (.int (J k))] [] (hs E (jm N)) (_, _)) (by omega) ?_ ?_
      · refine v307_67 ?_
        rw [rF hI.ref]
        ((repeat' (first | omega | exact True.intro | exact absurd True.intro ‹¬ True› | apply And.intro | intro _)) <;> rfl)
      · intro k h1 h2 ih
        refine v307_67 ?_
        rw [rF hI.ref, hI.ref.lay]
        rw [sumZ_succ h1] at ih
        (repeat' (first | omega | exact True.intro | exact absurd True.intro ‹¬ True› | apply And.intro | intro _))
        all_goals exact ih
  · refine both_same (r := .int (J (-102))) hI (c201 (v201_0 ?_)) (c307 (v307_0 ?_)) <;> ((repeat' (first | omega | exact True.intro | exact absurd True.intro ‹¬ True› | apply And.intro | intro _)) <;> rfl)
theorem highZ_bd {f : Int} (hI : PicOK P) (hf : 0 ≤ f ∧ f < 64) : 0 ≤ highZ P.toGla f ∧ highZ P.toGla f ≤ 1188 := by
  have hl := hI.gla.lay f hf.1 hf.2
  unfold highZ
  have := sumZ_bd' (g := fun k => P.toGla.thk (12 * f + k)) (n := P.toGla.lay f) (B := 12) (c := 99) (fun k k1 k2 => hI.gla.thk _ (by omega) (by omega)) hl.1 hl.2 (by decide)
  omega
noncomputable def stateN (G : Geo) (A : Gla) (s : Int) : Int := sumZ (G.w * G.h) (fun f => sumZ (A.lay f) (fun k => bZ (A.sta (12 * f + k) = s)))
theorem sp26 {s : Int} (hI : PicOK P) (hg : GridOK P.toGeo N) (hC : GlassOK P.toGla N) (hsR : R s) : Rn 26 [.ref 44, .int (J s)] (hs E (jm N)) (some (.int (J (stateN P.toGeo P.toGla s)))) (hs E (jm N)) := by
  have hb := fld_bd hI.geo
  unfold stateN
  refine c26 (v26_0 ?_)
  refine loopZ (a := 0) (n := P.toGeo.w * P.toGeo.h) (Q := fun f => Ev 2 26 4 [some (.ref 44), some (.int (J s)), some (.int (J (sumZ f (fun f => sumZ (P.toGla.lay f) (fun k => bZ (P.toGla.sta (12 * f + k) = s)))))), some (.int (J f)), none] [] (hs E (jm N)) (_, _)) (by omega) ?_ ?_
  · refine v26_4 ?_
    rw [cF hg]
    ((repeat' (first | omega | exact True.intro | exact absurd True.intro ‹¬ True› | apply And.intro | intro _)) <;> rfl)
  · intro f h1 h2 ih
    have hl := hI.gla.lay f h1 (by omega)
    refine v26_4 ?_
    rw [cF hg]
    rw [sumZ_succ h1] at ih
    (repeat' (first | omega | exact True.intro | exact absurd True.intro ‹¬ True› | apply And.intro | intro _))
    have h0 := loopZ (a := 0) (n := P.toGla.lay f) (Q := fun k => Ev 2 26 18 [some (.ref 44), some (.int (J s)), some (.int (J (sumZ f (fun f => sumZ (P.toGla.lay f) (fun k => bZ (P.toGla.sta (12 * f + k) = s))) + sumZ k (fun k => bZ (P.toGla.sta (12 * f + k) = s))))), some (.int (J f)), some (.int (J k))] [] (hs E (jm N)) (some (.int (J (sumZ (P.toGeo.w * P.toGeo.h) (fun f => sumZ (P.toGla.lay f) (fun k => bZ (P.toGla.sta (12 * f + k) = s)))))), (hs E (jm N)))) hl.1 ?_ ?_
    · rw [sumZ_0, Int.add_zero] at h0
      exact h0
    · refine v26_18 ?_
      rw [hC.lay f h1 (by omega)]
      (repeat' (first | omega | exact True.intro | exact absurd True.intro ‹¬ True› | apply And.intro | intro _))
      all_goals exact ih
    · intro k k1 k2 ih2
      have hst := hI.gla.sta (12 * f + k) (by omega) (by omega)
      refine v26_18 ?_
      rw [hC.lay f h1 (by omega), hC.sta _ (by omega) (by omega), G206_0, G206_1]
      rw [sumZ_succ k1, ← Int.add_assoc] at ih2
      (repeat' (first | omega | exact True.intro | exact absurd True.intro ‹¬ True› | apply And.intro | intro _))
      · rw [bZ_t ‹P.toGla.sta (12 * f + k) = s›] at ih2
        exact ih2
      · rw [bZ_f ‹¬ P.toGla.sta (12 * f + k) = s›] at ih2
        exact ih2
theorem op_state' {x1 : Int} (hI : GInv P N) (h1 : R x1) (hx : ¬ x1 = 4) : Both E N 186 278 [.int (J x1)] := by
  have hb := fld_bd hI.ok.geo
  by_cases a : x1 = 0 ∨ x1 = 1 ∨ x1 = 2
  · refine both_same (r := .int (J (stateN P.toGeo P.toGla x1))) hI (c186 (v186_0 ?_)) (c278 (v278_0 ?_))
    · have hr := sp26 (E := E) (N := N) (s := x1) hI.ok hI.cls.grid hI.cls.glass h1
      rcases a with a | a | a <;> subst a <;> (repeat' (first | omega | exact True.intro | exact absurd True.intro ‹¬ True› | apply And.intro | intro _)) <;> exact ⟨_, hr, rfl⟩
    · have key : Ev 5 278 42 [some (.ref 59), some (.int (J x1)), some (.int (J 0)), some (.int (J 0)), none] [] (hs E (jm N)) (some (.int (J (stateN P.toGeo P.toGla x1))), (hs E (jm N))) := by
        unfold stateN
        refine loopZ (a := 0) (n := P.toGeo.w * P.toGeo.h) (Q := fun f => Ev 5 278 42 [some (.ref 59), some (.int (J x1)), some (.int (J (sumZ f (fun f => sumZ (P.toGla.lay f) (fun k => bZ (P.toGla.sta (12 * f + k) = x1)))))), some (.int (J f)), none] [] (hs E (jm N)) (_, _)) (by omega) ?_ ?_
        · refine v278_42 ?_
          rw [rF hI.ref]
          ((repeat' (first | omega | exact True.intro | exact absurd True.intro ‹¬ True› | apply And.intro | intro _)) <;> rfl)
        · intro f h1 h2 ih
          have hl := hI.ok.gla.lay f h1 (by omega)
          refine v278_42 ?_
          rw [rF hI.ref]
          rw [sumZ_succ h1] at ih
          (repeat' (first | omega | exact True.intro | exact absurd True.intro ‹¬ True› | apply And.intro | intro _))
          have h0 := loopZ (a := 0) (n := P.toGla.lay f) (Q := fun k => Ev 5 278 53 [some (.ref 59), some (.int (J x1)), some (.int (J (sumZ f (fun f => sumZ (P.toGla.lay f) (fun k => bZ (P.toGla.sta (12 * f + k) = x1))) + sumZ k (fun k => bZ (P.toGla.sta (12 * f + k) = x1))))), some (.int (J f)), some (.int (J k))] [] (hs E (jm N)) (some (.int (J (sumZ (P.toGeo.w * P.toGeo.h) (fun f => sumZ (P.toGla.lay f) (fun k => bZ (P.toGla.sta (12 * f + k) = x1)))))), (hs E (jm N)))) hl.1 ?_ ?_
          · rw [sumZ_0, Int.add_zero] at h0
            exact h0
          · refine v278_53 ?_
            rw [hI.ref.lay]
            (repeat' (first | omega | exact True.intro | exact absurd True.intro ‹¬ True› | apply And.intro | intro _))
            all_goals exact ih
          · intro k k1 k2 ih2
            have hst := hI.ok.gla.sta (12 * f + k) (by omega) (by omega)
            refine v278_53 ?_
            rw [hI.ref.lay, hI.ref.sta]
            rw [sumZ_succ k1, ← Int.add_assoc] at ih2
            (repeat' (first | omega | exact True.intro | exact absurd True.intro ‹¬ True› | apply And.intro | intro _))
            · rw [bZ_t ‹P.toGla.sta (12 * f + k) = x1›] at ih2
              exact ih2
            · rw [bZ_f ‹¬ P.toGla.sta (12 * f + k) = x1›] at ih2
              exact ih2
      rcases a with a | a | a <;> subst a <;> (repeat' (first | omega | exact True.intro | exact absurd True.intro ‹¬ True› | apply And.intro | intro _)) <;> exact key
  by_cases a3 : x1 = 3
  · refine both_same (r := .int (J (sumZ (P.toGeo.w * P.toGeo.h) (fun f => bZ (P.toPal.wall ≤ highZ P.toGla f))))) hI (c186 (v186_0 ?_)) (c278 (v278_0 ?_))
    · (repeat' (first | omega | exact True.intro | exact absurd True.intro ‹¬ True› | apply And.intro | intro _))
      refine ⟨_, c27 (v27_0 ?_), rfl⟩
      refine loopZ (a := 0) (n := P.toGeo.w * P.toGeo.h) (Q := fun f => Ev 2 27 4 [some (.ref 44), some (.int (J (sumZ f (fun f => bZ (P.toPal.wall ≤ highZ P.toGla f))))), some (.int (J f))] [] (hs E (jm N)) (_, _)) (by omega) ?_ ?_
      · refine v27_4 ?_
        rw [cF hI.cls.grid]
        ((repeat' (first | omega | exact True.intro | exact absurd True.intro ‹¬ True› | apply And.intro | intro _)) <;> rfl)
      · intro f h1 h2 ih
        have hw := hI.ok.pal.wall
        have hh := highZ_bd hI.ok (f := f) (by omega)
        refine v27_4 ?_
        rw [cF hI.cls.grid, show G103 N = P.toPal.wall from hI.cls.pal.wall, G206_0, G206_1]
        rw [sumZ_succ h1] at ih
        (repeat' (first | omega | exact True.intro | exact absurd True.intro ‹¬ True› | apply And.intro | intro _))
        refine ⟨_, sp13 hI.ok hI.cls.glass (by omega), ?_⟩
        (repeat' (first | omega | exact True.intro | exact absurd True.intro ‹¬ True› | apply And.intro | intro _))
        · rw [bZ_f (by omega)] at ih
          exact ih
        · rw [bZ_t (by omega)] at ih
          exact ih
    · (repeat' (first | omega | exact True.intro | exact absurd True.intro ‹¬ True› | apply And.intro | intro _))
      refine loopZ (a := 0) (n := P.toGeo.w * P.toGeo.h) (Q := fun f => Ev 5 278 104 [some (.ref 59), none, some (.int (J (sumZ f (fun f => bZ (P.toPal.wall ≤ highZ P.toGla f))))), some (.int (J f)), none] [] (hs E (jm N)) (_, _)) (by omega) ?_ ?_
      · refine v278_104 ?_
        rw [rF hI.ref]
        ((repeat' (first | omega | exact True.intro | exact absurd True.intro ‹¬ True› | apply And.intro | intro _)) <;> rfl)
      · intro f h1 h2 ih
        have hw := hI.ok.pal.wall
        have hh := highZ_bd hI.ok (f := f) (by omega)
        refine v278_104 ?_
        rw [rF hI.ref, hI.ref.wall]
        rw [sumZ_succ h1] at ih
        (repeat' (first | omega | exact True.intro | exact absurd True.intro ‹¬ True› | apply And.intro | intro _))
        refine ⟨_, sp267 hI.ok hI.ref (by omega), ?_⟩
        (repeat' (first | omega | exact True.intro | exact absurd True.intro ‹¬ True› | apply And.intro | intro _))
        · rw [bZ_f (by omega)] at ih
          exact ih
        · rw [bZ_t (by omega)] at ih
          exact ih
  by_cases a5 : x1 = 5
  · refine both_same (r := .int (J P.toGla.fires)) hI (c186 (v186_0 ?_)) (c278 (v278_0 ?_))
    · rw [show G10 N = P.toGla.fires from hI.cls.glass.fires]; ((repeat' (first | omega | exact True.intro | exact absurd True.intro ‹¬ True› | apply And.intro | intro _)) <;> rfl)
    · rw [hI.ref.fires]; ((repeat' (first | omega | exact True.intro | exact absurd True.intro ‹¬ True› | apply And.intro | intro _)) <;> rfl)
  · refine both_same (r := .int (J (-102))) hI (c186 (v186_0 ?_)) (c278 (v278_0 ?_)) <;> ((repeat' (first | omega | exact True.intro | exact absurd True.intro ‹¬ True› | apply And.intro | intro _)) <;> rfl)
def pullZ (G : Geo) (B : Pal) (A : Gla) : Int := sumZ (G.w * G.h) (fun f => sumZ (A.lay f) (fun k => if A.sta (12 * f + k) = 0 then 0 else A.thk (12 * f + k) * B.pul (A.col (12 * f + k))))
end GL2
