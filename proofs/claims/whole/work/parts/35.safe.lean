/-! harms, safe -/
section SAF
variable {E : gw_N} {N : NM} {P : Pic} {G : Geo}
def harZ (P : Pic) (c t : Int) : Prop := ∃ f, 0 ≤ f ∧ f < P.toGeo.w * P.toGeo.h ∧ (cellZ P.toGeo f = c ∧ finZ P.toGla f ∧ bhZ P f < t)
theorem har_bea (hI : PicOK P) {c t : Int} (ht : t ≤ 999) : beaZ P c < t ↔ harZ P c t := by
  have hb := fld_bd hI.geo
  unfold beaZ harZ
  rw [minZ_lt (by omega) ht]
  constructor
  · rintro ⟨f, f1, f2, f3⟩
    unfold hBZ at f3
    by_cases q : cellZ P.toGeo f = c ∧ finZ P.toGla f
    · rw [if_pos q] at f3
      exact ⟨f, f1, f2, q.1, q.2, f3⟩
    · rw [if_neg q] at f3
      omega
  · rintro ⟨f, f1, f2, f3, f4, f5⟩
    refine ⟨f, f1, f2, ?_⟩
    unfold hBZ
    rw [if_pos ⟨f3, f4⟩]
    exact f5
theorem bea_bd (hI : PicOK P) {c : Int} : 0 ≤ beaZ P c ∧ beaZ P c ≤ 999 := by
  have hb := fld_bd hI.geo
  exact ⟨minZ_bd (by omega) (fun k k1 k2 => (hB_bd hI ⟨k1, by omega⟩).1), minZ_le (by omega)⟩
noncomputable def harN (P : Pic) (c t k : Int) : Int := sumZ k (fun f => bZ (cellZ P.toGeo f = f ∧ ¬ f = c ∧ beaZ P f < t))
theorem harN_bd {c t k : Int} (hk : 0 ≤ k ∧ k ≤ 64) : 0 ≤ harN P c t k ∧ harN P c t k ≤ 64 := by
  have := sumZ_bd' (g := fun f => bZ (cellZ P.toGeo f = f ∧ ¬ f = c ∧ beaZ P f < t)) (n := k) (B := 64) (c := 1) (fun _ _ _ => bZ_bd) hk.1 hk.2 (by decide)
  exact ⟨this.1, by unfold harN; omega⟩
theorem sp31 {c t : Int} (hI : PicOK P) (hC : ClsOK P N) (hc : R c) (ht : R t) : Rn 31 [.ref 44, .int (J c), .int (J t)] (hs E (jm N)) (some (.int (J (harN P c t (P.toGeo.w * P.toGeo.h))))) (hs E (jm N)) := by
  have hb := fld_bd hI.geo
  unfold harN
  refine c31 (v31_0 ?_)
  refine loopZ (a := 0) (n := P.toGeo.w * P.toGeo.h) (Q := fun f => Ev 4 31 5 [some (.ref 44), some (.int (J c)), some (.int (J t)), some (.int (J (sumZ f (fun f => bZ (cellZ P.toGeo f = f ∧ ¬ f = c ∧ beaZ P f < t))))), some (.int (J f))] [] (hs E (jm N)) (_, _)) (by omega) ?_ ?_
  · refine v31_5 ?_
    rw [cF hC.grid]
    ((repeat' (first | omega | exact True.intro | exact absurd True.intro ‹¬ True› | apply And.intro | intro _)) <;> rfl)
  · intro f f1 f2 ih
    have hF : isF P.toGeo f := ⟨f1, f2⟩
    have hbd := bea_bd hI (c := f)
    have ⟨g1, g2⟩ := cHas hI.geo hC.cells (c := f) (by omega)
    refine v31_5 ?_
    rw [cF hC.grid, g1, G206_0, G206_1]
    rw [sumZ_succ f1] at ih
    by_cases q : isC P.toGeo f
    · rw [bZ_t q]
      by_cases q2 : f = c
      · rw [bZ_f (fun z => z.2.1 q2), Int.add_zero] at ih
        (repeat' (first | omega | exact True.intro | exact absurd True.intro ‹¬ True› | apply And.intro | intro _))
        all_goals exact ih
      · (repeat' (first | omega | exact True.intro | exact absurd True.intro ‹¬ True› | apply And.intro | intro _))
        refine ⟨_, sp33 hI hC (by omega), ?_⟩
        (repeat' (first | omega | exact True.intro | exact absurd True.intro ‹¬ True› | apply And.intro | intro _))
        · rw [bZ_f (fun z => absurd z.2.2 (by omega))] at ih
          exact ih
        · rw [bZ_t ⟨q.2, q2, by omega⟩] at ih
          exact ih
    · rw [bZ_f q]
      rw [bZ_f (fun z => q ⟨hF, z.1⟩), Int.add_zero] at ih
      (repeat' (first | omega | exact True.intro | exact absurd True.intro ‹¬ True› | apply And.intro | intro _))
      all_goals exact ih
theorem sp297 {c t : Int} (hI : PicOK P) (hR : RefOK P N) (hc : R c) (ht : R t) (hN : ∀ f, isF P.toGeo f → N 69 f = cellZ P.toGeo f) : Rn 297 [.ref 59, .int (J c), .int (J t)] (hs E (jm N)) (some (.int (J (bZ (harZ P c t))))) (hs E (jm N)) := by
  have hb := fld_bd hI.geo
  unfold harZ
  refine c297 (v297_0 ?_)
  have h0 := loopZ (a := 0) (n := P.toGeo.w * P.toGeo.h) (Q := fun k => Ev 2 297 5 [some (.ref 59), some (.int (J c)), some (.int (J t)), some (.int (J (bZ (∃ f, 0 ≤ f ∧ f < k ∧ (cellZ P.toGeo f = c ∧ finZ P.toGla f ∧ bhZ P f < t))))), some (.int (J k))] [] (hs E (jm N)) (some (.int (J (bZ (∃ f, 0 ≤ f ∧ f < P.toGeo.w * P.toGeo.h ∧ (cellZ P.toGeo f = c ∧ finZ P.toGla f ∧ bhZ P f < t))))), (hs E (jm N)))) (by omega) ?_ ?_
  · rw [bZ_f exZ_0] at h0
    exact h0
  · have h01 := bZ_01 (p := ∃ f, 0 ≤ f ∧ f < P.toGeo.w * P.toGeo.h ∧ (cellZ P.toGeo f = c ∧ finZ P.toGla f ∧ bhZ P f < t))
    refine v297_5 ?_
    rw [rF hR]
    ((repeat' (first | omega | exact True.intro | exact absurd True.intro ‹¬ True› | apply And.intro | intro _)) <;> rfl)
  · intro k k1 k2 ih
    have hF : isF P.toGeo k := ⟨k1, k2⟩
    have h9 := cell_R hI.geo hF
    have hl := hI.gla.lay k k1 (by omega)
    refine v297_5 ?_
    have et : G276 N k = topZ P.toGla k := by unfold G276 topZ; rw [hR.lay]
    rw [rF hR, et, hR.lay, hR.sta, hR.col, hR.heat, hN k hF]
    have eh : P.toPal.heat (P.toGla.col (topZ P.toGla k)) + 50 = bhZ P k := rfl
    rw [eh]
    rw [show (∃ f, 0 ≤ f ∧ f < k + 1 ∧ (cellZ P.toGeo f = c ∧ finZ P.toGla f ∧ bhZ P f < t)) = ((∃ f, 0 ≤ f ∧ f < k ∧ (cellZ P.toGeo f = c ∧ finZ P.toGla f ∧ bhZ P f < t)) ∨ (cellZ P.toGeo k = c ∧ finZ P.toGla k ∧ bhZ P k < t)) from propext (exZ_succ k1)] at ih
    by_cases hx : ∃ f, 0 ≤ f ∧ f < k ∧ (cellZ P.toGeo f = c ∧ finZ P.toGla f ∧ bhZ P f < t)
    · rw [bZ_t hx]
      rw [bZ_t (Or.inl hx)] at ih
      (repeat' (first | omega | exact True.intro | exact absurd True.intro ‹¬ True› | apply And.intro | intro _))
      all_goals exact ih
    · rw [bZ_f hx]
      have sk : ¬ (cellZ P.toGeo k = c ∧ finZ P.toGla k ∧ bhZ P k < t) → Ev 2 297 5 [some (.ref 59), some (.int (J c)), some (.int (J t)), some (.int (J 0)), some (.int (J (k + 1)))] [] (hs E (jm N)) (some (.int (J (bZ (∃ f, 0 ≤ f ∧ f < P.toGeo.w * P.toGeo.h ∧ (cellZ P.toGeo f = c ∧ finZ P.toGla f ∧ bhZ P f < t))))), (hs E (jm N))) := by
        intro q
        rw [bZ_f (fun z => z.elim hx q)] at ih
        exact ih
      by_cases hl0 : P.toGla.lay k ≤ 0
      · have s1 := sk (fun q => absurd q.2.1.1 (by omega))
        (repeat' (first | omega | exact True.intro | exact absurd True.intro ‹¬ True› | apply And.intro | intro _))
        all_goals exact s1
      · have htp := top_bd hI ⟨k1, by omega⟩ (show 0 < P.toGla.lay k by omega)
        have hbh := bh_bd hI ⟨k1, by omega⟩ (show 0 < P.toGla.lay k by omega)
        have hco := hI.gla.col _ htp.1 htp.2
        have hst := hI.gla.sta _ htp.1 htp.2
        (repeat' (first | omega | exact True.intro | exact absurd True.intro ‹¬ True› | apply And.intro | intro _))
        · exact sk (fun q => absurd q.2.2 (by omega))
        · rw [bZ_t (Or.inr ⟨‹_›, ⟨by omega, ‹_›⟩, by omega⟩)] at ih
          exact ih
        · exact sk (fun q => absurd q.2.1.2 ‹_›)
        · exact sk (fun q => absurd q.1 ‹_›)
theorem sp298 {c t : Int} (hI : PicOK P) (hR : RefOK P N) (hc : R c) (ht : R t) (ht9 : t ≤ 999) (hN : ∀ f, isF P.toGeo f → N 69 f = cellZ P.toGeo f) : Rn 298 [.ref 59, .int (J c), .int (J t)] (hs E (jm N)) (some (.int (J (harN P c t (P.toGeo.w * P.toGeo.h))))) (hs E (jm N)) := by
  have hb := fld_bd hI.geo
  unfold harN
  refine c298 (v298_0 ?_)
  refine loopZ (a := 0) (n := P.toGeo.w * P.toGeo.h) (Q := fun f => Ev 3 298 5 [some (.ref 59), some (.int (J c)), some (.int (J t)), some (.int (J (sumZ f (fun f => bZ (cellZ P.toGeo f = f ∧ ¬ f = c ∧ beaZ P f < t))))), some (.int (J f))] [] (hs E (jm N)) (_, _)) (by omega) ?_ ?_
  · refine v298_5 ?_
    rw [rF hR]
    ((repeat' (first | omega | exact True.intro | exact absurd True.intro ‹¬ True› | apply And.intro | intro _)) <;> rfl)
  · intro f f1 f2 ih
    have hF : isF P.toGeo f := ⟨f1, f2⟩
    have h9 := cell_R hI.geo hF
    refine v298_5 ?_
    rw [rF hR, hN f hF]
    rw [sumZ_succ f1] at ih
    by_cases q : cellZ P.toGeo f = f
    · by_cases q2 : f = c
      · rw [bZ_f (fun z => z.2.1 q2)] at ih
        (repeat' (first | omega | exact True.intro | exact absurd True.intro ‹¬ True› | apply And.intro | intro _))
        all_goals exact ih
      · have h01 := bZ_01 (p := harZ P f t)
        (repeat' (first | omega | exact True.intro | exact absurd True.intro ‹¬ True› | apply And.intro | intro _))
        refine ⟨_, sp297 hI hR (by omega) ht hN, ?_⟩
        (repeat' (first | omega | exact True.intro | exact absurd True.intro ‹¬ True› | apply And.intro | intro _))
        · rw [bZ_f (fun z => absurd ((har_bea hI ht9).mp z.2.2) (bZ_0.mp ‹_›))] at ih
          exact ih
        · rw [bZ_t ⟨q, q2, (har_bea hI ht9).mpr (bZ_1.mp (by omega))⟩] at ih
          exact ih
    · rw [bZ_f (fun z => q z.1)] at ih
      (repeat' (first | omega | exact True.intro | exact absurd True.intro ‹¬ True› | apply And.intro | intro _))
      all_goals exact ih
theorem op_harms {x1 x2 : Int} (hI : GInv P N) (h1 : R x1) (h2 : R x2) : Both E N 197 299 [.int (J x1), .int (J x2)] := by
  have ⟨g1, g2⟩ := cHas hI.ok.geo hI.cls.cells h1
  have hb := fld_bd hI.ok.geo
  by_cases hc : isC P.toGeo x1
  · by_cases ht : 1 ≤ x2 ∧ x2 ≤ 999
    · refine both_q (r := .int (J (harN P x1 x2 (P.toGeo.w * P.toGeo.h)))) hI (QC.same (c197 (v197_0 ?_))) (fun N hR => ⟨rfN P N, c299 (v299_0 ⟨_, _, sp248 hI.ok hR h1, ?_⟩), rfN_ok hR, rfN_cls⟩)
      · simp only [G204]
        rw [g1, bZ_t hc]
        (repeat' (first | omega | exact True.intro | exact absurd True.intro ‹¬ True› | apply And.intro | intro _))
        exact ⟨_, sp31 hI.ok hI.cls h1 h2, rfl⟩
      · rw [bZ_t hc]
        (repeat' (first | omega | exact True.intro | exact absurd True.intro ‹¬ True› | apply And.intro | intro _))
        exact ⟨_, sp298 hI.ok (rfN_ok hR) h1 h2 ht.2 (fun f hf => rfN_69 hf), rfl⟩
    · refine both_q (r := .int (J (-102))) hI (QC.same (c197 (v197_0 ?_))) (fun N hR => ⟨rfN P N, c299 (v299_0 ⟨_, _, sp248 hI.ok hR h1, ?_⟩), rfN_ok hR, rfN_cls⟩)
      · simp only [G204]
        rw [g1, bZ_t hc]
        ((repeat' (first | omega | exact True.intro | exact absurd True.intro ‹¬ True› | apply And.intro | intro _)) <;> rfl)
      · rw [bZ_t hc]
        ((repeat' (first | omega | exact True.intro | exact absurd True.intro ‹¬ True› | apply And.intro | intro _)) <;> rfl)
  · refine both_q (r := .int (J (-101))) hI (QC.same (c197 (v197_0 ?_))) (fun N hR => ⟨rfN P N, c299 (v299_0 ⟨_, _, sp248 hI.ok hR h1, ?_⟩), rfN_ok hR, rfN_cls⟩)
    · rw [g1, bZ_f hc]
      ((repeat' (first | omega | exact True.intro | exact absurd True.intro ‹¬ True› | apply And.intro | intro _)) <;> rfl)
    · rw [bZ_f hc]
      ((repeat' (first | omega | exact True.intro | exact absurd True.intro ‹¬ True› | apply And.intro | intro _)) <;> rfl)
noncomputable def hLZ (P : Pic) (c f : Int) : Int := @ite Int (isC P.toGeo f ∧ ¬ f = c) (Classical.propDecidable _) (beaZ P f) 999
noncomputable def harL (P : Pic) (c : Int) : Int := minZ (P.toGeo.w * P.toGeo.h) (hLZ P c)
theorem hL_bd (hI : PicOK P) {c f : Int} : 0 ≤ hLZ P c f ∧ hLZ P c f ≤ 999 := by
  unfold hLZ
  by_cases q : isC P.toGeo f ∧ ¬ f = c
  · rw [if_pos q]; exact bea_bd hI
  · rw [if_neg q]; omega
theorem sp32 {c : Int} (hI : PicOK P) (hC : ClsOK P N) (hc : R c) : Rn 32 [.ref 44, .int (J c)] (hs E (jm N)) (some (.int (J (harL P c)))) (hs E (jm N)) := by
  have hb := fld_bd hI.geo
  unfold harL
  refine c32 (v32_0 ?_)
  refine loopZ (a := 0) (n := P.toGeo.w * P.toGeo.h) (Q := fun f => Ev 4 32 6 [some (.ref 44), some (.int (J c)), some (.int (J (minZ f (hLZ P c)))), some (.int (J f))] [] (hs E (jm N)) (_, _)) (by omega) ?_ ?_
  · refine v32_6 ?_
    rw [cF hC.grid]
    ((repeat' (first | omega | exact True.intro | exact absurd True.intro ‹¬ True› | apply And.intro | intro _)) <;> rfl)
  · intro f f1 f2 ih
    have hF : isF P.toGeo f := ⟨f1, f2⟩
    have hbd := bea_bd hI (c := f)
    have ⟨g1, g2⟩ := cHas hI.geo hC.cells (c := f) (by omega)
    have hmn := minZ_le (h := hLZ P c) f1
    have hmb := minZ_bd (h := hLZ P c) f1 (fun k k1 k2 => (hL_bd hI).1)
    refine v32_6 ?_
    rw [cF hC.grid, g1]
    have skip : ¬ (isC P.toGeo f ∧ ¬ f = c) → Ev 4 32 6 [some (.ref 44), some (.int (J c)), some (.int (J (minZ f (hLZ P c)))), some (.int (J (f + 1)))] [] (hs E (jm N)) (some (.int (J (minZ (P.toGeo.w * P.toGeo.h) (hLZ P c)))), (hs E (jm N))) := by
      intro q
      have e : 999 ≤ hLZ P c f := by
        unfold hLZ
        rw [if_neg q]
        decide
      rw [minZ_same f1 e] at ih
      exact ih
    by_cases q : isC P.toGeo f
    · rw [bZ_t q]
      by_cases q2 : f = c
      · have hs1 := skip (fun z => z.2 q2)
        (repeat' (first | omega | exact True.intro | exact absurd True.intro ‹¬ True› | apply And.intro | intro _))
        all_goals exact hs1
      · rw [minZ_succ f1, show hLZ P c f = beaZ P f from if_pos ⟨q, q2⟩] at ih
        (repeat' (first | omega | exact True.intro | exact absurd True.intro ‹¬ True› | apply And.intro | intro _))
        refine ⟨_, sp33 hI hC (by omega), ?_⟩
        unfold Q312 G312
        (repeat' (first | omega | exact True.intro | exact absurd True.intro ‹¬ True› | apply And.intro | intro _))
        all_goals exact ih
    · rw [bZ_f q]
      have hs1 := skip (fun z => q z.1)
      (repeat' (first | omega | exact True.intro | exact absurd True.intro ‹¬ True› | apply And.intro | intro _))
      all_goals exact hs1
theorem harL_bd (hI : PicOK P) {c : Int} : 0 ≤ harL P c ∧ harL P c ≤ 999 := by
  have hb := fld_bd hI.geo
  exact ⟨minZ_bd (by omega) (fun k k1 k2 => (hL_bd hI).1), minZ_le (by omega)⟩
theorem harN_0 (hI : PicOK P) {c t : Int} (ht : t ≤ 999) : harN P c t (P.toGeo.w * P.toGeo.h) = 0 ↔ t ≤ harL P c := by
  have hb := fld_bd hI.geo
  have h1 := minZ_lt (h := hLZ P c) (n := P.toGeo.w * P.toGeo.h) (by omega) ht
  constructor
  · intro h
    apply Classical.byContradiction
    intro q
    obtain ⟨f, f1, f2, f3⟩ := h1.mp (by unfold harL at q; omega)
    unfold hLZ at f3
    by_cases z : isC P.toGeo f ∧ ¬ f = c
    · rw [if_pos z] at f3
      have h2 := sumZ_upd (c := fun f => bZ (cellZ P.toGeo f = f ∧ ¬ f = c ∧ beaZ P f < t)) (i := f) (v := 0) (n := P.toGeo.w * P.toGeo.h) ⟨f1, f2⟩
      have h3 := (sumZ_bd' (g := updZ (fun f => bZ (cellZ P.toGeo f = f ∧ ¬ f = c ∧ beaZ P f < t)) f 0) (n := P.toGeo.w * P.toGeo.h) (B := 64) (c := 1) (fun k _ _ => by unfold updZ; split; (· omega); (· exact bZ_bd)) (by omega) hb.2 (by decide)).1
      unfold harN at h
      rw [h2, h] at h3
      replace h3 : 0 ≤ 0 + (0 - bZ (cellZ P.toGeo f = f ∧ ¬ f = c ∧ beaZ P f < t)) := h3
      rw [bZ_t ⟨z.1.2, z.2, f3⟩] at h3
      omega
    · rw [if_neg z] at f3
      omega
  · intro h
    refine sumZ_zero (fun f f1 f2 => bZ_f (fun z => ?_))
    have := h1.mpr ⟨f, f1, f2, by unfold hLZ; rw [if_pos ⟨⟨⟨f1, f2⟩, z.1⟩, z.2.1⟩]; exact z.2.2⟩
    unfold harL at h
    omega
theorem op_safe {x1 x2 x3 : Int} (hI : GInv P N) (h1 : R x1) (h2 : R x2) (h3 : R x3) : Both E N 198 300 [.int (J x1), .int (J x2), .int (J x3)] := by
  have ⟨g1, g2⟩ := cHas hI.ok.geo hI.cls.cells h1
  have hb := fld_bd hI.ok.geo
  by_cases hc : isC P.toGeo x1
  · by_cases ha : 0 ≤ x2 ∧ x2 < 8
    · by_cases hsd : x3 = 0 ∨ x3 = 1
      · have hh := hI.ok.pal.heat x2 ha.1 ha.2
        have hL := harL_bd hI.ok (c := x1)
        have e99 : G99 N x2 = P.toPal.heat x2 := by
          unfold G99
          rw [Int.add_zero]
          exact hI.cls.pal.heat x2 ha.1 ha.2
        refine both_q (r := .int (J (if P.toPal.heat x2 ≤ harL P x1 then (if x3 = 0 then P.toPal.heat x2 else harL P x1) else -1))) hI (QC.same (c198 (v198_0 ?_))) (fun N hR => ⟨rfN P N, c300 (v300_0 ⟨_, _, sp248 hI.ok hR h1, ?_⟩), rfN_ok hR, rfN_cls⟩)
        · simp only [G94]
          rw [g1, bZ_t hc, e99]
          unfold Q99
          (repeat' (first | omega | exact True.intro | exact absurd True.intro ‹¬ True› | apply And.intro | intro _))
          · refine ⟨_, sp32 hI.ok hI.cls h1, ?_⟩
            (repeat' (first | omega | exact True.intro | exact absurd True.intro ‹¬ True› | apply And.intro | intro _))
            · rw [if_pos ‹_›, if_pos ‹_›]
            · rw [if_neg ‹_›]
          · refine ⟨_, sp32 hI.ok hI.cls h1, ?_⟩
            (repeat' (first | omega | exact True.intro | exact absurd True.intro ‹¬ True› | apply And.intro | intro _))
            · rw [if_pos ‹_›, if_neg ‹_›]
            · rw [if_neg ‹_›]
        · simp only [G261]
          rw [bZ_t hc, (rfN_ok hR).heat]
          (repeat' (first | omega | exact True.intro | exact absurd True.intro ‹¬ True› | apply And.intro | intro _))
          refine ⟨_, sp298 hI.ok (rfN_ok hR) h1 (by omega) (by omega) (fun f hf => rfN_69 hf), ?_⟩
          have hN := harN_bd (P := P) (c := x1) (t := P.toPal.heat x2) (k := P.toGeo.w * P.toGeo.h) (by omega)
          have hz := harN_0 hI.ok (c := x1) (t := P.toPal.heat x2) (by omega)
          (repeat' (first | omega | exact True.intro | exact absurd True.intro ‹¬ True› | apply And.intro | intro _))
          · have hle : P.toPal.heat x2 ≤ harL P x1 := hz.mp (by omega)
            rw [if_pos hle]
            by_cases z : x3 = 0
            · rw [if_pos z]
              refine v300_51 ?_
              ((repeat' (first | omega | exact True.intro | exact absurd True.intro ‹¬ True› | apply And.intro | intro _)) <;> rfl)
            · rw [if_neg z]
              refine loopZ (a := P.toPal.heat x2) (n := harL P x1) (Q := fun t => Ev 5 300 51 [some (.ref 59), some (.int (J x1)), none, some (.int (J x3)), some (.int (J t))] [] (hs E (jm (rfN P N))) (_, _)) hle ?_ ?_
              · refine v300_51 ?_
                (repeat' (first | omega | exact True.intro | exact absurd True.intro ‹¬ True› | apply And.intro | intro _))
                · rfl
                · have hN2 := harN_bd (P := P) (c := x1) (t := harL P x1 + 1) (k := P.toGeo.w * P.toGeo.h) (by omega)
                  have hz2 := harN_0 hI.ok (c := x1) (t := harL P x1 + 1) (by omega)
                  refine ⟨_, sp298 hI.ok (rfN_ok hR) h1 (by omega) (by omega) (fun f hf => rfN_69 hf), ?_⟩
                  ((repeat' (first | omega | exact True.intro | exact absurd True.intro ‹¬ True› | apply And.intro | intro _)) <;> rfl)
              · intro t t1 t2 ih
                have hN2 := harN_bd (P := P) (c := x1) (t := t + 1) (k := P.toGeo.w * P.toGeo.h) (by omega)
                have hz2 := harN_0 hI.ok (c := x1) (t := t + 1) (by omega)
                refine v300_51 ?_
                (repeat' (first | omega | exact True.intro | exact absurd True.intro ‹¬ True› | apply And.intro | intro _))
                refine ⟨_, sp298 hI.ok (rfN_ok hR) h1 (by omega) (by omega) (fun f hf => rfN_69 hf), ?_⟩
                (repeat' (first | omega | exact True.intro | exact absurd True.intro ‹¬ True› | apply And.intro | intro _))
                all_goals exact ih
          · rw [if_neg (by omega)]
      · refine both_q (r := .int (J (-102))) hI (QC.same (c198 (v198_0 ?_))) (fun N hR => ⟨rfN P N, c300 (v300_0 ⟨_, _, sp248 hI.ok hR h1, ?_⟩), rfN_ok hR, rfN_cls⟩)
        · simp only [G94]
          rw [g1, bZ_t hc]
          ((repeat' (first | omega | exact True.intro | exact absurd True.intro ‹¬ True› | apply And.intro | intro _)) <;> rfl)
        · simp only [G261]
          rw [bZ_t hc]
          ((repeat' (first | omega | exact True.intro | exact absurd True.intro ‹¬ True› | apply And.intro | intro _)) <;> rfl)
    · refine both_q (r := .int (J (-101))) hI (QC.same (c198 (v198_0 ?_))) (fun N hR => ⟨rfN P N, c300 (v300_0 ⟨_, _, sp248 hI.ok hR h1, ?_⟩), rfN_ok hR, rfN_cls⟩)
      · simp only [G94]
        rw [g1, bZ_t hc]
        ((repeat' (first | omega | exact True.intro | exact absurd True.intro ‹¬ True› | apply And.intro | intro _)) <;> rfl)
      · simp only [G261]
        rw [bZ_t hc]
        ((repeat' (first | omega | exact True.intro | exact absurd True.intro ‹¬ True› | apply And.intro | intro _)) <;> rfl)
  · refine both_q (r := .int (J (-101))) hI (QC.same (c198 (v198_0 ?_))) (fun N hR => ⟨rfN P N, c300 (v300_0 ⟨_, _, sp248 hI.ok hR h1, ?_⟩), rfN_ok hR, rfN_cls⟩)
    · rw [g1, bZ_f hc]
      ((repeat' (first | omega | exact True.intro | exact absurd True.intro ‹¬ True› | apply And.intro | intro _)) <;> rfl)
    · rw [bZ_f hc]
      ((repeat' (first | omega | exact True.intro | exact absurd True.intro ‹¬ True› | apply And.intro | intro _)) <;> rfl)
end SAF
