/-! cell, size, fill, empty -/
section FIL
variable {E : gw_N} {N : NM} {P : Pic} {G : Geo}
/-- the reference's memory behind findCells -/
noncomputable def rfN (P : Pic) (N : NM) : NM := upZ (upZ N 67 (covF P.toGeo (N 67) P.toGeo.ws 0)) 69 (celF P.toGeo (N 69))
theorem sp247' (hI : PicOK P) (hR : RefOK P N) : Rn 247 [.ref 59] (hs E (jm N)) none (hs E (jm (rfN P N))) := sp247 hI hR
theorem rfN_ok (hR : RefOK P N) : RefOK P (rfN P N) := hR
theorem rfN_cls : sCls N (rfN P N) := by
  intro a ha
  show upZ (upZ N 67 _) 69 _ a = N a
  rw [upZ_n (by omega), upZ_n (by omega)]
theorem rfN_69 {f : Int} (h : isF P.toGeo f) : rfN P N 69 f = cellZ P.toGeo f := celF_in h
theorem rfN_67 (hG : GeoR P.toGeo) {e : Int} (h : 0 ≤ e ∧ e < 162) : rfN P N 67 e = covC P.toGeo (toC e) := covF_C hG h
def isC (G : Geo) (c : Int) : Prop := isF G c ∧ cellZ G c = c
theorem cell_R (hG : GeoR G) {f : Int} (h : isF G f) : 0 ≤ cellZ G f ∧ cellZ G f < 64 := by
  have h1 := (cell_ex h).1
  have hb := fld_bd hG
  have h2 := h1.1
  have h3 := h1.2
  omega
theorem sp248 {c : Int} (hI : PicOK P) (hR : RefOK P N) (hc : R c) : Rn 248 [.ref 59, .int (J c)] (hs E (jm N)) (some (.int (J (bZ (isC P.toGeo c))))) (hs E (jm (rfN P N))) := by
  have hb := fld_bd hI.geo
  refine c248 (v248_0 ⟨_, sp247 hI hR, ?_⟩)
  show R c ∧ R (G243 (rfN P N) - 1) ∧ ((if 0 ≤ c ∧ c ≤ G243 (rfN P N) - 1 then (1 : Int) else 0) = 0 → _ = (_, hs E (jm (rfN P N)))) ∧ (¬ (if 0 ≤ c ∧ c ≤ G243 (rfN P N) - 1 then (1 : Int) else 0) = 0 → _ ∧ R (rfN P N 69 c) ∧ (rfN P N 69 c = c → _ = (_, hs E (jm (rfN P N)))) ∧ (¬ rfN P N 69 c = c → _ = (_, hs E (jm (rfN P N)))))
  rw [rF (rfN_ok hR)]
  by_cases hF : isF P.toGeo c
  · have h1 := hF.1
    have h2 := hF.2
    have h3 := cell_R hI.geo hF
    rw [rfN_69 hF]
    (repeat' (first | omega | exact True.intro | exact absurd True.intro ‹¬ True› | apply And.intro | intro _))
    · rw [bZ_t ⟨hF, ‹_›⟩]
    · rw [bZ_f (fun k => ‹¬ cellZ P.toGeo c = c› k.2)]
  · rw [bZ_f (fun k => hF k.1)]
    have : ¬ (0 ≤ c ∧ c < P.toGeo.w * P.toGeo.h) := hF
    ((repeat' (first | omega | exact True.intro | exact absurd True.intro ‹¬ True› | apply And.intro | intro _)) <;> rfl)
theorem sp249 {c : Int} (hI : PicOK P) (hR : G243 N = P.toGeo.w * P.toGeo.h) (hc : R c) (hN : ∀ f, isF P.toGeo f → N 69 f = cellZ P.toGeo f) : Rn 249 [.ref 59, .int (J c)] (hs E (jm N)) (some (.int (J (sizeZ P.toGeo c)))) (hs E (jm N)) := by
  have hb := fld_bd hI.geo
  unfold sizeZ
  refine c249 (v249_0 ?_)
  refine loopZ (a := 0) (n := P.toGeo.w * P.toGeo.h) (Q := fun f => Ev 2 249 4 [some (.ref 59), some (.int (J c)), some (.int (J (sumZ f (fun f => bZ (cellZ P.toGeo f = c))))), some (.int (J f))] [] (hs E (jm N)) (_, _)) (by omega) ?_ ?_
  · refine v249_4 ?_
    rw [hR]
    ((repeat' (first | omega | exact True.intro | exact absurd True.intro ‹¬ True› | apply And.intro | intro _)) <;> rfl)
  · intro f h1 h2 ih
    have hF : isF P.toGeo f := ⟨h1, h2⟩
    have h3 := cell_R hI.geo hF
    refine v249_4 ?_
    rw [hR, hN f hF]
    rw [sumZ_succ h1] at ih
    (repeat' (first | omega | exact True.intro | exact absurd True.intro ‹¬ True› | apply And.intro | intro _))
    · rw [bZ_t ‹cellZ P.toGeo f = c›] at ih
      exact ih
    · rw [bZ_f ‹¬ cellZ P.toGeo f = c›] at ih
      exact ih
theorem cHas {c : Int} (hG : GeoR G) (hC : CellsOK G N) (hc : R c) : G5 N c = bZ (isC G c) ∧ Q5 N c := by
  have hb := fld_bd hG
  unfold G5 Q5
  by_cases h0 : 0 ≤ c ∧ c < 64
  · have h9 : -1 ≤ N 33 c ∧ N 33 c < 64 ∧ (N 33 c = c ↔ isC G c) := by
      by_cases hF : isF G c
      · have h3 := cell_R hG hF
        rw [hC.cell c hF.1 hF.2]
        exact ⟨by omega, by omega, fun k => ⟨hF, k⟩, fun k => k.2⟩
      · have : ¬ (0 ≤ c ∧ c < G.w * G.h) := hF
        rw [hC.none c (by omega) h0.2]
        exact ⟨by omega, by omega, fun k => by omega, fun k => absurd k.1 hF⟩
    refine ⟨?_, by (repeat' (first | omega | exact True.intro | exact absurd True.intro ‹¬ True› | apply And.intro | intro _))⟩
    rw [if_neg (show ¬ c < 0 by omega), if_neg (show ¬ 64 ≤ c by omega), bZ_ite]
    exact bZ_congr h9.2.2
  · have hF : ¬ isC G c := by
      intro k
      have h1 := k.1.1
      have h2 := k.1.2
      omega
    refine ⟨?_, by (repeat' (first | omega | exact True.intro | exact absurd True.intro ‹¬ True› | apply And.intro | intro _))⟩
    rw [bZ_f hF]
    by_cases h1 : c < 0
    · rw [if_pos h1]
    · rw [if_neg h1, if_pos (by omega)]
theorem op_cell {x1 x2 : Int} (hI : GInv P N) (h1 : R x1) (h2 : R x2) : Both E N 173 252 [.int (J x1), .int (J x2)] := by
  have hw := hI.ok.geo.w
  have hh := hI.ok.geo.h
  have e1 := hI.cls.grid.w
  have e2 := hI.cls.grid.h
  have hb := fld_bd hI.ok.geo
  by_cases hc : (0 ≤ x1 ∧ x1 < P.toGeo.w) ∧ 0 ≤ x2 ∧ x2 < P.toGeo.h
  · have hf := (fld_at hI.ok.geo hc.1 hc.2).1
    refine both_q (r := .int (J (cellZ P.toGeo (P.toGeo.w * x2 + x1)))) hI (QC.same (c173 (v173_0 ?_))) (fun N hR => ?_)
    · simp only [G43, G45, e1, e2, G4]
      unfold Q43
      simp only [e1, e2]
      rw [hI.cls.cells.cell _ hf.1 hf.2]
      ((repeat' (first | omega | exact True.intro | exact absurd True.intro ‹¬ True› | apply And.intro | intro _)) <;> rfl)
    · have e3 := hR.w
      have e4 := hR.h
      refine ⟨rfN P N, c252 (v252_0 ?_), rfN_ok hR, rfN_cls⟩
      simp only [G244, e3, e4]
      unfold Q244
      simp only [e3, e4]
      (repeat' (first | omega | exact True.intro | exact absurd True.intro ‹¬ True› | apply And.intro | intro _))
      refine ⟨_, sp247' hI.ok hR, ?_⟩
      rw [(rfN_ok hR).w, rfN_69 hf]
      ((repeat' (first | omega | exact True.intro | exact absurd True.intro ‹¬ True› | apply And.intro | intro _)) <;> rfl)
  · refine both_same (r := .int (J (-101))) hI (c173 (v173_0 ?_)) (c252 (v252_0 ?_))
    · simp only [G43, G45, e1, e2, G4]
      unfold Q43
      simp only [e1, e2]
      ((repeat' (first | omega | exact True.intro | exact absurd True.intro ‹¬ True› | apply And.intro | intro _)) <;> rfl)
    · have e3 := hI.ref.w
      have e4 := hI.ref.h
      simp only [G244, e3, e4]
      unfold Q244
      simp only [e3, e4]
      ((repeat' (first | omega | exact True.intro | exact absurd True.intro ‹¬ True› | apply And.intro | intro _)) <;> rfl)
theorem op_size {x1 : Int} (hI : GInv P N) (h1 : R x1) : Both E N 174 253 [.int (J x1)] := by
  have ⟨g1, g2⟩ := cHas hI.ok.geo hI.cls.cells h1
  by_cases hc : isC P.toGeo x1
  · refine both_q (r := .int (J (sizeZ P.toGeo x1))) hI (QC.same (c174 (v174_0 ?_))) (fun N hR => ?_)
    · have hb := fld_bd hI.ok.geo
      have a1 := hc.1.1
      have a2 := hc.1.2
      rw [g1, bZ_t hc, show G6 N x1 = sizeZ P.toGeo x1 from hI.cls.cells.size x1 hc.1.1 hc.1.2 hc.2]
      ((repeat' (first | omega | exact True.intro | exact absurd True.intro ‹¬ True› | apply And.intro | intro _)) <;> rfl)
    · refine ⟨rfN P N, c253 (v253_0 ⟨_, _, sp248 hI.ok hR h1, ?_⟩), rfN_ok hR, rfN_cls⟩
      rw [bZ_t hc]
      (repeat' (first | omega | exact True.intro | exact absurd True.intro ‹¬ True› | apply And.intro | intro _))
      exact ⟨_, sp249 hI.ok (rF (rfN_ok hR)) h1 (fun f hf => rfN_69 hf), rfl⟩
  · refine both_q (r := .int (J (-101))) hI (QC.same (c174 (v174_0 ?_))) (fun N hR => ?_)
    · rw [g1, bZ_f hc]
      ((repeat' (first | omega | exact True.intro | exact absurd True.intro ‹¬ True› | apply And.intro | intro _)) <;> rfl)
    · refine ⟨rfN P N, c253 (v253_0 ⟨_, _, sp248 hI.ok hR h1, ?_⟩), rfN_ok hR, rfN_cls⟩
      rw [bZ_f hc]
      ((repeat' (first | omega | exact True.intro | exact absurd True.intro ‹¬ True› | apply And.intro | intro _)) <;> rfl)
/-- layers and what stands in them, when fields before k of a cell have got a layer -/
noncomputable def pL (G : Geo) (c k : Int) (L : Int → Int) : Int → Int := fun f => if 0 ≤ f ∧ f < k ∧ cellZ G f = c then L f + 1 else L f
noncomputable def pA (G : Geo) (c k : Int) (L A : Int → Int) (v : Int) : Int → Int := fun i => if 0 ≤ i ∧ i / 12 < k ∧ cellZ G (i / 12) = c ∧ i % 12 = L (i / 12) then v else A i
theorem pL_0 {c : Int} {L : Int → Int} : pL G c 0 L = L := funext fun f => if_neg (by omega)
theorem pA_0 {c v : Int} {L A : Int → Int} : pA G c 0 L A v = A := funext fun i => if_neg (by omega)
theorem pL_at {c k : Int} {L : Int → Int} : pL G c k L k = L k := if_neg (by omega)
theorem pL_add {c k : Int} {L : Int → Int} (hk : 0 ≤ k) (hc : cellZ G k = c) : updZ (pL G c k L) k (L k + 1) = pL G c (k + 1) L := by
  funext f
  unfold updZ pL
  by_cases e : f = k
  · rw [if_pos e, e, if_pos ⟨hk, by omega, hc⟩]
  · rw [if_neg e]
    by_cases q : 0 ≤ f ∧ f < k ∧ cellZ G f = c
    · rw [if_pos q, if_pos ⟨q.1, by omega, q.2.2⟩]
    · rw [if_neg q, if_neg (fun z => q ⟨z.1, by omega, z.2.2⟩)]
theorem pL_skip {c k : Int} {L : Int → Int} (hc : ¬ cellZ G k = c) : pL G c k L = pL G c (k + 1) L := by
  funext f
  unfold pL
  by_cases q : 0 ≤ f ∧ f < k ∧ cellZ G f = c
  · rw [if_pos q, if_pos ⟨q.1, by omega, q.2.2⟩]
  · rw [if_neg q, if_neg]
    intro z
    by_cases e : f = k
    · rw [e] at z; exact hc z.2.2
    · exact q ⟨z.1, by omega, z.2.2⟩
theorem pA_add {c k v : Int} {L A : Int → Int} (hk : 0 ≤ k) (hc : cellZ G k = c) (hl : 0 ≤ L k ∧ L k < 12) : updZ (pA G c k L A v) (12 * k + L k) v = pA G c (k + 1) L A v := by
  funext i
  unfold updZ pA
  by_cases e : i = 12 * k + L k
  · have e1 : i / 12 = k := by omega
    have e2 : i % 12 = L k := by omega
    rw [if_pos e, if_pos ⟨by omega, by omega, by rw [e1]; exact hc, by rw [e1]; exact e2⟩]
  · rw [if_neg e]
    by_cases q : 0 ≤ i ∧ i / 12 < k ∧ cellZ G (i / 12) = c ∧ i % 12 = L (i / 12)
    · rw [if_pos q, if_pos ⟨q.1, by omega, q.2.2⟩]
    · rw [if_neg q, if_neg]
      intro z
      by_cases e1 : i / 12 = k
      · have := z.2.2.2
        rw [e1] at this
        omega
      · exact q ⟨z.1, by omega, z.2.2⟩
theorem pA_skip {c k v : Int} {L A : Int → Int} (hc : ¬ cellZ G k = c) : pA G c k L A v = pA G c (k + 1) L A v := by
  funext i
  unfold pA
  by_cases q : 0 ≤ i ∧ i / 12 < k ∧ cellZ G (i / 12) = c ∧ i % 12 = L (i / 12)
  · rw [if_pos q, if_pos ⟨q.1, by omega, q.2.2⟩]
  · rw [if_neg q, if_neg]
    intro z
    by_cases e1 : i / 12 = k
    · exact hc (by rw [← e1]; exact z.2.2.1)
    · exact q ⟨z.1, by omega, z.2.2⟩
end FIL
