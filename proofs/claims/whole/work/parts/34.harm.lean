/-! empty, harms, safe -/
section HAR
variable {E : gw_N} {N : NM} {P : Pic} {G : Geo}
noncomputable def eL (G : Geo) (c k : Int) (L : Int → Int) : Int → Int := fun f => if 0 ≤ f ∧ f < k ∧ cellZ G f = c then 0 else L f
theorem eL_0 {c : Int} {L : Int → Int} : eL G c 0 L = L := funext fun f => if_neg (by omega)
theorem eL_at {c k : Int} {L : Int → Int} : eL G c k L k = L k := if_neg (by omega)
theorem eL_add {c k : Int} {L : Int → Int} (hk : 0 ≤ k) (hc : cellZ G k = c) : updZ (eL G c k L) k 0 = eL G c (k + 1) L := by
  funext f
  unfold updZ eL
  by_cases e : f = k
  · rw [if_pos e, e, if_pos ⟨hk, by omega, hc⟩]
  · rw [if_neg e]
    by_cases q : 0 ≤ f ∧ f < k ∧ cellZ G f = c
    · rw [if_pos q, if_pos ⟨q.1, by omega, q.2.2⟩]
    · rw [if_neg q, if_neg (fun z => q ⟨z.1, by omega, z.2.2⟩)]
theorem eL_skip {c k : Int} {L : Int → Int} (hc : ¬ cellZ G k = c) : eL G c k L = eL G c (k + 1) L := by
  funext f
  unfold eL
  by_cases q : 0 ≤ f ∧ f < k ∧ cellZ G f = c
  · rw [if_pos q, if_pos ⟨q.1, by omega, q.2.2⟩]
  · rw [if_neg q, if_neg]
    intro z
    by_cases e : f = k
    · rw [e] at z; exact hc z.2.2
    · exact q ⟨z.1, by omega, z.2.2⟩
noncomputable def outZ (P : Pic) (c k : Int) : Int := sumZ k (fun f => if cellZ P.toGeo f = c then P.toGla.lay f else 0)
theorem op_empty {x1 : Int} (hI : GInv P N) (h1 : R x1) : Both E N 181 266 [.int (J x1)] := by
  have ⟨g1, g2⟩ := cHas hI.ok.geo hI.cls.cells h1
  have hb := fld_bd hI.ok.geo
  by_cases hc : isC P.toGeo x1
  · refine both (r := .int (J (outZ P x1 (P.toGeo.w * P.toGeo.h)))) (P' := P.setGla (Gla.mk P.toGla.fires (eL P.toGeo x1 (P.toGeo.w * P.toGeo.h) P.toGla.lay) P.toGla.col P.toGla.thk P.toGla.sta)) hI (PicOK.mk hI.ok.geo hI.ok.pag hI.ok.pal (GlaR.mk ?_ hI.ok.gla.col hI.ok.gla.thk hI.ok.gla.sta ?_) hI.ok.ten hI.ok.rod) ?_ ?_
    · intro f f1 f2
      have h := hI.ok.gla.lay f f1 f2
      show 0 ≤ eL P.toGeo x1 (P.toGeo.w * P.toGeo.h) P.toGla.lay f ∧ eL P.toGeo x1 (P.toGeo.w * P.toGeo.h) P.toGla.lay f ≤ 12
      unfold eL
      split <;> omega
    · intro f k f1 f2 k1 k2
      replace k2 : k < eL P.toGeo x1 (P.toGeo.w * P.toGeo.h) P.toGla.lay f := k2
      unfold eL at k2
      split at k2
      · omega
      · exact hI.ok.gla.thk1 f k f1 f2 k1 k2
    · refine ⟨upZ N 45 (eL P.toGeo x1 (P.toGeo.w * P.toGeo.h) (N 45)), c181 (v181_0 ?_), ?_, ?_⟩
      · rw [g1, bZ_t hc]
        (repeat' (first | omega | exact True.intro | exact absurd True.intro ‹¬ True› | apply And.intro | intro _))
        refine ⟨outZ P x1 (P.toGeo.w * P.toGeo.h), upZ N 45 (eL P.toGeo x1 (P.toGeo.w * P.toGeo.h) (N 45)), c18 (v18_0 ?_), rfl⟩
        have h0 := loopZ (a := 0) (n := P.toGeo.w * P.toGeo.h) (Q := fun k => Ev 2 18 4 [some (.ref 44), some (.int (J x1)), some (.int (J (outZ P x1 k))), some (.int (J k))] [] (hs E (jm (upZ N 45 (eL P.toGeo x1 k (N 45))))) (some (.int (J (outZ P x1 (P.toGeo.w * P.toGeo.h)))), hs E (jm (upZ N 45 (eL P.toGeo x1 (P.toGeo.w * P.toGeo.h) (N 45)))))) (by omega) ?_ ?_
        · rw [eL_0, upZ_id] at h0
          exact h0
        · refine v18_4 ?_
          rw [show G40 (upZ N 45 (eL P.toGeo x1 (P.toGeo.w * P.toGeo.h) (N 45))) = P.toGeo.w * P.toGeo.h from cF hI.cls.grid]
          ((repeat' (first | omega | exact True.intro | exact absurd True.intro ‹¬ True› | apply And.intro | intro _)) <;> rfl)
        · intro k k1 k2 ih
          have hF : isF P.toGeo k := ⟨k1, k2⟩
          have h9 := cell_R hI.ok.geo hF
          refine v18_4 ?_
          rw [show G40 (upZ N 45 (eL P.toGeo x1 k (N 45))) = P.toGeo.w * P.toGeo.h from cF hI.cls.grid, show G4 (upZ N 45 (eL P.toGeo x1 k (N 45))) k = cellZ P.toGeo k from hI.cls.cells.cell k k1 k2, upZ_s, upZ_up, eL_at, hI.cls.glass.lay k k1 (by omega)]
          unfold outZ at ih ⊢
          rw [sumZ_succ k1] at ih
          by_cases q : cellZ P.toGeo k = x1
          · rw [eL_add k1 q]
            rw [if_pos q] at ih
            (repeat' (first | omega | exact True.intro | exact absurd True.intro ‹¬ True› | apply And.intro | intro _))
            all_goals exact ih
          · rw [if_neg q, Int.add_zero, ← eL_skip q] at ih
            (repeat' (first | omega | exact True.intro | exact absurd True.intro ‹¬ True› | apply And.intro | intro _))
            all_goals exact ih
      · (refine ClsOK.mk ?_ ?_ ?_ ?_ ?_ ?_ ?_ ?_ ?_ <;> first | exact (hI.cls).grid.fr rfl rfl rfl | exact (hI.cls).page.fr rfl rfl | exact (hI.cls).wires.fr rfl rfl rfl rfl rfl rfl rfl rfl | exact (hI.cls).net.fr rfl rfl rfl rfl | exact (hI.cls).cells.fr rfl rfl rfl | exact (hI.cls).pal.fr rfl rfl rfl | exact (hI.cls).glass.fr rfl rfl rfl rfl rfl | exact (hI.cls).ten.fr rfl | exact (hI.cls).rods.fr rfl rfl rfl | skip)
        refine GlassOK.mk hI.cls.glass.fires ?_ hI.cls.glass.colF hI.cls.glass.thkF hI.cls.glass.staF
        show eL P.toGeo x1 (P.toGeo.w * P.toGeo.h) (N 45) = eL P.toGeo x1 (P.toGeo.w * P.toGeo.h) P.toGla.lay
        rw [hI.cls.glass.layF]
      · (intro a ha; repeat rw [upZ_n (by omega)])
    · intro N hR
      refine ⟨upZ (rfN P N) 77 (eL P.toGeo x1 (P.toGeo.w * P.toGeo.h) P.toGla.lay), c266 (v266_0 ⟨_, _, sp248 hI.ok hR h1, ?_⟩), ?_, ?_⟩
      · rw [bZ_t hc]
        (repeat' (first | omega | exact True.intro | exact absurd True.intro ‹¬ True› | apply And.intro | intro _))
        have e0 : rfN P N 77 = P.toGla.lay := hR.lay
        have h0 := loopZ (a := 0) (n := P.toGeo.w * P.toGeo.h) (Q := fun k => Ev 5 266 15 [some (.ref 59), some (.int (J x1)), some (.int (J (outZ P x1 k))), some (.int (J k))] [] (hs E (jm (upZ (rfN P N) 77 (eL P.toGeo x1 k P.toGla.lay)))) (some (.int (J (outZ P x1 (P.toGeo.w * P.toGeo.h)))), hs E (jm (upZ (rfN P N) 77 (eL P.toGeo x1 (P.toGeo.w * P.toGeo.h) P.toGla.lay))))) (by omega) ?_ ?_
        · rw [eL_0, ← e0, upZ_id] at h0
          rw [← e0]
          exact h0
        · refine v266_15 ?_
          rw [show G243 (upZ (rfN P N) 77 (eL P.toGeo x1 (P.toGeo.w * P.toGeo.h) P.toGla.lay)) = P.toGeo.w * P.toGeo.h from (rF (N := rfN P N) (rfN_ok hR) : G243 (rfN P N) = P.toGeo.w * P.toGeo.h)]
          ((repeat' (first | omega | exact True.intro | exact absurd True.intro ‹¬ True› | apply And.intro | intro _)) <;> rfl)
        · intro k k1 k2 ih
          have hF : isF P.toGeo k := ⟨k1, k2⟩
          have h9 := cell_R hI.ok.geo hF
          refine v266_15 ?_
          rw [show G243 (upZ (rfN P N) 77 (eL P.toGeo x1 k P.toGla.lay)) = P.toGeo.w * P.toGeo.h from (rF (N := rfN P N) (rfN_ok hR) : G243 (rfN P N) = P.toGeo.w * P.toGeo.h), show (upZ (rfN P N) 77 (eL P.toGeo x1 k P.toGla.lay)) 69 k = cellZ P.toGeo k from rfN_69 hF, upZ_s, upZ_up, eL_at]
          unfold outZ at ih ⊢
          rw [sumZ_succ k1] at ih
          by_cases q : cellZ P.toGeo k = x1
          · rw [eL_add k1 q]
            rw [if_pos q] at ih
            (repeat' (first | omega | exact True.intro | exact absurd True.intro ‹¬ True› | apply And.intro | intro _))
            all_goals exact ih
          · rw [if_neg q, Int.add_zero, ← eL_skip q] at ih
            (repeat' (first | omega | exact True.intro | exact absurd True.intro ‹¬ True› | apply And.intro | intro _))
            all_goals exact ih
      · exact RefOK.mk hR.w hR.h hR.pm hR.ws hR.wall hR.stiff hR.bear hR.fires hR.bc hR.bt hR.rods hR.pg hR.px hR.py hR.mv hR.laid hR.sold hR.heat hR.shr hR.pul hR.foe rfl hR.col hR.thk hR.sta hR.rl hR.rm
      · intro a ha
        rw [upZ_n (by omega)]
        exact rfN_cls a ha
  · refine both_q (r := .int (J (-101))) hI (QC.same (c181 (v181_0 ?_))) (fun N hR => ⟨rfN P N, c266 (v266_0 ⟨_, _, sp248 hI.ok hR h1, ?_⟩), rfN_ok hR, rfN_cls⟩)
    · rw [g1, bZ_f hc]
      ((repeat' (first | omega | exact True.intro | exact absurd True.intro ‹¬ True› | apply And.intro | intro _)) <;> rfl)
    · rw [bZ_f hc]
      ((repeat' (first | omega | exact True.intro | exact absurd True.intro ‹¬ True› | apply And.intro | intro _)) <;> rfl)
/-- the least of 999 and some numbers -/
def minN (h : Int → Int) : Nat → Int
  | 0 => 999
  | n + 1 => if h (n : Int) < minN h n then h (n : Int) else minN h n
def minZ (n : Int) (h : Int → Int) : Int := minN h n.toNat
theorem minZ_0 {h : Int → Int} : minZ 0 h = 999 := rfl
theorem minZ_succ {h : Int → Int} {k : Int} (hk : 0 ≤ k) : minZ (k + 1) h = if h k < minZ k h then h k else minZ k h := by
  unfold minZ
  have e : (k + 1).toNat = k.toNat + 1 := by omega
  rw [e]
  show (if h (k.toNat : Int) < minN h k.toNat then h (k.toNat : Int) else minN h k.toNat) = _
  rw [Int.toNat_of_nonneg hk]
theorem minZ_le {h : Int → Int} {n : Int} (hn : 0 ≤ n) : minZ n h ≤ 999 := by
  refine indZ (P := fun n => minZ n h ≤ 999) (by rw [minZ_0]; omega) ?_ n hn
  intro k hk ih
  rw [minZ_succ hk]
  split <;> omega
theorem minZ_lt {h : Int → Int} {n t : Int} (hn : 0 ≤ n) (ht : t ≤ 999) : minZ n h < t ↔ ∃ k, 0 ≤ k ∧ k < n ∧ h k < t := by
  refine indZ (P := fun n => minZ n h < t ↔ ∃ k, 0 ≤ k ∧ k < n ∧ h k < t) ?_ ?_ n hn
  · rw [minZ_0]
    exact ⟨fun q => by omega, fun q => absurd q exZ_0⟩
  · intro k hk ih
    rw [exZ_succ hk, ← ih, minZ_succ hk]
    split <;> omega
theorem minZ_bd {h : Int → Int} {n : Int} (hn : 0 ≤ n) (hh : ∀ k, 0 ≤ k → k < n → 0 ≤ h k) : 0 ≤ minZ n h := by
  have := minZ_lt (h := h) (t := 0) hn (by decide)
  apply Classical.byContradiction
  intro q
  obtain ⟨k, k1, k2, k3⟩ := this.mp (by omega)
  have := hh k k1 k2
  omega
theorem minZ_same {h : Int → Int} {k : Int} (hk : 0 ≤ k) (h9 : 999 ≤ h k) : minZ (k + 1) h = minZ k h := by
  have := minZ_le (h := h) hk
  rw [minZ_succ hk, if_neg (by omega)]
def topZ (G : Gla) (f : Int) : Int := 12 * f + G.lay f - 1
/-- a field whose upmost layer is fired -/
def finZ (G : Gla) (f : Int) : Prop := 0 < G.lay f ∧ G.sta (topZ G f) = 1
def bhZ (P : Pic) (f : Int) : Int := P.toPal.heat (P.toGla.col (topZ P.toGla f)) + 50
noncomputable def hBZ (P : Pic) (c f : Int) : Int := @ite Int (cellZ P.toGeo f = c ∧ finZ P.toGla f) (Classical.propDecidable _) (bhZ P f) 999
noncomputable def beaZ (P : Pic) (c : Int) : Int := minZ (P.toGeo.w * P.toGeo.h) (hBZ P c)
theorem top_bd (hI : PicOK P) {f : Int} (hf : 0 ≤ f ∧ f < 64) (hl : 0 < P.toGla.lay f) : 0 ≤ topZ P.toGla f ∧ topZ P.toGla f < 768 := by
  have h := hI.gla.lay f hf.1 hf.2
  unfold topZ
  omega
theorem bh_bd (hI : PicOK P) {f : Int} (hf : 0 ≤ f ∧ f < 64) (hl : 0 < P.toGla.lay f) : 51 ≤ bhZ P f ∧ bhZ P f ≤ 950 := by
  have h := top_bd hI hf hl
  have h1 := hI.gla.col _ h.1 h.2
  have h2 := hI.pal.heat _ h1.1 h1.2
  unfold bhZ
  omega
theorem hB_bd (hI : PicOK P) {c f : Int} (hf : 0 ≤ f ∧ f < 64) : 0 ≤ hBZ P c f ∧ hBZ P c f ≤ 999 := by
  unfold hBZ
  by_cases q : cellZ P.toGeo f = c ∧ finZ P.toGla f
  · rw [if_pos q]
    have := bh_bd hI hf q.2.1
    omega
  · rw [if_neg q]; omega
theorem sp33 {c : Int} (hI : PicOK P) (hC : ClsOK P N) (hc : R c) : Rn 33 [.ref 44, .int (J c)] (hs E (jm N)) (some (.int (J (beaZ P c)))) (hs E (jm N)) := by
  have hb := fld_bd hI.geo
  unfold beaZ
  refine c33 (v33_0 ?_)
  refine loopZ (a := 0) (n := P.toGeo.w * P.toGeo.h) (Q := fun f => Ev 3 33 6 [some (.ref 44), some (.int (J c)), some (.int (J (minZ f (hBZ P c)))), some (.int (J f)), none] [] (hs E (jm N)) (_, _)) (by omega) ?_ ?_
  · refine v33_6 ?_
    rw [cF hC.grid]
    ((repeat' (first | omega | exact True.intro | exact absurd True.intro ‹¬ True› | apply And.intro | intro _)) <;> rfl)
  · intro f f1 f2 ih
    have hF : isF P.toGeo f := ⟨f1, f2⟩
    have h9 := cell_R hI.geo hF
    have hl := hI.gla.lay f f1 (by omega)
    have el := hC.glass.lay f f1 (by omega)
    refine v33_6 ?_
    unfold Q15 G15
    rw [cF hC.grid, show G4 N f = cellZ P.toGeo f from hC.cells.cell f f1 f2, el]
    have skip : ¬ (cellZ P.toGeo f = c ∧ finZ P.toGla f) → Ev 3 33 6 [some (.ref 44), some (.int (J c)), some (.int (J (minZ f (hBZ P c)))), some (.int (J (f + 1))), none] [] (hs E (jm N)) (some (.int (J (minZ (P.toGeo.w * P.toGeo.h) (hBZ P c)))), (hs E (jm N))) := by
      intro q
      have e : 999 ≤ hBZ P c f := by
        unfold hBZ
        rw [if_neg q]
        decide
      rw [minZ_same f1 e] at ih
      exact ih
    by_cases hl0 : P.toGla.lay f ≤ 0
    · rw [if_pos hl0]
      have hs := skip (fun q => absurd q.2.1 (by omega))
      (repeat' (first | omega | exact True.intro | exact absurd True.intro ‹¬ True› | apply And.intro | intro _))
      all_goals exact hs
    · have ht := top_bd hI ⟨f1, by omega⟩ (by omega)
      have hbh := bh_bd hI ⟨f1, by omega⟩ (by omega)
      have hco := hI.gla.col _ ht.1 ht.2
      have hst := hI.gla.sta _ ht.1 ht.2
      have hmn := minZ_le (h := hBZ P c) f1
      have hmb := minZ_bd (h := hBZ P c) f1 (fun k k1 k2 => (hB_bd hI ⟨k1, by omega⟩).1)
      rw [if_neg hl0, show 12 * f + P.toGla.lay f - 1 = topZ P.toGla f from rfl, hC.glass.sta _ ht.1 ht.2, hC.glass.col _ ht.1 ht.2]
      have e100 : G100 N (P.toGla.col (topZ P.toGla f)) = bhZ P f := by
        unfold G100 G99 bhZ
        rw [show N 41 (3 * P.toGla.col (topZ P.toGla f) + 0) = P.toPal.heat (P.toGla.col (topZ P.toGla f)) by rw [Int.add_zero]; exact hC.pal.heat _ hco.1 hco.2]
      rw [e100]
      unfold Q312 G312 Q100 Q99
      (repeat' (first | omega | exact True.intro | exact absurd True.intro ‹¬ True› | apply And.intro | intro _))
      · rw [minZ_succ f1, show hBZ P c f = bhZ P f from if_pos ⟨‹_›, by omega, ‹_›⟩] at ih
        exact ih
      · exact skip (fun q => absurd q.2.2 ‹_›)
      · exact skip (fun q => absurd q.1 ‹_›)
end HAR
