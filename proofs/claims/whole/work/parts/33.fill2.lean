/-! fill and empty -/
section FIM
variable {E : gw_N} {N : NM} {P : Pic} {G : Geo}
def room (P : Pic) (c : Int) : Prop := ∀ f, 0 ≤ f → f < P.toGeo.w * P.toGeo.h → cellZ P.toGeo f = c → P.toGla.lay f < 12
theorem sp16 {c : Int} (hI : PicOK P) (hC : ClsOK P N) (hc : R c) : Rn 16 [.ref 44, .int (J c)] (hs E (jm N)) (some (.int (J (bZ (room P c))))) (hs E (jm N)) := by
  have hb := fld_bd hI.geo
  refine c16 (v16_0 ?_)
  refine loopZ (a := 0) (n := P.toGeo.w * P.toGeo.h) (Q := fun k => (∀ f, 0 ≤ f → f < k → cellZ P.toGeo f = c → P.toGla.lay f < 12) → Ev 2 16 2 [some (.ref 44), some (.int (J c)), some (.int (J k))] [] (hs E (jm N)) (_, _)) (by omega) ?_ ?_ (fun f h1 h2 => absurd h2 (by omega))
  · intro h
    refine v16_2 ?_
    rw [cF hC.grid, bZ_t (show room P c from h)]
    ((repeat' (first | omega | exact True.intro | exact absurd True.intro ‹¬ True› | apply And.intro | intro _)) <;> rfl)
  · intro k k1 k2 ih h
    have hF : isF P.toGeo k := ⟨k1, k2⟩
    have h3 := cell_R hI.geo hF
    have hl := hI.gla.lay k k1 (by omega)
    refine v16_2 ?_
    rw [cF hC.grid, show G4 N k = cellZ P.toGeo k from hC.cells.cell k k1 k2, hC.glass.lay k k1 (by omega)]
    (repeat' (first | omega | exact True.intro | exact absurd True.intro ‹¬ True› | apply And.intro | intro _))
    · exact ih ((allZ_succ (p := fun f => cellZ P.toGeo f = c → P.toGla.lay f < 12) k1).mpr ⟨h, fun _ => ‹_›⟩)
    · rw [bZ_f (fun (q : room P c) => absurd (q k k1 k2 ‹_›) ‹_›)]
    · exact ih ((allZ_succ (p := fun f => cellZ P.toGeo f = c → P.toGla.lay f < 12) k1).mpr ⟨h, fun q => absurd q ‹_›⟩)
noncomputable def pGla (P : Pic) (c a t : Int) : Gla :=
  Gla.mk P.toGla.fires (pL P.toGeo c (P.toGeo.w * P.toGeo.h) P.toGla.lay) (pA P.toGeo c (P.toGeo.w * P.toGeo.h) P.toGla.lay P.toGla.col a) (pA P.toGeo c (P.toGeo.w * P.toGeo.h) P.toGla.lay P.toGla.thk t) (pA P.toGeo c (P.toGeo.w * P.toGeo.h) P.toGla.lay P.toGla.sta 0)
theorem up4_up4 {N : NM} {a b c d : Nat} {f0 f1 f2 f3 g0 g1 g2 g3 : Int → Int} : upZ (upZ (upZ (upZ (upZ (upZ (upZ (upZ N b f1) c f2) d f3) a f0) b g1) c g2) d g3) a g0 = upZ (upZ (upZ (upZ N b g1) c g2) d g3) a g0 := by
  funext z
  unfold upZ
  (repeat' split) <;> first | rfl | (exfalso; omega)
theorem up4_id {N : NM} {a b c d : Nat} : upZ (upZ (upZ (upZ N b (N b)) c (N c)) d (N d)) a (N a) = N := by
  rw [upZ_id, upZ_id, upZ_id, upZ_id]
/-- four rows of glass behind fields before k -/
noncomputable def pN (a : Nat) (G : Geo) (N : NM) (c col t k : Int) : NM :=
  upZ (upZ (upZ (upZ N (a + 1) (pA G c k (N a) (N (a + 1)) col)) (a + 2) (pA G c k (N a) (N (a + 2)) t)) (a + 3) (pA G c k (N a) (N (a + 3)) 0)) a (pL G c k (N a))
theorem sp17 {c a t : Int} (hI : PicOK P) (hC : ClsOK P N) (hc : R c) (hr : room P c) : Rn 17 [.ref 44, .int (J c), .int (J a), .int (J t)] (hs E (jm N)) (some (.int (J (sizeZ P.toGeo c)))) (hs E (jm (pN 45 P.toGeo N c a t (P.toGeo.w * P.toGeo.h)))) := by
  have hb := fld_bd hI.geo
  unfold sizeZ
  refine c17 (v17_0 ?_)
  have h0 := loopZ (a := 0) (n := P.toGeo.w * P.toGeo.h) (Q := fun k => Ev 2 17 6 [some (.ref 44), some (.int (J c)), some (.int (J a)), some (.int (J t)), some (.int (J (sumZ k (fun f => bZ (cellZ P.toGeo f = c))))), some (.int (J k)), none] [] (hs E (jm (pN 45 P.toGeo N c a t k))) (some (.int (J (sumZ (P.toGeo.w * P.toGeo.h) (fun f => bZ (cellZ P.toGeo f = c))))), hs E (jm (pN 45 P.toGeo N c a t (P.toGeo.w * P.toGeo.h))))) (by omega) ?_ ?_
  · have e : pN 45 P.toGeo N c a t 0 = N := by
      unfold pN
      rw [pA_0, pA_0, pA_0, pL_0]
      exact up4_id
    rw [e] at h0
    exact h0
  · refine v17_6 ?_
    rw [show G40 (pN 45 P.toGeo N c a t (P.toGeo.w * P.toGeo.h)) = P.toGeo.w * P.toGeo.h from cF (N := pN 45 P.toGeo N c a t (P.toGeo.w * P.toGeo.h)) (G := P.toGeo) (hC.grid.fr rfl rfl rfl)]
    ((repeat' (first | omega | exact True.intro | exact absurd True.intro ‹¬ True› | apply And.intro | intro _)) <;> rfl)
  · intro k k1 k2 ih
    have hF : isF P.toGeo k := ⟨k1, k2⟩
    have h3 := cell_R hI.geo hF
    have hl := hI.gla.lay k k1 (by omega)
    have e0 : N 45 k = P.toGla.lay k := hC.glass.lay k k1 (by omega)
    refine v17_6 ?_
    rw [show G40 (pN 45 P.toGeo N c a t k) = P.toGeo.w * P.toGeo.h from cF (N := pN 45 P.toGeo N c a t k) (G := P.toGeo) (hC.grid.fr rfl rfl rfl), show G4 (pN 45 P.toGeo N c a t k) k = cellZ P.toGeo k from hC.cells.cell k k1 k2]
    rw [show (pN 45 P.toGeo N c a t k) 45 = pL P.toGeo c k (N 45) from rfl, show (pN 45 P.toGeo N c a t k) 46 = pA P.toGeo c k (N 45) (N 46) a from rfl, show (pN 45 P.toGeo N c a t k) 47 = pA P.toGeo c k (N 45) (N 47) t from rfl, show (pN 45 P.toGeo N c a t k) 48 = pA P.toGeo c k (N 45) (N 48) 0 from rfl, pL_at]
    rw [sumZ_succ k1] at ih
    by_cases q : cellZ P.toGeo k = c
    · have hr1 := hr k k1 k2 q
      rw [pL_add k1 q, pA_add k1 q (by omega), pA_add k1 q (by omega), pA_add k1 q (by omega)]
      rw [bZ_t q] at ih
      (repeat' (first | omega | exact True.intro | exact absurd True.intro ‹¬ True› | apply And.intro | intro _))
      have e9 : upZ (upZ (upZ (upZ (pN 45 P.toGeo N c a t k) 46 (pA P.toGeo c (k + 1) (N 45) (N 46) a)) 47 (pA P.toGeo c (k + 1) (N 45) (N 47) t)) 48 (pA P.toGeo c (k + 1) (N 45) (N 48) 0)) 45 (pL P.toGeo c (k + 1) (N 45)) = pN 45 P.toGeo N c a t (k + 1) := by
        exact up4_up4
      rw [e9]
      exact ih
    · have e9 : pN 45 P.toGeo N c a t k = pN 45 P.toGeo N c a t (k + 1) := by
        unfold pN
        rw [pL_skip q, pA_skip q, pA_skip q, pA_skip q]
      rw [bZ_f q, Int.add_zero, ← e9] at ih
      (repeat' (first | omega | exact True.intro | exact absurd True.intro ‹¬ True› | apply And.intro | intro _))
      all_goals exact ih
theorem Gla_pN_R {c a t : Int} (hI : PicOK P) (ha : 0 ≤ a ∧ a < 8) (ht : 1 ≤ t ∧ t ≤ 99) (hr : room P c) : GlaR (pGla P c a t) := by
  have hb := fld_bd hI.geo
  refine GlaR.mk ?_ ?_ ?_ ?_ ?_
  · intro f f1 f2
    have h := hI.gla.lay f f1 f2
    show 0 ≤ pL P.toGeo c (P.toGeo.w * P.toGeo.h) P.toGla.lay f ∧ pL P.toGeo c (P.toGeo.w * P.toGeo.h) P.toGla.lay f ≤ 12
    unfold pL
    split
    · have := hr f f1 (by omega) (by omega)
      omega
    · omega
  · intro i i1 i2
    have h := hI.gla.col i i1 i2
    show 0 ≤ pA P.toGeo c (P.toGeo.w * P.toGeo.h) P.toGla.lay P.toGla.col a i ∧ pA P.toGeo c (P.toGeo.w * P.toGeo.h) P.toGla.lay P.toGla.col a i < 8
    unfold pA
    split <;> omega
  · intro i i1 i2
    have h := hI.gla.thk i i1 i2
    show 0 ≤ pA P.toGeo c (P.toGeo.w * P.toGeo.h) P.toGla.lay P.toGla.thk t i ∧ pA P.toGeo c (P.toGeo.w * P.toGeo.h) P.toGla.lay P.toGla.thk t i ≤ 99
    unfold pA
    split <;> omega
  · intro i i1 i2
    have h := hI.gla.sta i i1 i2
    show 0 ≤ pA P.toGeo c (P.toGeo.w * P.toGeo.h) P.toGla.lay P.toGla.sta 0 i ∧ pA P.toGeo c (P.toGeo.w * P.toGeo.h) P.toGla.lay P.toGla.sta 0 i ≤ 2
    unfold pA
    split <;> omega
  · intro f k f1 f2 k1 k2
    have hl := hI.gla.lay f f1 f2
    replace k2 : k < pL P.toGeo c (P.toGeo.w * P.toGeo.h) P.toGla.lay f := k2
    show 1 ≤ pA P.toGeo c (P.toGeo.w * P.toGeo.h) P.toGla.lay P.toGla.thk t (12 * f + k)
    by_cases q : 0 ≤ f ∧ f < P.toGeo.w * P.toGeo.h ∧ cellZ P.toGeo f = c
    · have hr1 := hr f f1 q.2.1 q.2.2
      unfold pL at k2
      rw [if_pos q] at k2
      have e1 : (12 * f + k) / 12 = f := by omega
      have e2 : (12 * f + k) % 12 = k := by omega
      unfold pA
      rw [e1, e2]
      split
      · omega
      · exact hI.gla.thk1 f k f1 f2 k1 (by omega)
    · unfold pL at k2
      rw [if_neg q] at k2
      have e1 : (12 * f + k) / 12 = f := by omega
      unfold pA
      rw [e1, if_neg (fun z => q ⟨f1, z.2.1, z.2.2.1⟩)]
      exact hI.gla.thk1 f k f1 f2 k1 k2
theorem op_fill {x1 x2 x3 : Int} (hI : GInv P N) (h1 : R x1) (h2 : R x2) (h3 : R x3) : Both E N 180 265 [.int (J x1), .int (J x2), .int (J x3)] := by
  have ⟨g1, g2⟩ := cHas hI.ok.geo hI.cls.cells h1
  have hb := fld_bd hI.ok.geo
  by_cases hc : isC P.toGeo x1
  · by_cases ha : 0 ≤ x2 ∧ x2 < 8
    · by_cases ht : 1 ≤ x3 ∧ x3 ≤ 99
      · by_cases hr : room P x1
        · refine both (r := .int (J (sizeZ P.toGeo x1))) (P' := P.setGla (pGla P x1 x2 x3)) hI (PicOK.mk hI.ok.geo hI.ok.pag hI.ok.pal (Gla_pN_R hI.ok ha ht hr) hI.ok.ten hI.ok.rod) ?_ ?_
          · refine ⟨pN 45 P.toGeo N x1 x2 x3 (P.toGeo.w * P.toGeo.h), c180 (v180_0 ?_), ?_, ?_⟩
            · simp only [G94]
              rw [g1, bZ_t hc]
              (repeat' (first | omega | exact True.intro | exact absurd True.intro ‹¬ True› | apply And.intro | intro _))
              refine ⟨_, sp16 hI.ok hI.cls h1, ?_⟩
              rw [bZ_t hr]
              (repeat' (first | omega | exact True.intro | exact absurd True.intro ‹¬ True› | apply And.intro | intro _))
              exact ⟨_, _, sp17 hI.ok hI.cls h1 hr, rfl⟩
            · (refine ClsOK.mk ?_ ?_ ?_ ?_ ?_ ?_ ?_ ?_ ?_ <;> first | exact (hI.cls).grid.fr rfl rfl rfl | exact (hI.cls).page.fr rfl rfl | exact (hI.cls).wires.fr rfl rfl rfl rfl rfl rfl rfl rfl | exact (hI.cls).net.fr rfl rfl rfl rfl | exact (hI.cls).cells.fr rfl rfl rfl | exact (hI.cls).pal.fr rfl rfl rfl | exact (hI.cls).glass.fr rfl rfl rfl rfl rfl | exact (hI.cls).ten.fr rfl | exact (hI.cls).rods.fr rfl rfl rfl | skip)
              have a1 := hI.cls.glass.layF
              have a2 := hI.cls.glass.colF
              have a3 := hI.cls.glass.thkF
              have a4 := hI.cls.glass.staF
              refine GlassOK.mk hI.cls.glass.fires ?_ ?_ ?_ ?_
              · show pL P.toGeo x1 (P.toGeo.w * P.toGeo.h) (N 45) = pL P.toGeo x1 (P.toGeo.w * P.toGeo.h) P.toGla.lay
                rw [a1]
              · show pA P.toGeo x1 (P.toGeo.w * P.toGeo.h) (N 45) (N 46) x2 = pA P.toGeo x1 (P.toGeo.w * P.toGeo.h) P.toGla.lay P.toGla.col x2
                rw [a1, a2]
              · show pA P.toGeo x1 (P.toGeo.w * P.toGeo.h) (N 45) (N 47) x3 = pA P.toGeo x1 (P.toGeo.w * P.toGeo.h) P.toGla.lay P.toGla.thk x3
                rw [a1, a3]
              · show pA P.toGeo x1 (P.toGeo.w * P.toGeo.h) (N 45) (N 48) 0 = pA P.toGeo x1 (P.toGeo.w * P.toGeo.h) P.toGla.lay P.toGla.sta 0
                rw [a1, a4]
            · intro a ha
              show upZ (upZ (upZ (upZ N (45 + 1) _) (45 + 2) _) (45 + 3) _) 45 _ a = N a
              rw [upZ_n (by omega), upZ_n (by omega), upZ_n (by omega), upZ_n (by omega)]
          · intro N hR
            refine ⟨pN 77 P.toGeo (rfN P N) x1 x2 x3 (P.toGeo.w * P.toGeo.h), c265 (v265_0 ⟨_, _, sp248 hI.ok hR h1, ?_⟩), ?_, ?_⟩
            · simp only [G261]
              rw [bZ_t hc]
              (repeat' (first | omega | exact True.intro | exact absurd True.intro ‹¬ True› | apply And.intro | intro _))
              have rFu : ∀ k, G243 (pN 77 P.toGeo (rfN P N) x1 x2 x3 k) = P.toGeo.w * P.toGeo.h := fun k => by
                show N 59 0 * N 59 1 = P.toGeo.w * P.toGeo.h
                rw [hR.w, hR.h]
              refine loopZ (a := 0) (n := P.toGeo.w * P.toGeo.h) (Q := fun k => Ev 5 265 36 [some (.ref 59), some (.int (J x1)), some (.int (J x2)), some (.int (J x3)), some (.int (J k)), none] [] (hs E (jm (rfN P N))) (_, _)) (by omega) ?_ ?_
              · refine v265_36 ?_
                rw [rF (rfN_ok hR)]
                (repeat' (first | omega | exact True.intro | exact absurd True.intro ‹¬ True› | apply And.intro | intro _))
                have h0 := loopZ (a := 0) (n := P.toGeo.w * P.toGeo.h) (Q := fun k => Ev 5 265 80 [some (.ref 59), some (.int (J x1)), some (.int (J x2)), some (.int (J x3)), some (.int (J k)), none] [] (hs E (jm (pN 77 P.toGeo (rfN P N) x1 x2 x3 k))) (some (.int (J (sizeZ P.toGeo x1))), hs E (jm (pN 77 P.toGeo (rfN P N) x1 x2 x3 (P.toGeo.w * P.toGeo.h))))) (by omega) ?_ ?_
                · have e : pN 77 P.toGeo (rfN P N) x1 x2 x3 0 = rfN P N := by
                    unfold pN
                    rw [pA_0, pA_0, pA_0, pL_0]
                    exact up4_id
                  rw [e] at h0
                  exact h0
                · have hS : Rn 249 [.ref 59, .int (J x1)] (hs E (jm (pN 77 P.toGeo (rfN P N) x1 x2 x3 (P.toGeo.w * P.toGeo.h)))) (some (.int (J (sizeZ P.toGeo x1)))) (hs E (jm (pN 77 P.toGeo (rfN P N) x1 x2 x3 (P.toGeo.w * P.toGeo.h)))) := by
                    exact sp249 hI.ok (rFu _) h1 (fun f hf => rfN_69 hf)
                  refine v265_80 ?_
                  rw [rFu]
                  (repeat' (first | omega | exact True.intro | exact absurd True.intro ‹¬ True› | apply And.intro | intro _))
                  exact ⟨_, hS, rfl⟩
                · intro k k1 k2 ih
                  have hF : isF P.toGeo k := ⟨k1, k2⟩
                  have h9 := cell_R hI.ok.geo hF
                  have hl := hI.ok.gla.lay k k1 (by omega)
                  have e0 : rfN P N 77 = P.toGla.lay := hR.lay
                  refine v265_80 ?_
                  rw [rFu, show (pN 77 P.toGeo (rfN P N) x1 x2 x3 k) 69 k = cellZ P.toGeo k from rfN_69 hF]
                  rw [show (pN 77 P.toGeo (rfN P N) x1 x2 x3 k) 77 = pL P.toGeo x1 k (rfN P N 77) from rfl, show (pN 77 P.toGeo (rfN P N) x1 x2 x3 k) 78 = pA P.toGeo x1 k (rfN P N 77) (rfN P N 78) x2 from rfl, show (pN 77 P.toGeo (rfN P N) x1 x2 x3 k) 79 = pA P.toGeo x1 k (rfN P N 77) (rfN P N 79) x3 from rfl, show (pN 77 P.toGeo (rfN P N) x1 x2 x3 k) 80 = pA P.toGeo x1 k (rfN P N 77) (rfN P N 80) 0 from rfl, pL_at]
                  by_cases q : cellZ P.toGeo k = x1
                  · have hr1 := hr k k1 k2 q
                    have e1 : rfN P N 77 k = P.toGla.lay k := by rw [e0]
                    rw [pL_add k1 q, pA_add k1 q (by omega), pA_add k1 q (by omega), pA_add k1 q (by omega)]
                    (repeat' (first | omega | exact True.intro | exact absurd True.intro ‹¬ True› | apply And.intro | intro _))
                    have e9 : upZ (upZ (upZ (upZ (pN 77 P.toGeo (rfN P N) x1 x2 x3 k) 78 (pA P.toGeo x1 (k + 1) (rfN P N 77) (rfN P N 78) x2)) 79 (pA P.toGeo x1 (k + 1) (rfN P N 77) (rfN P N 79) x3)) 80 (pA P.toGeo x1 (k + 1) (rfN P N 77) (rfN P N 80) 0)) 77 (pL P.toGeo x1 (k + 1) (rfN P N 77)) = pN 77 P.toGeo (rfN P N) x1 x2 x3 (k + 1) := up4_up4
                    rw [e9]
                    exact ih
                  · have e9 : pN 77 P.toGeo (rfN P N) x1 x2 x3 k = pN 77 P.toGeo (rfN P N) x1 x2 x3 (k + 1) := by
                      unfold pN
                      rw [pL_skip q, pA_skip q, pA_skip q, pA_skip q]
                    rw [← e9] at ih
                    (repeat' (first | omega | exact True.intro | exact absurd True.intro ‹¬ True› | apply And.intro | intro _))
                    all_goals exact ih
              · intro k k1 k2 ih
                have hF : isF P.toGeo k := ⟨k1, k2⟩
                have hce := cell_R hI.ok.geo hF
                have hl := hI.ok.gla.lay k k1 (by omega)
                refine v265_36 ?_
                rw [rF (rfN_ok hR), rfN_69 hF, (rfN_ok hR).lay]
                (repeat' (first | omega | exact True.intro | exact absurd True.intro ‹¬ True› | apply And.intro | intro _))
                · exact absurd (hr k k1 k2 ‹_›) (by omega)
                all_goals exact ih
            · have a1 : rfN P N 77 = P.toGla.lay := hR.lay
              have a2 : rfN P N 78 = P.toGla.col := hR.col
              have a3 : rfN P N 79 = P.toGla.thk := hR.thk
              have a4 : rfN P N 80 = P.toGla.sta := hR.sta
              refine RefOK.mk hR.w hR.h hR.pm hR.ws hR.wall hR.stiff hR.bear hR.fires hR.bc hR.bt hR.rods hR.pg hR.px hR.py hR.mv hR.laid hR.sold hR.heat hR.shr hR.pul hR.foe ?_ ?_ ?_ ?_ hR.rl hR.rm
              · show pL P.toGeo x1 (P.toGeo.w * P.toGeo.h) (rfN P N 77) = pL P.toGeo x1 (P.toGeo.w * P.toGeo.h) P.toGla.lay
                rw [a1]
              · show pA P.toGeo x1 (P.toGeo.w * P.toGeo.h) (rfN P N 77) (rfN P N 78) x2 = pA P.toGeo x1 (P.toGeo.w * P.toGeo.h) P.toGla.lay P.toGla.col x2
                rw [a1, a2]
              · show pA P.toGeo x1 (P.toGeo.w * P.toGeo.h) (rfN P N 77) (rfN P N 79) x3 = pA P.toGeo x1 (P.toGeo.w * P.toGeo.h) P.toGla.lay P.toGla.thk x3
                rw [a1, a3]
              · show pA P.toGeo x1 (P.toGeo.w * P.toGeo.h) (rfN P N 77) (rfN P N 80) 0 = pA P.toGeo x1 (P.toGeo.w * P.toGeo.h) P.toGla.lay P.toGla.sta 0
                rw [a1, a4]
            · intro a ha
              show upZ (upZ (upZ (upZ (rfN P N) (77 + 1) _) (77 + 2) _) (77 + 3) _) 77 _ a = N a
              rw [upZ_n (by omega), upZ_n (by omega), upZ_n (by omega), upZ_n (by omega)]
              exact rfN_cls a ha
        · refine both_q (r := .int (J (-104))) hI (QC.same (c180 (v180_0 ?_))) (fun N hR => ⟨rfN P N, c265 (v265_0 ⟨_, _, sp248 hI.ok hR h1, ?_⟩), rfN_ok hR, rfN_cls⟩)
          · simp only [G94]
            rw [g1, bZ_t hc]
            (repeat' (first | omega | exact True.intro | exact absurd True.intro ‹¬ True› | apply And.intro | intro _))
            refine ⟨_, sp16 hI.ok hI.cls h1, ?_⟩
            rw [bZ_f hr]
            ((repeat' (first | omega | exact True.intro | exact absurd True.intro ‹¬ True› | apply And.intro | intro _)) <;> rfl)
          · simp only [G261]
            rw [bZ_t hc]
            (repeat' (first | omega | exact True.intro | exact absurd True.intro ‹¬ True› | apply And.intro | intro _))
            refine loopZ (a := 0) (n := P.toGeo.w * P.toGeo.h) (Q := fun k => (∀ f, 0 ≤ f → f < k → cellZ P.toGeo f = x1 → P.toGla.lay f < 12) → Ev 5 265 36 [some (.ref 59), some (.int (J x1)), some (.int (J x2)), some (.int (J x3)), some (.int (J k)), none] [] (hs E (jm (rfN P N))) (_, _)) (by omega) ?_ ?_ (fun f h1 h2 => absurd h2 (by omega))
            · intro h
              exact absurd h hr
            · intro k k1 k2 ih h
              have hF : isF P.toGeo k := ⟨k1, k2⟩
              have hce := cell_R hI.ok.geo hF
              have hl := hI.ok.gla.lay k k1 (by omega)
              refine v265_36 ?_
              rw [rF (rfN_ok hR), rfN_69 hF, (rfN_ok hR).lay]
              (repeat' (first | omega | exact True.intro | exact absurd True.intro ‹¬ True› | apply And.intro | intro _))
              · rfl
              · exact ih ((allZ_succ (p := fun f => cellZ P.toGeo f = x1 → P.toGla.lay f < 12) k1).mpr ⟨h, fun _ => by omega⟩)
              · exact ih ((allZ_succ (p := fun f => cellZ P.toGeo f = x1 → P.toGla.lay f < 12) k1).mpr ⟨h, fun q => absurd q ‹_›⟩)
      · refine both_q (r := .int (J (-102))) hI (QC.same (c180 (v180_0 ?_))) (fun N hR => ⟨rfN P N, c265 (v265_0 ⟨_, _, sp248 hI.ok hR h1, ?_⟩), rfN_ok hR, rfN_cls⟩)
        · simp only [G94]
          rw [g1, bZ_t hc]
          ((repeat' (first | omega | exact True.intro | exact absurd True.intro ‹¬ True› | apply And.intro | intro _)) <;> rfl)
        · simp only [G261]
          rw [bZ_t hc]
          ((repeat' (first | omega | exact True.intro | exact absurd True.intro ‹¬ True› | apply And.intro | intro _)) <;> rfl)
    · refine both_q (r := .int (J (-101))) hI (QC.same (c180 (v180_0 ?_))) (fun N hR => ⟨rfN P N, c265 (v265_0 ⟨_, _, sp248 hI.ok hR h1, ?_⟩), rfN_ok hR, rfN_cls⟩)
      · simp only [G94]
        rw [g1, bZ_t hc]
        ((repeat' (first | omega | exact True.intro | exact absurd True.intro ‹¬ True› | apply And.intro | intro _)) <;> rfl)
      · simp only [G261]
        rw [bZ_t hc]
        ((repeat' (first | omega | exact True.intro | exact absurd True.intro ‹¬ True› | apply And.intro | intro _)) <;> rfl)
  · refine both_q (r := .int (J (-101))) hI (QC.same (c180 (v180_0 ?_))) (fun N hR => ⟨rfN P N, c265 (v265_0 ⟨_, _, sp248 hI.ok hR h1, ?_⟩), rfN_ok hR, rfN_cls⟩)
    · rw [g1, bZ_f hc]
      ((repeat' (first | omega | exact True.intro | exact absurd True.intro ‹¬ True› | apply And.intro | intro _)) <;> rfl)
    · rw [bZ_f hc]
      ((repeat' (first | omega | exact True.intro | exact absurd True.intro ‹¬ True› | apply And.intro | intro _)) <;> rfl)
end FIM
