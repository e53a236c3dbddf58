/-! plate -/
section PLT
variable {E : gw_N} {N : NM} {P : Pic}
theorem sp37 {w h : Int} (hw : 2 ≤ w ∧ w ≤ 8) (hh : 2 ≤ h ∧ h ≤ 8) : ∃ N', Rn 37 [.ref 9, .int (J w), .int (J h)] (hs E (jm N)) none (hs E (jm N')) ∧ (N' 9 2 = w ∧ N' 9 3 = h ∧ (∀ f, 0 ≤ f → f < w * h → N' 10 f = f % w) ∧ (∀ f, 0 ≤ f → f < w * h → N' 11 f = f / w)) ∧ ∀ a, (a < 9 ∨ 11 < a) → N' a = N a := by
  have hwh : w * h ≤ 64 := by
    have h1 : w * h ≤ 8 * h := Int.mul_le_mul_of_nonneg_right hw.2 (by omega)
    omega
  -- what stands when k fields have been numbered
  have key := loopZ (a := 0) (n := h) (Q := fun y => ∀ N1, (N1 9 2 = w ∧ N1 9 3 = h) → (∀ f, 0 ≤ f → f < w * y → N1 10 f = f % w ∧ N1 11 f = f / w) → (∀ a, (a < 9 ∨ 11 < a) → N1 a = N a) → ∃ N', ((N' 9 2 = w ∧ N' 9 3 = h ∧ (∀ f, 0 ≤ f → f < w * h → N' 10 f = f % w) ∧ (∀ f, 0 ≤ f → f < w * h → N' 11 f = f / w)) ∧ ∀ a, (a < 9 ∨ 11 < a) → N' a = N a) ∧ Ev 1 37 12 [some (.ref 9), some (.int (J w)), some (.int (J h)), some (.int (J y)), none] [] (hs E (jm N1)) (none, hs E (jm N'))) (by omega) ?_ ?_
  · obtain ⟨N', k1, k2⟩ := key (upZ N 9 (updZ (updZ (N 9) 2 w) 3 h)) ⟨rfl, rfl⟩ (fun f f1 f2 => absurd f2 (by rw [Int.mul_zero]; omega)) (fun a ha => upZ_n (by omega))
    exact ⟨N', c37 (v37_0 k2), k1⟩
  · intro N1 h1 h2 h3
    exact ⟨N1, ⟨⟨h1.1, h1.2, fun f f1 f2 => (h2 f f1 f2).1, fun f f1 f2 => (h2 f f1 f2).2⟩, h3⟩, v37_12 ⟨by omega, by omega, fun _ => rfl, fun z => absurd (Int.le_refl _) z⟩⟩
  · intro y y1 y2 ih N1 h1 h2 h3
    have hy1 : w * (y + 1) = w * y + w := by rw [Int.mul_add, Int.mul_one]
    have hyh : w * (y + 1) ≤ w * h := Int.mul_le_mul_of_nonneg_left (by omega) (by omega)
    have hy0 : 0 ≤ w * y := Int.mul_nonneg (by omega) y1
    have inner := loopZ (a := 0) (n := w) (Q := fun x => ∀ N1, (N1 9 2 = w ∧ N1 9 3 = h) → (∀ f, 0 ≤ f → f < w * y + x → N1 10 f = f % w ∧ N1 11 f = f / w) → (∀ a, (a < 9 ∨ 11 < a) → N1 a = N a) → ∃ N', ((N' 9 2 = w ∧ N' 9 3 = h ∧ (∀ f, 0 ≤ f → f < w * h → N' 10 f = f % w) ∧ (∀ f, 0 ≤ f → f < w * h → N' 11 f = f / w)) ∧ ∀ a, (a < 9 ∨ 11 < a) → N' a = N a) ∧ Ev 1 37 26 [some (.ref 9), some (.int (J w)), some (.int (J h)), some (.int (J y)), some (.int (J x))] [] (hs E (jm N1)) (none, hs E (jm N'))) (by omega) ?_ ?_
    · obtain ⟨N', k1, k2⟩ := inner N1 h1 (by rw [Int.add_zero]; exact h2) h3
      exact ⟨N', k1, v37_12 ⟨by omega, by omega, fun z => absurd z (by omega), fun _ => ⟨fun z => absurd z (by omega), fun _ => k2⟩⟩⟩
    · intro N2 g1 g2 g3
      obtain ⟨N', k1, k2⟩ := ih N2 g1 (by rw [hy1]; exact g2) g3
      exact ⟨N', k1, v37_26 ⟨by omega, by omega, fun _ => k2, fun z => absurd (Int.le_refl _) z⟩⟩
    · intro x x1 x2 ih2 N2 g1 g2 g3
      have em : (w * y + x) % w = x := by rw [Int.add_comm, Int.add_mul_emod_self_left]; exact Int.emod_eq_of_lt x1 x2
      have ed : (w * y + x) / w = y := by rw [Int.add_comm, Int.add_mul_ediv_left _ _ (by omega), Int.ediv_eq_zero_of_lt x1 x2, Int.zero_add]
      have hq9 := ih2 (upZ (upZ N2 10 (updZ (N2 10) (w * y + x) x)) 11 (updZ (N2 11) (w * y + x) y)) g1 ?_ (fun a ha => by rw [upZ_n (by omega), upZ_n (by omega)]; exact g3 a ha)
      · obtain ⟨N', k1, k2⟩ := hq9
        exact ⟨N', k1, v37_26 ⟨by omega, by omega, fun z => absurd z (by omega), fun _ => ⟨fun z => absurd z (by omega), fun _ => ⟨by omega, k2⟩⟩⟩⟩
      · intro f f1 f2
        show updZ (N2 10) (w * y + x) x f = _ ∧ updZ (N2 11) (w * y + x) y f = _
        by_cases e : f = w * y + x
        · rw [e, updZ_s, updZ_s, em, ed]
          exact ⟨rfl, rfl⟩
        · rw [updZ_n e, updZ_n e]
          exact g2 f f1 (by omega)
theorem sp210 {w h : Int} : ∃ g, (∀ f, 0 ≤ f → f < 64 → g f = 0) ∧ (∀ f, ¬ (0 ≤ f ∧ f < 64) → g f = N 77 f) ∧ Rn 210 [.ref 59, .int (J w), .int (J h)] (hs E (jm N)) none (hs E (jm (upZ (upZ N 77 g) 59 (updZ (updZ (updZ (updZ (updZ (updZ (updZ (N 59) 0 w) 1 h) 4 0) 34 0) 35 0) 29 0) 36 0)))) := by
  refine ⟨fiF (N 77) 0 64, fun f f1 f2 => fiF_in ⟨f1, f2⟩, fun f hf => if_neg hf, c210 (v210_0 ?_)⟩
  have h0 := loopZ (a := 0) (n := 64) (Q := fun k => Ev 1 210 17 [some (.ref 59), none, none, some (.int (J k))] [] (hs E (jm (upZ (upZ N 59 (updZ (updZ (updZ (N 59) 0 w) 1 h) 4 0)) 77 (fiF (N 77) 0 k)))) (none, hs E (jm (upZ (upZ N 77 (fiF (N 77) 0 64)) 59 (updZ (updZ (updZ (updZ (updZ (updZ (updZ (N 59) 0 w) 1 h) 4 0) 34 0) 35 0) 29 0) 36 0))))) (by decide) ?_ ?_
  · rw [fiF_0] at h0
    have e : upZ (upZ N 59 (updZ (updZ (updZ (N 59) 0 w) 1 h) 4 0)) 77 (N 77) = upZ N 59 (updZ (updZ (updZ (N 59) 0 w) 1 h) 4 0) := upZ_id (N := upZ N 59 (updZ (updZ (updZ (N 59) 0 w) 1 h) 4 0)) (a := 77)
    rw [e] at h0
    exact h0
  · refine v210_17 ⟨by decide, fun _ => ?_, fun z => absurd (Int.le_refl _) z⟩
    rw [upZ_cm (a := 59) (c := 77) (by decide), upZ_up]
    rfl
  · intro k k1 k2 ih
    refine v210_17 ⟨by omega, fun z => absurd z (by omega), fun _ => ⟨⟨k1, k2⟩, ?_⟩⟩
    rw [upZ_s, upZ_up, fiF_s k1]
    exact ih
theorem op_plate {x1 x2 : Int} (hI : GInv P N) (h1 : R x1) (h2 : R x2) : Both E N 161 211 [.int (J x1), .int (J x2)] := by
  have e36 : ∀ N x, G36 N x = bZ (2 ≤ x ∧ x ≤ 8) := by
    intro N x
    unfold G36
    by_cases h : 2 ≤ x ∧ x ≤ 8
    · rw [bZ_t h]
      (repeat' split) <;> omega
    · rw [bZ_f h]
      (repeat' split) <;> omega
  have q36 : ∀ N x, R x → Q36 N x := by
    intro N x hx
    unfold Q36
    (repeat' (first | omega | exact True.intro | exact absurd True.intro ‹¬ True› | apply And.intro | intro _))
  by_cases hw : 2 ≤ x1 ∧ x1 ≤ 8
  · by_cases hh : 2 ≤ x2 ∧ x2 ≤ 8
    · have hG' : GeoR (Geo.mk x1 x2 0 P.toGeo.px P.toGeo.py P.toGeo.mv P.toGeo.laid P.toGeo.sold) := GeoR.mk hw hh ⟨Int.le_refl _, (by decide : (0 : Int) ≤ 30)⟩ (fun v a b => absurd b (by show ¬ v < 0; omega)) (fun v a b => absurd b (by show ¬ v < 0; omega)) (fun v a b => absurd b (by show ¬ v < 0; omega)) (fun v i a b => absurd b (by show ¬ v < 0; omega)) (fun v i a b => absurd b (by show ¬ v < 0; omega)) (fun v i a b => absurd b (by show ¬ v < 0; omega))
      have hL' : GlaR (Gla.mk 0 (fiF (N 45) 0 64) P.toGla.col P.toGla.thk P.toGla.sta) := by
        refine GlaR.mk ?_ hI.ok.gla.col hI.ok.gla.thk hI.ok.gla.sta ?_
        · intro f f1 f2
          show 0 ≤ fiF (N 45) 0 64 f ∧ fiF (N 45) 0 64 f ≤ 12
          rw [fiF_in ⟨f1, f2⟩]
          decide
        · intro f k f1 f2 k1 k2
          replace k2 : k < fiF (N 45) 0 64 f := k2
          rw [fiF_in ⟨f1, f2⟩] at k2
          omega
      refine both (r := .int (J (x1 * x2))) (P' := Pic.mk (Geo.mk x1 x2 0 P.toGeo.px P.toGeo.py P.toGeo.mv P.toGeo.laid P.toGeo.sold) P.toPag P.toPal (Gla.mk 0 (fiF (N 45) 0 64) P.toGla.col P.toGla.thk P.toGla.sta) (Ten.mk 0 0) (Rod.mk 0 P.toRod.rl P.toRod.rm)) hI
        (PicOK.mk hG' hI.ok.pag hI.ok.pal hL' (TenR.mk (by show (0 : Int) ≤ 0 ∧ (0 : Int) < 8; decide) (by show (0 : Int) ≤ 0 ∧ (0 : Int) ≤ 99; decide)) (RodR.mk (by show (0 : Int) ≤ 0 ∧ (0 : Int) ≤ 8; decide) (fun k a b => absurd b (by show ¬ k < 0; omega)) (fun k a b => absurd b (by show ¬ k < 0; omega)))) ?_ ?_
      · obtain ⟨N1, r1, ⟨g1, g2, g3, g4⟩, s1⟩ := sp37 (E := E) (N := N) hw hh
        -- what stands before renew
        have hC := hI.cls
        have r142 : Rn 142 [.ref 14] (hs E (jm N1)) none (hs E (jm (upZ N1 14 (updZ (N1 14) 7 0)))) := c142 (v142_0 rfl)
        have r9 : Rn 9 [.ref 44] (hs E (jm (upZ N1 14 (updZ (N1 14) 7 0)))) none (hs E (jm (upZ (upZ (upZ N1 14 (updZ (N1 14) 7 0)) 45 (fiF (N1 45) 0 64)) 44 (updZ (N1 44) 9 0)))) := c9 (v9_0 ⟨_, fi45, rfl⟩)
        have r129 : Rn 129 [.ref 53, .int (J 0), .int (J 0)] (hs E (jm (upZ (upZ (upZ N1 14 (updZ (N1 14) 7 0)) 45 (fiF (N1 45) 0 64)) 44 (updZ (N1 44) 9 0)))) none (hs E (jm (upZ (upZ (upZ (upZ N1 14 (updZ (N1 14) 7 0)) 45 (fiF (N1 45) 0 64)) 44 (updZ (N1 44) 9 0)) 53 (updZ (updZ (N1 53) 3 0) 4 0)))) := c129 (v129_0 rfl)
        have r118 : Rn 118 [.ref 54] (hs E (jm (upZ (upZ (upZ (upZ N1 14 (updZ (N1 14) 7 0)) 45 (fiF (N1 45) 0 64)) 44 (updZ (N1 44) 9 0)) 53 (updZ (updZ (N1 53) 3 0) 4 0)))) none (hs E (jm (upZ (upZ (upZ (upZ (upZ N1 14 (updZ (N1 14) 7 0)) 45 (fiF (N1 45) 0 64)) 44 (updZ (N1 44) 9 0)) 53 (updZ (updZ (N1 53) 3 0) 4 0)) 54 (updZ (N1 54) 4 0)))) := c118 (v118_0 rfl)
        obtain ⟨N', r, k1, k2⟩ := renew_ok (E := E) (N := upZ (upZ (upZ (upZ (upZ N1 14 (updZ (N1 14) 7 0)) 45 (fiF (N1 45) 0 64)) 44 (updZ (N1 44) 9 0)) 53 (updZ (updZ (N1 53) 3 0) 4 0)) 54 (updZ (N1 54) 4 0)) (P' := Pic.mk (Geo.mk x1 x2 0 P.toGeo.px P.toGeo.py P.toGeo.mv P.toGeo.laid P.toGeo.sold) P.toPag P.toPal (Gla.mk 0 (fiF (N 45) 0 64) P.toGla.col P.toGla.thk P.toGla.sta) (Ten.mk 0 0) (Rod.mk 0 P.toRod.rl P.toRod.rm)) hG'
          (GridOK.mk g1 g2 g3 g4) (hC.page.fr (s1 12 (by decide)) (s1 13 (by decide)))
          (WiresOK.mk rfl (fun v a b => absurd b (by show ¬ v < 0; omega)) (fun v a b => absurd b (by show ¬ v < 0; omega)) (fun v a b => absurd b (by show ¬ v < 0; omega)) (fun v a b => absurd b (by show ¬ v < 0; omega)) (fun v a b => absurd b (by show ¬ v < 0; omega)) (fun v i a b => absurd b (by show ¬ v < 0; omega)) (fun v i a b => absurd b (by show ¬ v < 0; omega)))
          (hC.pal.fr (s1 41 (by decide)) (s1 42 (by decide)) (s1 43 (by decide)))
          (GlassOK.mk rfl (by show fiF (N1 45) 0 64 = fiF (N 45) 0 64; rw [s1 45 (by decide)]) ((s1 46 (by decide)).trans hC.glass.colF) ((s1 47 (by decide)).trans hC.glass.thkF) ((s1 48 (by decide)).trans hC.glass.staF))
          (TenOK.mk rfl rfl) (RodsOK.mk rfl (fun k a b => absurd b (by show ¬ k < 0; omega)) (fun k a b => absurd b (by show ¬ k < 0; omega)))
        refine ⟨N', c161 (v161_0 ?_), k1, fun a ha => ?_⟩
        · rw [e36, e36, bZ_t hw, bZ_t hh]
          refine ⟨q36 _ _ h1, by decide, fun z => absurd z (by decide), fun _ => ⟨q36 _ _ h2, by decide, fun z => absurd z (by decide), fun _ => ⟨N1, r1, _, r142, _, r9, _, r129, _, r118, N', r, ?_⟩⟩⟩
          rw [cF k1.grid]
          rfl
        · rw [k2 a (by omega), upZ_n (by omega), upZ_n (by omega), upZ_n (by omega), upZ_n (by omega), upZ_n (by omega)]
          exact s1 a (by omega)
      · intro N9 h
        obtain ⟨g, z1, z2, r⟩ := sp210 (E := E) (N := N9) (w := x1) (h := x2)
        have eg : g = fiF (N 45) 0 64 := by
          funext f
          by_cases q : 0 ≤ f ∧ f < 64
          · rw [z1 f q.1 q.2, fiF_in q]
          · rw [z2 f q, h.lay, ← hI.cls.glass.layF]
            exact (if_neg q).symm
        subst eg
        refine ⟨upZ (upZ N9 77 (fiF (N 45) 0 64)) 59 (updZ (updZ (updZ (updZ (updZ (updZ (updZ (N9 59) 0 x1) 1 x2) 4 0) 34 0) 35 0) 29 0) 36 0), c211 (v211_0 ?_), ?_, ?_⟩
        · rw [if_pos hw, if_pos hh]
          exact ⟨h1, fun z => absurd z (by decide), fun _ => ⟨h2, fun z => absurd z (by decide), fun _ => ⟨_, r, rfl⟩⟩⟩
        · (refine RefOK.mk ?_ ?_ ?_ ?_ ?_ ?_ ?_ ?_ ?_ ?_ ?_ ?_ ?_ ?_ ?_ ?_ ?_ ?_ ?_ ?_ ?_ ?_ ?_ ?_ ?_ ?_ ?_ <;> simp [Pic.setGeo, Pic.setPag, Pic.setPal, Pic.setGla, Pic.setTen, Pic.setRod, Pic.mk, Pic.toGeo, Pic.toPag, Pic.toPal, Pic.toGla, Pic.toTen, Pic.toRod, Geo.mk, Geo.w, Geo.h, Geo.ws, Geo.px, Geo.py, Geo.mv, Geo.laid, Geo.sold, Pag.mk, Pag.pm, Pag.pg, Pal.mk, Pal.wall, Pal.stiff, Pal.bear, Pal.heat, Pal.shr, Pal.pul, Pal.foe, Gla.mk, Gla.fires, Gla.lay, Gla.col, Gla.thk, Gla.sta, Ten.mk, Ten.bc, Ten.bt, Rod.mk, Rod.rods, Rod.rl, Rod.rm, upZ, updZ, (h).w, (h).h, (h).pm, (h).ws, (h).wall, (h).stiff, (h).bear, (h).fires, (h).bc, (h).bt, (h).rods, (h).pg, (h).px, (h).py, (h).mv, (h).laid, (h).sold, (h).heat, (h).shr, (h).pul, (h).foe, (h).lay, (h).col, (h).thk, (h).sta, (h).rl, (h).rm])
        · (intro a ha; repeat rw [upZ_n (by omega)])
    · refine both_same (r := .int (J (-102))) hI (c161 (v161_0 ?_)) (c211 (v211_0 ?_))
      · rw [e36, e36, bZ_t hw, bZ_f hh]
        exact ⟨q36 _ _ h1, by decide, fun z => absurd z (by decide), fun _ => ⟨q36 _ _ h2, by decide, fun _ => rfl, fun z => absurd rfl z⟩⟩
      · rw [if_pos hw, if_neg hh]
        exact ⟨h1, fun z => absurd z (by decide), fun _ => ⟨h2, fun _ => rfl, fun z => absurd rfl z⟩⟩
  · refine both_same (r := .int (J (-102))) hI (c161 (v161_0 ?_)) (c211 (v211_0 ?_))
    · rw [e36, bZ_f hw]
      exact ⟨q36 _ _ h1, by decide, fun _ => rfl, fun z => absurd rfl z⟩
    · rw [if_neg hw]
      exact ⟨h1, fun _ => rfl, fun z => absurd rfl z⟩
end PLT
