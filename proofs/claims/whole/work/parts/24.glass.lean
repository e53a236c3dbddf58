/-! foes, count, field, layer -/
section GL
variable {E : gw_N} {N : NM} {P : Pic}
theorem op_foes {x1 x2 x3 : Int} (hI : GInv P N) (h1 : R x1) (h2 : R x2) (h3 : x3 = 0 ∨ x3 = 1) : Both E N 178 263 [.int (J x1), .int (J x2), .int (J x3)] := by
  by_cases hc : (0 ≤ x1 ∧ x1 < 8) ∧ 0 ≤ x2 ∧ x2 < 8
  · by_cases he : x1 = x2
    · refine both_same (r := .int (J (-102))) hI (c178 (v178_0 ?_)) (c263 (v263_0 ?_)) <;> simp only [G94, G261] <;> ((repeat' (first | omega | exact True.intro | exact absurd True.intro ‹¬ True› | apply And.intro | intro _)) <;> rfl)
    · have hfo := hI.ok.pal.foe (8 * x1 + x2) (by omega) (by omega)
      have hv1 := hI.cls.pal.foeR x1 hc.1.1 hc.1.2
      have hv2 := hI.cls.pal.foeR x2 hc.2.1 hc.2.2
      refine both (r := .int (J (P.toPal.foe (8 * x1 + x2)))) (P' := (P.setPal (Pal.mk P.toPal.wall P.toPal.stiff P.toPal.bear P.toPal.heat P.toPal.shr P.toPal.pul (updZ (updZ P.toPal.foe (8 * x1 + x2) x3) (8 * x2 + x1) x3)))) hI (PicOK.mk hI.ok.geo hI.ok.pag (PalR.mk hI.ok.pal.heat hI.ok.pal.shr hI.ok.pal.pul ?_ hI.ok.pal.wall hI.ok.pal.stiff hI.ok.pal.bear) hI.ok.gla hI.ok.ten hI.ok.rod) ?_ ?_
      · intro i i1 i2
        show updZ (updZ P.toPal.foe (8 * x1 + x2) x3) (8 * x2 + x1) x3 i = 0 ∨ updZ (updZ P.toPal.foe (8 * x1 + x2) x3) (8 * x2 + x1) x3 i = 1
        have := hI.ok.pal.foe i i1 i2
        unfold updZ
        split
        · exact h3
        · split
          · exact h3
          · exact this
      · have hb : zand (zshr (N 42 x1) x2) 1 = P.toPal.foe (8 * x1 + x2) := (zbit hv1 hc.2).trans (hI.cls.pal.foe x1 x2 hc.1.1 hc.1.2 hc.2.1 hc.2.2)
        have key : ∃ A B : Int, (0 ≤ A ∧ A < 256) ∧ (0 ≤ B ∧ B < 256) ∧ (∀ c, 0 ≤ c → c < 8 → bitZ A c = if c = x2 then x3 else bitZ (N 42 x1) c) ∧ (∀ c, 0 ≤ c → c < 8 → bitZ B c = if c = x1 then x3 else bitZ (N 42 x2) c) ∧
            Rn 107 [.ref 40, .int (J x1), .int (J x2), .int (J x3)] (hs E (jm N)) none (hs E (jm (upZ N 42 (updZ (updZ (N 42) x1 A) x2 B)))) := by
          rcases h3 with h3 | h3
          · subst h3
            refine ⟨_, _, (zclr hv1 hc.2).1, (zclr hv2 hc.1).1, (zclr hv1 hc.2).2, (zclr hv2 hc.1).2, c107 (v107_0 ?_)⟩
            rw [updZ_n (by omega : ¬ x2 = x1)]
            ((repeat' (first | omega | exact True.intro | exact absurd True.intro ‹¬ True› | apply And.intro | intro _)) <;> rfl)
          · subst h3
            refine ⟨_, _, (zset hv1 hc.2).1, (zset hv2 hc.1).1, (zset hv1 hc.2).2, (zset hv2 hc.1).2, c107 (v107_0 ?_)⟩
            rw [updZ_n (by omega : ¬ x2 = x1), updZ_n (by omega : ¬ x2 = x1)]
            ((repeat' (first | omega | exact True.intro | exact absurd True.intro ‹¬ True› | apply And.intro | intro _)) <;> rfl)
        obtain ⟨A, B, hA, hB, kA, kB, hr⟩ := key
        refine ⟨upZ N 42 (updZ (updZ (N 42) x1 A) x2 B), c178 (v178_0 ?_), ?_, ?_⟩
        · simp only [G94, G106, G206, hb]
          (repeat' (first | omega | exact True.intro | exact absurd True.intro ‹¬ True› | apply And.intro | intro _))
          refine ⟨_, hr, ?_⟩
          rcases hfo with h | h <;> simp [h]
        · (refine ClsOK.mk ?_ ?_ ?_ ?_ ?_ ?_ ?_ ?_ ?_ <;> first | exact (hI.cls).grid.fr rfl rfl rfl | exact (hI.cls).page.fr rfl rfl | exact (hI.cls).wires.fr rfl rfl rfl rfl rfl rfl rfl rfl | exact (hI.cls).net.fr rfl rfl rfl rfl | exact (hI.cls).cells.fr rfl rfl rfl | exact (hI.cls).pal.fr rfl rfl rfl | exact (hI.cls).glass.fr rfl rfl rfl rfl rfl | exact (hI.cls).ten.fr rfl | exact (hI.cls).rods.fr rfl rfl rfl | skip)
          refine PalOK.mk hI.cls.pal.heat hI.cls.pal.shr hI.cls.pal.pul ?_ ?_ hI.cls.pal.wall hI.cls.pal.stiff hI.cls.pal.bear
          · intro a b a1 a2 b1 b2
            show bitZ (updZ (updZ (N 42) x1 A) x2 B a) b = updZ (updZ P.toPal.foe (8 * x1 + x2) x3) (8 * x2 + x1) x3 (8 * a + b)
            have h0 := hI.cls.pal.foe a b a1 a2 b1 b2
            by_cases ea : a = x2
            · subst ea
              rw [updZ_s, kB b b1 b2]
              by_cases eb : b = x1
              · rw [if_pos eb, eb, updZ_s]
              · rw [if_neg eb, updZ_n (by omega), updZ_n (by omega)]; exact h0
            · rw [updZ_n ea]
              by_cases ea' : a = x1
              · subst ea'
                rw [updZ_s, kA b b1 b2]
                by_cases eb : b = x2
                · rw [if_pos eb, eb, updZ_n (by omega), updZ_s]
                · rw [if_neg eb, updZ_n (by omega), updZ_n (by omega)]; exact h0
              · rw [updZ_n ea', updZ_n (by omega), updZ_n (by omega)]; exact h0
          · intro a a1 a2
            show 0 ≤ updZ (updZ (N 42) x1 A) x2 B a ∧ updZ (updZ (N 42) x1 A) x2 B a < 256
            have h0 := hI.cls.pal.foeR a a1 a2
            unfold updZ
            split
            · exact hB
            · split
              · exact hA
              · exact h0
        · (intro a ha; repeat rw [upZ_n (by omega)])
      · intro N h
        refine ⟨upZ N 76 (updZ (updZ (N 76) (8 * x1 + x2) x3) (8 * x2 + x1) x3), c263 (v263_0 ?_), ?_, ?_⟩
        · simp only [G261, h.foe]
          (repeat' (first | omega | exact True.intro | exact absurd True.intro ‹¬ True› | apply And.intro | intro _))
          · simp [*]
          · have : P.toPal.foe (8 * x1 + x2) = 1 := by omega
            rw [this]
        · (refine RefOK.mk ?_ ?_ ?_ ?_ ?_ ?_ ?_ ?_ ?_ ?_ ?_ ?_ ?_ ?_ ?_ ?_ ?_ ?_ ?_ ?_ ?_ ?_ ?_ ?_ ?_ ?_ ?_ <;> simp [Pic.setGeo, Pic.setPag, Pic.setPal, Pic.setGla, Pic.setTen, Pic.setRod, Pic.mk, Pic.toGeo, Pic.toPag, Pic.toPal, Pic.toGla, Pic.toTen, Pic.toRod, Geo.mk, Geo.w, Geo.h, Geo.ws, Geo.px, Geo.py, Geo.mv, Geo.laid, Geo.sold, Pag.mk, Pag.pm, Pag.pg, Pal.mk, Pal.wall, Pal.stiff, Pal.bear, Pal.heat, Pal.shr, Pal.pul, Pal.foe, Gla.mk, Gla.fires, Gla.lay, Gla.col, Gla.thk, Gla.sta, Ten.mk, Ten.bc, Ten.bt, Rod.mk, Rod.rods, Rod.rl, Rod.rm, upZ, updZ, (h).w, (h).h, (h).pm, (h).ws, (h).wall, (h).stiff, (h).bear, (h).fires, (h).bc, (h).bt, (h).rods, (h).pg, (h).px, (h).py, (h).mv, (h).laid, (h).sold, (h).heat, (h).shr, (h).pul, (h).foe, (h).lay, (h).col, (h).thk, (h).sta, (h).rl, (h).rm])
        · (intro a ha; repeat rw [upZ_n (by omega)])
  · refine both_same (r := .int (J (-101))) hI (c178 (v178_0 ?_)) (c263 (v263_0 ?_)) <;> simp only [G94, G261] <;> ((repeat' (first | omega | exact True.intro | exact absurd True.intro ‹¬ True› | apply And.intro | intro _)) <;> rfl)
theorem fld_bd {G : Geo} (h : GeoR G) : 4 ≤ G.w * G.h ∧ G.w * G.h ≤ 64 := by
  have h1 := h.w
  have h2 := h.h
  obtain e | e | e | e | e | e | e : G.w = 2 ∨ G.w = 3 ∨ G.w = 4 ∨ G.w = 5 ∨ G.w = 6 ∨ G.w = 7 ∨ G.w = 8 := by omega
  all_goals (rw [e]; omega)
theorem fld_at {G : Geo} (h : GeoR G) {x y : Int} (hx : 0 ≤ x ∧ x < G.w) (hy : 0 ≤ y ∧ y < G.h) : (0 ≤ G.w * y + x ∧ G.w * y + x < G.w * G.h) ∧ (G.w * y + x) % G.w = x ∧ (G.w * y + x) / G.w = y := by
  have h1 := h.w
  have h2 : 0 ≤ G.w * y := Int.mul_nonneg (by omega) hy.1
  have h3 : G.w * (y + 1) ≤ G.w * G.h := Int.mul_le_mul_of_nonneg_left (by omega) (by omega)
  rw [Int.mul_add, Int.mul_one] at h3
  refine ⟨by omega, ?_, ?_⟩
  · rw [Int.mul_add_emod_self_left]
    exact Int.emod_eq_of_lt hx.1 hx.2
  · rw [Int.mul_add_ediv_left _ _ (by omega), Int.ediv_eq_zero_of_lt hx.1 hx.2]; omega
theorem fld_xy {G : Geo} (h : GeoR G) {f : Int} (hf : 0 ≤ f ∧ f < G.w * G.h) : (0 ≤ f % G.w ∧ f % G.w < G.w) ∧ (0 ≤ f / G.w ∧ f / G.w < G.h) ∧ G.w * (f / G.w) + f % G.w = f := by
  have h1 := h.w
  refine ⟨⟨Int.emod_nonneg _ (by omega), Int.emod_lt_of_pos _ (by omega)⟩, ⟨Int.ediv_nonneg hf.1 (by omega), ?_⟩, Int.mul_ediv_add_emod _ _⟩
  exact Int.ediv_lt_of_lt_mul (by omega) (by rw [Int.mul_comm]; exact hf.2)
def highZ (G : Gla) (f : Int) : Int := sumZ (G.lay f) (fun k => G.thk (12 * f + k))
theorem sp13 {x1 : Int} (hI : PicOK P) (hC : GlassOK P.toGla N) (hx : 0 ≤ x1 ∧ x1 < 64) :
    Rn 13 [.ref 44, .int (J x1)] (hs E (jm N)) (some (.int (J (highZ P.toGla x1)))) (hs E (jm N)) := by
  have e := hC.lay x1 hx.1 hx.2
  have hl := hI.gla.lay x1 hx.1 hx.2
  unfold highZ
  refine c13 (v13_0 ?_)
  refine loopZ (a := 0) (n := P.toGla.lay x1) (Q := fun k => Ev 1 13 4 [some (.ref 44), some (.int (J x1)), some (.int (J (sumZ k (fun k => P.toGla.thk (12 * x1 + k))))), some (.int (J k))] [] (hs E (jm N)) (_, _)) hl.1 ?_ ?_
  · refine v13_4 ?_
    ((repeat' (first | omega | exact True.intro | exact absurd True.intro ‹¬ True› | apply And.intro | intro _)) <;> rfl)
  · intro k h1 h2 ih
    refine v13_4 ?_
    rw [hC.thk _ (by omega) (by omega)]
    (repeat' (first | omega | exact True.intro | exact absurd True.intro ‹¬ True› | apply And.intro | intro _))
    rw [sumZ_succ h1] at ih
    exact ih
theorem sp267 {x1 : Int} (hI : PicOK P) (hR : RefOK P N) (hx : 0 ≤ x1 ∧ x1 < 64) :
    Rn 267 [.ref 59, .int (J x1)] (hs E (jm N)) (some (.int (J (highZ P.toGla x1)))) (hs E (jm N)) := by
  have e := hR.lay
  have hl := hI.gla.lay x1 hx.1 hx.2
  unfold highZ
  refine c267 (v267_0 ?_)
  refine loopZ (a := 0) (n := P.toGla.lay x1) (Q := fun k => Ev 1 267 4 [some (.ref 59), some (.int (J x1)), some (.int (J (sumZ k (fun k => P.toGla.thk (12 * x1 + k))))), some (.int (J k))] [] (hs E (jm N)) (_, _)) hl.1 ?_ ?_
  · refine v267_4 ?_
    rw [e]
    ((repeat' (first | omega | exact True.intro | exact absurd True.intro ‹¬ True› | apply And.intro | intro _)) <;> rfl)
  · intro k h1 h2 ih
    refine v267_4 ?_
    rw [e, hR.thk]
    (repeat' (first | omega | exact True.intro | exact absurd True.intro ‹¬ True› | apply And.intro | intro _))
    rw [sumZ_succ h1] at ih
    exact ih
theorem op_field {x1 x2 x3 : Int} (hI : GInv P N) (h1 : R x1) (h2 : R x2) (h3 : R x3) : Both E N 182 268 [.int (J x1), .int (J x2), .int (J x3)] := by
  have hw := hI.ok.geo.w
  have hh := hI.ok.geo.h
  have e1 := hI.cls.grid.w
  have e2 := hI.cls.grid.h
  have e3 := hI.ref.w
  have e4 := hI.ref.h
  have hb := fld_bd hI.ok.geo
  by_cases hc : (0 ≤ x1 ∧ x1 < P.toGeo.w) ∧ 0 ≤ x2 ∧ x2 < P.toGeo.h
  · have hf := (fld_at hI.ok.geo hc.1 hc.2).1
    by_cases a0 : x3 = 0
    · refine both_same (r := .int (J (highZ P.toGla (P.toGeo.w * x2 + x1)))) hI (c182 (v182_0 ?_)) (c268 (v268_0 ?_))
      · simp only [G43, G45, e1, e2]
        unfold Q43
        simp only [e1, e2]
        (repeat' (first | omega | exact True.intro | exact absurd True.intro ‹¬ True› | apply And.intro | intro _))
        exact ⟨_, sp13 hI.ok hI.cls.glass (by omega), rfl⟩
      · simp only [G244, e3, e4]
        unfold Q244
        simp only [e3, e4]
        (repeat' (first | omega | exact True.intro | exact absurd True.intro ‹¬ True› | apply And.intro | intro _))
        exact ⟨_, sp267 hI.ok hI.ref (by omega), rfl⟩
    · by_cases a1 : x3 = 1
      · refine both_same (r := .int (J (P.toGla.lay (P.toGeo.w * x2 + x1)))) hI (c182 (v182_0 ?_)) (c268 (v268_0 ?_))
        · simp only [G43, G45, e1, e2, G11]
          unfold Q43
          simp only [e1, e2]
          rw [hI.cls.glass.lay _ (by omega) (by omega)]
          ((repeat' (first | omega | exact True.intro | exact absurd True.intro ‹¬ True› | apply And.intro | intro _)) <;> rfl)
        · simp only [G244, e3, e4, hI.ref.lay]
          unfold Q244
          simp only [e3, e4]
          ((repeat' (first | omega | exact True.intro | exact absurd True.intro ‹¬ True› | apply And.intro | intro _)) <;> rfl)
      · refine both_same (r := .int (J (-102))) hI (c182 (v182_0 ?_)) (c268 (v268_0 ?_))
        · simp only [G43, G45, e1, e2, G11]
          unfold Q43
          simp only [e1, e2]
          ((repeat' (first | omega | exact True.intro | exact absurd True.intro ‹¬ True› | apply And.intro | intro _)) <;> rfl)
        · simp only [G244, e3, e4, hI.ref.lay]
          unfold Q244
          simp only [e3, e4]
          ((repeat' (first | omega | exact True.intro | exact absurd True.intro ‹¬ True› | apply And.intro | intro _)) <;> rfl)
  · refine both_same (r := .int (J (-101))) hI (c182 (v182_0 ?_)) (c268 (v268_0 ?_))
    · simp only [G43, G45, e1, e2, G11]
      unfold Q43
      simp only [e1, e2]
      ((repeat' (first | omega | exact True.intro | exact absurd True.intro ‹¬ True› | apply And.intro | intro _)) <;> rfl)
    · simp only [G244, e3, e4, hI.ref.lay]
      unfold Q244
      simp only [e3, e4]
      ((repeat' (first | omega | exact True.intro | exact absurd True.intro ‹¬ True› | apply And.intro | intro _)) <;> rfl)
end GL
