/-! fire -/
section FI3
variable {E : gw_N} {N : NM} {P : Pic}
/-- the glass behind a firing, but for the number of firings -/
noncomputable def fir1 (P : Pic) (t : Int) : Gla := firG P.toPal P.toGla t (P.toGeo.w * P.toGeo.h) 0
noncomputable def fir2 (P : Pic) (t : Int) : Gla := roZ P.toGeo (highZ (fir1 P t)) P.toPal.wall (P.toGeo.w * P.toGeo.h) (fir1 P t)
noncomputable def fir3 (P : Pic) (t : Int) : Gla := Gla.mk (P.toGla.fires + 1) (fir2 P t).lay (fir2 P t).col (fir2 P t).thk (fir2 P t).sta
theorem fir2_ok {t : Int} (hI : PicOK P) : GlaR (fir2 P t) ∧ sameG (fir1 P t) (fir2 P t) := by
  have hb := fld_bd hI.geo
  have h := roZ_ok (G := P.toGeo) (H := highZ (fir1 P t)) hI.pal.wall.1 (A := fir1 P t) (firG_R hI.gla hI.pal) (fun f _ _ => rfl) (P.toGeo.w * P.toGeo.h) (by omega) hb.2
  exact ⟨h.1, h.2.1⟩
theorem op_fire {x1 : Int} (hI : GInv P N) (h1 : R x1) : Both E N 184 273 [.int (J x1)] := by
  have hb := fld_bd hI.ok.geo
  have hw := hI.ok.pal.wall
  by_cases ht : 1 ≤ x1 ∧ x1 ≤ 999
  · obtain ⟨f1, f2⟩ := fir2_ok (t := x1) hI.ok
    have fR : GlaR (fir3 P x1) := GlaR.mk f1.lay f1.col f1.thk f1.sta f1.thk1
    refine both (r := .int (J (firC P.toPal P.toGla x1 (P.toGeo.w * P.toGeo.h) 0))) (P' := P.setGla (fir3 P x1)) hI (PicOK.mk hI.ok.geo hI.ok.pag hI.ok.pal fR hI.ok.ten hI.ok.rod) ?_ ?_
    · refine ⟨upZ (clsG (upZ (fN 47 48 N (firT P.toPal P.toGla x1 (P.toGeo.w * P.toGeo.h) 0) (firS P.toPal P.toGla x1 (P.toGeo.w * P.toGeo.h) 0)) 49 (fun f => if 0 ≤ f ∧ f < P.toGeo.w * P.toGeo.h then highZ (fir1 P x1) f else N 49 f)) (fir2 P x1)) 44 (updZ (N 44) 9 (N 44 9 + 1)), c184 (v184_0 ?_), ?_, ?_⟩
      · simp only [G204]
        (repeat' (first | omega | exact True.intro | exact absurd True.intro ‹¬ True› | apply And.intro | intro _))
        refine ⟨_, _, c19 (v19_0 (fire_cls hI.ok hI.cls h1 ?_)), rfl⟩
        refine v19_4 ?_
        rw [show G40 (fN 47 48 N (firT P.toPal P.toGla x1 (P.toGeo.w * P.toGeo.h) 0) (firS P.toPal P.toGla x1 (P.toGeo.w * P.toGeo.h) 0)) = P.toGeo.w * P.toGeo.h from cF hI.cls.grid]
        refine ⟨by omega, by omega, fun _ => ?_, fun z => absurd (Int.le_refl _) z⟩
        exact ⟨_, sp22 (G := P.toGeo) (A := fir1 P x1) (w := P.toPal.wall) hI.ok.geo (hI.cls.grid.fr rfl rfl rfl) hI.cls.pal.wall hw hI.cls.net.cov (firG_R hI.ok.gla hI.ok.pal) hI.cls.glass.layF rfl, rfl⟩
      · (refine ClsOK.mk ?_ ?_ ?_ ?_ ?_ ?_ ?_ ?_ ?_ <;> first | exact (hI.cls).grid.fr rfl rfl rfl | exact (hI.cls).page.fr rfl rfl | exact (hI.cls).wires.fr rfl rfl rfl rfl rfl rfl rfl rfl | exact (hI.cls).net.fr rfl rfl rfl rfl | exact (hI.cls).cells.fr rfl rfl rfl | exact (hI.cls).pal.fr rfl rfl rfl | exact (hI.cls).glass.fr rfl rfl rfl rfl rfl | exact (hI.cls).ten.fr rfl | exact (hI.cls).rods.fr rfl rfl rfl | skip)
        refine GlassOK.mk ?_ rfl ?_ rfl ?_
        · show updZ (N 44) 9 (N 44 9 + 1) 9 = P.toGla.fires + 1
          rw [updZ_s, hI.cls.glass.fires]
        · exact hI.cls.glass.colF.trans f2.2.1.symm
        · exact f2.2.2.symm
      · intro a ha
        show upZ (upZ (upZ (upZ (upZ (upZ N 48 _) 47 _) 49 _) 47 _) 45 _) 44 _ a = N a
        rw [upZ_n (by omega), upZ_n (by omega), upZ_n (by omega), upZ_n (by omega), upZ_n (by omega), upZ_n (by omega)]
    · intro N hR
      have hI1 : PicOK (P.setGla (fir1 P x1)) := PicOK.mk hI.ok.geo hI.ok.pag hI.ok.pal (firG_R hI.ok.gla hI.ok.pal) hI.ok.ten hI.ok.rod
      have hR1 : RefOK (P.setGla (fir1 P x1)) (fN 79 80 N (firT P.toPal P.toGla x1 (P.toGeo.w * P.toGeo.h) 0) (firS P.toPal P.toGla x1 (P.toGeo.w * P.toGeo.h) 0)) := RefOK.mk hR.w hR.h hR.pm hR.ws hR.wall hR.stiff hR.bear hR.fires hR.bc hR.bt hR.rods hR.pg hR.px hR.py hR.mv hR.laid hR.sold hR.heat hR.shr hR.pul hR.foe hR.lay hR.col rfl rfl hR.rl hR.rm
      have h271 := sp271 (E := E) hI1 hR1
      refine ⟨upZ (refG (roM (P.setGla (fir1 P x1)) (fN 79 80 N (firT P.toPal P.toGla x1 (P.toGeo.w * P.toGeo.h) 0) (firS P.toPal P.toGla x1 (P.toGeo.w * P.toGeo.h) 0)) (ruF P.toGeo (highZ (fir1 P x1)) P.toPal.wall (N 82) (P.toGeo.w * P.toGeo.h) 0)) (fir2 P x1)) 59 (updZ (N 59) 29 (N 59 29 + 1)), c273 (v273_0 ?_), ?_, ?_⟩
      · (repeat' (first | omega | exact True.intro | exact absurd True.intro ‹¬ True› | apply And.intro | intro _))
        refine fire_ref hI.ok hR h1 ?_
        refine v273_19 ?_
        rw [show G243 (fN 79 80 N (firT P.toPal P.toGla x1 (P.toGeo.w * P.toGeo.h) 0) (firS P.toPal P.toGla x1 (P.toGeo.w * P.toGeo.h) 0)) = P.toGeo.w * P.toGeo.h from (rF hR : G243 N = P.toGeo.w * P.toGeo.h)]
        refine ⟨by omega, by omega, fun _ => ⟨_, h271, rfl⟩, fun z => absurd (Int.le_refl _) z⟩
      · have u : ∀ k, ¬ k = 29 → updZ (N 59) 29 (N 59 29 + 1) k = N 59 k := fun k hk => updZ_n hk
        refine RefOK.mk ((u 0 (by decide)).trans hR.w) ((u 1 (by decide)).trans hR.h) ((u 3 (by decide)).trans hR.pm) ((u 4 (by decide)).trans hR.ws) ((u 22 (by decide)).trans hR.wall) ((u 23 (by decide)).trans hR.stiff) ((u 24 (by decide)).trans hR.bear) ?_ ((u 34 (by decide)).trans hR.bc) ((u 35 (by decide)).trans hR.bt) ((u 36 (by decide)).trans hR.rods) hR.pg hR.px hR.py hR.mv hR.laid hR.sold hR.heat hR.shr hR.pul hR.foe rfl (hR.col.trans f2.2.1.symm) rfl f2.2.2.symm hR.rl hR.rm
        show updZ (N 59) 29 (N 59 29 + 1) 29 = P.toGla.fires + 1
        rw [updZ_s, hR.fires]
      · intro a ha
        rw [upZ_n (by omega)]
        show upZ (upZ (upZ (upZ (upZ (upZ (upZ (upZ N 80 _) 79 _) 67 _) 69 _) 81 _) 82 _) 79 _) 77 _ a = N a
        rw [upZ_n (by omega), upZ_n (by omega), upZ_n (by omega), upZ_n (by omega), upZ_n (by omega), upZ_n (by omega), upZ_n (by omega), upZ_n (by omega)]
  · refine both_same (r := .int (J (-102))) hI (c184 (v184_0 ?_)) (c273 (v273_0 ?_)) <;> simp only [G204] <;> ((repeat' (first | omega | exact True.intro | exact absurd True.intro ‹¬ True› | apply And.intro | intro _)) <;> rfl)
end FI3
