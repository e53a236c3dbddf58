/-! lay, solder, plate -/
section LAY
variable {E : gw_N} {N : NM} {P P' : Pic}
theorem renew_ok (hG : GeoR P'.toGeo) (h1 : GridOK P'.toGeo N) (h2 : PageOK P'.toPag N) (h3 : WiresOK P'.toGeo N) (h4 : PalOK P'.toPal N) (h5 : GlassOK P'.toGla N) (h6 : TenOK P'.toTen N) (h7 : RodsOK P'.toRod N) : ∃ N', Rn 203 [.ref 8] (hs E (jm N)) none (hs E (jm N')) ∧ ClsOK P' N' ∧ (∀ a, (a < 23 ∨ 35 < a) → N' a = N a) := by
  obtain ⟨N', r, n1, n2, s⟩ := sp203 (E := E) hG h1 h3
  exact ⟨N', r, ClsOK.mk (h1.fr (s _ (by decide)) (s _ (by decide)) (s _ (by decide))) (h2.fr (s _ (by decide)) (s _ (by decide)))
    (h3.fr (s _ (by decide)) (s _ (by decide)) (s _ (by decide)) (s _ (by decide)) (s _ (by decide)) (s _ (by decide)) (s _ (by decide)) (s _ (by decide))) n1 n2
    (h4.fr (s _ (by decide)) (s _ (by decide)) (s _ (by decide))) (h5.fr (s _ (by decide)) (s _ (by decide)) (s _ (by decide)) (s _ (by decide)) (s _ (by decide))) (h6.fr (s _ (by decide))) (h7.fr (s _ (by decide)) (s _ (by decide)) (s _ (by decide))), s⟩
theorem has_w {x1 : Int} (hI : GInv P N) (hx : R x1) : (G144 N x1 = bZ (0 ≤ x1 ∧ x1 < P.toGeo.ws) ∧ Q144 N x1) ∧ ∀ N', RefOK P N' → G220 N' x1 = bZ (0 ≤ x1 ∧ x1 < P.toGeo.ws) ∧ Q220 N' x1 := by
  have hws := hI.ok.geo.ws
  have e1 := hI.cls.wires.ws
  refine ⟨⟨?_, by unfold Q144; rw [e1]; (repeat' (first | omega | exact True.intro | exact absurd True.intro ‹¬ True› | apply And.intro | intro _))⟩, fun N' hR => ⟨?_, by unfold Q220; rw [hR.ws]; (repeat' (first | omega | exact True.intro | exact absurd True.intro ‹¬ True› | apply And.intro | intro _))⟩⟩
  · unfold G144
    rw [e1]
    by_cases h : 0 ≤ x1 ∧ x1 < P.toGeo.ws
    · rw [bZ_t h, if_neg (by omega), if_neg (by omega)]
    · rw [bZ_f h]
      (repeat' split) <;> omega
  · unfold G220
    rw [hR.ws, bZ_ite]
    exact bZ_congr (by omega)
theorem op_lay {x1 x2 : Int} (hI : GInv P N) (h1 : R x1) (h2 : x2 = 0 ∨ x2 = 1) : Both E N 166 221 [.int (J x1), .int (J x2)] := by
  have hws := hI.ok.geo.ws
  obtain ⟨⟨a1, a2⟩, a3⟩ := has_w hI h1
  by_cases hv : 0 ≤ x1 ∧ x1 < P.toGeo.ws
  · have hla := hI.ok.geo.laid x1 hv.1 hv.2
    have hG' : GeoR (Geo.mk P.toGeo.w P.toGeo.h P.toGeo.ws P.toGeo.px P.toGeo.py P.toGeo.mv (updZ P.toGeo.laid x1 x2) P.toGeo.sold) := by
      refine GeoR.mk hI.ok.geo.w hI.ok.geo.h hI.ok.geo.ws hI.ok.geo.mv ?_ hI.ok.geo.sold hI.ok.geo.px hI.ok.geo.py hI.ok.geo.step
      intro v v1 v2
      show updZ P.toGeo.laid x1 x2 v = 0 ∨ updZ P.toGeo.laid x1 x2 v = 1
      unfold updZ
      split
      · exact h2
      · exact hI.ok.geo.laid v v1 v2
    refine both (r := .int (J (P.toGeo.laid x1))) (P' := P.setGeo (Geo.mk P.toGeo.w P.toGeo.h P.toGeo.ws P.toGeo.px P.toGeo.py P.toGeo.mv (updZ P.toGeo.laid x1 x2) P.toGeo.sold)) hI (PicOK.mk hG' hI.ok.pag hI.ok.pal hI.ok.gla hI.ok.ten hI.ok.rod) ?_ ?_
    · have hw := hI.cls.wires
      have hw' : WiresOK (Geo.mk P.toGeo.w P.toGeo.h P.toGeo.ws P.toGeo.px P.toGeo.py P.toGeo.mv (updZ P.toGeo.laid x1 x2) P.toGeo.sold) (upZ N 15 (updZ (N 15) x1 x2)) := by
        refine WiresOK.mk hw.ws ?_ hw.sold hw.mv hw.ben hw.edg hw.pt hw.er
        intro v v1 v2
        show updZ (N 15) x1 x2 v = updZ P.toGeo.laid x1 x2 v
        unfold updZ
        split
        · rfl
        · exact hw.laid v v1 v2
      obtain ⟨N', r, k1, k2⟩ := renew_ok (E := E) (N := upZ N 15 (updZ (N 15) x1 x2)) (P' := P.setGeo (Geo.mk P.toGeo.w P.toGeo.h P.toGeo.ws P.toGeo.px P.toGeo.py P.toGeo.mv (updZ P.toGeo.laid x1 x2) P.toGeo.sold)) hG' hI.cls.grid hI.cls.page hw' hI.cls.pal hI.cls.glass hI.cls.ten hI.cls.rods
      have e145 : G145 N x1 = P.toGeo.laid x1 := hw.laid x1 hv.1 hv.2
      have e206 : G206 N (P.toGeo.laid x1) = P.toGeo.laid x1 := by
        rcases hla with h | h <;> rw [h]
        · exact G206_0
        · exact G206_1
      refine ⟨N', c166 (v166_0 ?_), k1, fun a ha => (k2 a (by omega)).trans (upZ_n (by omega))⟩
      rw [a1, bZ_t hv, e145, e206]
      refine ⟨a2, by decide, fun z => absurd z (by decide), fun _ => ⟨⟨by omega, ?_, trivial⟩, ⟨by omega, fun _ => trivial, fun _ => trivial⟩, _, c146 (v146_0 ?_), N', r, rfl⟩⟩
      · rw [hw.laid x1 hv.1 hv.2]
        exact hla
      · ((repeat' (first | omega | exact True.intro | exact absurd True.intro ‹¬ True› | apply And.intro | intro _)) <;> rfl)
    · intro N h
      obtain ⟨b1, b2⟩ := a3 N h
      refine ⟨upZ N 64 (updZ (N 64) x1 x2), c221 (v221_0 ?_), ?_, ?_⟩
      · rw [b1, bZ_t hv, h.laid]
        refine ⟨b2, by decide, fun z => absurd z (by decide), fun _ => ⟨by omega, by omega, fun z => ⟨h2, ?_⟩, fun z => ⟨h2, ?_⟩⟩⟩
        · rw [z]
        · rw [show P.toGeo.laid x1 = 1 by omega]
      · (refine RefOK.mk ?_ ?_ ?_ ?_ ?_ ?_ ?_ ?_ ?_ ?_ ?_ ?_ ?_ ?_ ?_ ?_ ?_ ?_ ?_ ?_ ?_ ?_ ?_ ?_ ?_ ?_ ?_ <;> simp [Pic.setGeo, Pic.setPag, Pic.setPal, Pic.setGla, Pic.setTen, Pic.setRod, Pic.mk, Pic.toGeo, Pic.toPag, Pic.toPal, Pic.toGla, Pic.toTen, Pic.toRod, Geo.mk, Geo.w, Geo.h, Geo.ws, Geo.px, Geo.py, Geo.mv, Geo.laid, Geo.sold, Pag.mk, Pag.pm, Pag.pg, Pal.mk, Pal.wall, Pal.stiff, Pal.bear, Pal.heat, Pal.shr, Pal.pul, Pal.foe, Gla.mk, Gla.fires, Gla.lay, Gla.col, Gla.thk, Gla.sta, Ten.mk, Ten.bc, Ten.bt, Rod.mk, Rod.rods, Rod.rl, Rod.rm, upZ, updZ, (h).w, (h).h, (h).pm, (h).ws, (h).wall, (h).stiff, (h).bear, (h).fires, (h).bc, (h).bt, (h).rods, (h).pg, (h).px, (h).py, (h).mv, (h).laid, (h).sold, (h).heat, (h).shr, (h).pul, (h).foe, (h).lay, (h).col, (h).thk, (h).sta, (h).rl, (h).rm])
      · (intro a ha; repeat rw [upZ_n (by omega)])
  · refine both_same (r := .int (J (-101))) hI (c166 (v166_0 ?_)) (c221 (v221_0 ?_))
    · rw [a1, bZ_f hv]
      exact ⟨a2, by decide, fun _ => rfl, fun z => absurd rfl z⟩
    · obtain ⟨b1, b2⟩ := a3 N hI.ref
      rw [b1, bZ_f hv]
      exact ⟨b2, by decide, fun _ => rfl, fun z => absurd rfl z⟩
theorem op_solder {x1 x2 : Int} (hI : GInv P N) (h1 : R x1) (h2 : x2 = 0 ∨ x2 = 1) : Both E N 167 222 [.int (J x1), .int (J x2)] := by
  have hws := hI.ok.geo.ws
  obtain ⟨⟨a1, a2⟩, a3⟩ := has_w hI h1
  by_cases hv : 0 ≤ x1 ∧ x1 < P.toGeo.ws
  · have hla := hI.ok.geo.sold x1 hv.1 hv.2
    have hG' : GeoR (Geo.mk P.toGeo.w P.toGeo.h P.toGeo.ws P.toGeo.px P.toGeo.py P.toGeo.mv P.toGeo.laid (updZ P.toGeo.sold x1 x2)) := by
      refine GeoR.mk hI.ok.geo.w hI.ok.geo.h hI.ok.geo.ws hI.ok.geo.mv hI.ok.geo.laid ?_ hI.ok.geo.px hI.ok.geo.py hI.ok.geo.step
      intro v v1 v2
      show updZ P.toGeo.sold x1 x2 v = 0 ∨ updZ P.toGeo.sold x1 x2 v = 1
      unfold updZ
      split
      · exact h2
      · exact hI.ok.geo.sold v v1 v2
    refine both (r := .int (J (P.toGeo.sold x1))) (P' := P.setGeo (Geo.mk P.toGeo.w P.toGeo.h P.toGeo.ws P.toGeo.px P.toGeo.py P.toGeo.mv P.toGeo.laid (updZ P.toGeo.sold x1 x2))) hI (PicOK.mk hG' hI.ok.pag hI.ok.pal hI.ok.gla hI.ok.ten hI.ok.rod) ?_ ?_
    · have hw := hI.cls.wires
      have hw' : WiresOK (Geo.mk P.toGeo.w P.toGeo.h P.toGeo.ws P.toGeo.px P.toGeo.py P.toGeo.mv P.toGeo.laid (updZ P.toGeo.sold x1 x2)) (upZ N 16 (updZ (N 16) x1 x2)) := by
        refine WiresOK.mk hw.ws hw.laid ?_ hw.mv hw.ben hw.edg hw.pt hw.er
        intro v v1 v2
        show updZ (N 16) x1 x2 v = updZ P.toGeo.sold x1 x2 v
        unfold updZ
        split
        · rfl
        · exact hw.sold v v1 v2
      obtain ⟨N', r, k1, k2⟩ := renew_ok (E := E) (N := upZ N 16 (updZ (N 16) x1 x2)) (P' := P.setGeo (Geo.mk P.toGeo.w P.toGeo.h P.toGeo.ws P.toGeo.px P.toGeo.py P.toGeo.mv P.toGeo.laid (updZ P.toGeo.sold x1 x2))) hG' hI.cls.grid hI.cls.page hw' hI.cls.pal hI.cls.glass hI.cls.ten hI.cls.rods
      have e147 : G147 N x1 = P.toGeo.sold x1 := hw.sold x1 hv.1 hv.2
      have e206 : G206 N (P.toGeo.sold x1) = P.toGeo.sold x1 := by
        rcases hla with h | h <;> rw [h]
        · exact G206_0
        · exact G206_1
      refine ⟨N', c167 (v167_0 ?_), k1, fun a ha => (k2 a (by omega)).trans (upZ_n (by omega))⟩
      rw [a1, bZ_t hv, e147, e206]
      refine ⟨a2, by decide, fun z => absurd z (by decide), fun _ => ⟨⟨by omega, ?_, trivial⟩, ⟨by omega, fun _ => trivial, fun _ => trivial⟩, _, c148 (v148_0 ?_), N', r, rfl⟩⟩
      · rw [hw.sold x1 hv.1 hv.2]
        exact hla
      · ((repeat' (first | omega | exact True.intro | exact absurd True.intro ‹¬ True› | apply And.intro | intro _)) <;> rfl)
    · intro N h
      obtain ⟨b1, b2⟩ := a3 N h
      refine ⟨upZ N 65 (updZ (N 65) x1 x2), c222 (v222_0 ?_), ?_, ?_⟩
      · rw [b1, bZ_t hv, h.sold]
        refine ⟨b2, by decide, fun z => absurd z (by decide), fun _ => ⟨by omega, by omega, fun z => ⟨h2, ?_⟩, fun z => ⟨h2, ?_⟩⟩⟩
        · rw [z]
        · rw [show P.toGeo.sold x1 = 1 by omega]
      · (refine RefOK.mk ?_ ?_ ?_ ?_ ?_ ?_ ?_ ?_ ?_ ?_ ?_ ?_ ?_ ?_ ?_ ?_ ?_ ?_ ?_ ?_ ?_ ?_ ?_ ?_ ?_ ?_ ?_ <;> simp [Pic.setGeo, Pic.setPag, Pic.setPal, Pic.setGla, Pic.setTen, Pic.setRod, Pic.mk, Pic.toGeo, Pic.toPag, Pic.toPal, Pic.toGla, Pic.toTen, Pic.toRod, Geo.mk, Geo.w, Geo.h, Geo.ws, Geo.px, Geo.py, Geo.mv, Geo.laid, Geo.sold, Pag.mk, Pag.pm, Pag.pg, Pal.mk, Pal.wall, Pal.stiff, Pal.bear, Pal.heat, Pal.shr, Pal.pul, Pal.foe, Gla.mk, Gla.fires, Gla.lay, Gla.col, Gla.thk, Gla.sta, Ten.mk, Ten.bc, Ten.bt, Rod.mk, Rod.rods, Rod.rl, Rod.rm, upZ, updZ, (h).w, (h).h, (h).pm, (h).ws, (h).wall, (h).stiff, (h).bear, (h).fires, (h).bc, (h).bt, (h).rods, (h).pg, (h).px, (h).py, (h).mv, (h).laid, (h).sold, (h).heat, (h).shr, (h).pul, (h).foe, (h).lay, (h).col, (h).thk, (h).sta, (h).rl, (h).rm])
      · (intro a ha; repeat rw [upZ_n (by omega)])
  · refine both_same (r := .int (J (-101))) hI (c167 (v167_0 ?_)) (c222 (v222_0 ?_))
    · rw [a1, bZ_f hv]
      exact ⟨a2, by decide, fun _ => rfl, fun z => absurd rfl z⟩
    · obtain ⟨b1, b2⟩ := a3 N hI.ref
      rw [b1, bZ_f hv]
      exact ⟨b2, by decide, fun _ => rfl, fun z => absurd rfl z⟩
end LAY
