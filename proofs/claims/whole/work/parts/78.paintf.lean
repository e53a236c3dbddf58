/-! the fewest paints: the program; the reference's places and meetings -/
section PNF
variable {E : gw_N} {N : NM} {P : Pic} {G : Geo}
theorem fw_sp {A : Int → Int → Prop} {n : Nat} (hn : n ≤ 10) : ∀ f m : Nat, m + f = 10 → (m ≤ fwN A n f m ∧ fwN A n f m ≤ 10) ∧ ∃ q, srP A (fwN A n f m) n 0 (fun _ => 0) = some q := by
  intro f
  induction f with
  | zero =>
    intro m hm
    have hm' : m = 10 := by omega
    subst hm'
    refine ⟨⟨Nat.le_refl _, Nat.le_refl _⟩, ?_⟩
    have e : fwN A n 0 10 = 10 := rfl
    rw [e]
    cases hq : srP A 10 n 0 (fun _ => 0) with
    | none => exact absurd hq (sr_some n 0 _ (Int.le_refl _) (by omega))
    | some q => exact ⟨q, rfl⟩
  | succ f ih =>
    intro m hm
    cases hq : srP A m n 0 (fun _ => 0) with
    | none =>
      have e : fwN A n (f + 1) m = fwN A n f (m + 1) := by rw [fwN]; exact if_pos hq
      rw [e]
      obtain ⟨h1, h2⟩ := ih (m + 1) (by omega)
      exact ⟨by omega, h2⟩
    | some q =>
      have e : fwN A n (f + 1) m = m := by rw [fwN]; exact if_neg (by rw [hq]; exact fun z => by cases z)
      rw [e]
      exact ⟨⟨Nat.le_refl _, by omega⟩, q, hq⟩
/-- the first way to paint -/
noncomputable def colP (A : Int → Int → Prop) (n : Nat) : Int → Int := match srP A (fwZ A n) n 0 (fun _ => 0) with
  | some q => q
  | none => fun _ => 0
theorem col_eq {A : Int → Int → Prop} {n : Nat} {q : Int → Int} (h : srP A (fwZ A n) n 0 (fun _ => 0) = some q) : colP A n = q := by
  unfold colP
  rw [h]
noncomputable def nP (G : Geo) : Nat := (totC G).toNat
theorem tot_bd (hG : GeoR G) : 1 ≤ totC G ∧ totC G ≤ 64 := by
  have hfb := fld_bd hG
  have h0 : isF G 0 := ⟨Int.le_refl _, by omega⟩
  have hc : cellZ G 0 = 0 := by
    have h1 := cell_le h0
    have h2 := (cell_ex h0).1.1
    omega
  have h1 := plc_lt (G := G) (d := G.w * G.h) (Int.le_refl _) hc (by omega)
  have h2 := plc_bd (G := G) (c := G.w * G.h) (by omega)
  have h3 : plc G 0 = 0 := rfl
  unfold totC
  omega
theorem sp88 (hI : PicOK P) (hC : ClsOK P N) (ht : totC P.toGeo ≤ 10) : ∃ N', Rn 88 [.ref 36] (hs E (jm N)) (some (.int (J (fwZ (adj P.toGeo) (nP P.toGeo) : Nat)))) (hs E (jm N')) ∧ (∀ c, isC P.toGeo c → N' 37 c = plc P.toGeo c) ∧ (∀ e, 0 ≤ e → e < totC P.toGeo → N' 39 e = colP (adj P.toGeo) (nP P.toGeo) e) ∧ ∀ q, (q < 37 ∨ 39 < q) → N' q = N q := by
  have hG := hI.geo
  have htb := tot_bd hG
  have hnP : ((nP P.toGeo : Nat) : Int) = totC P.toGeo := Int.toNat_of_nonneg (by omega)
  obtain ⟨N1, r1, ⟨p1, p2⟩, s1⟩ := sp90 (E := E) hI hC ht
  have e3 : G3 N1 = totC P.toGeo := by
    show N1 32 5 = _
    rw [s1 32 (by decide) (by decide)]
    exact hC.cells.total
  have e312 : G312 N1 (G3 N1) 10 = totC P.toGeo := by
    unfold G312
    rw [e3, if_neg (by omega)]
  have nr : ∀ N2 : NM, N2 38 = N1 38 → nrI (adj P.toGeo) (totC P.toGeo) (N2 38) := fun N2 h a a1 a2 => by rw [h]; exact p2 a a1 (by omega)
  have key : ∀ (f m : Nat), m + f = 10 → 1 ≤ m → ∀ N2, sq39 N1 N2 → ∃ N', (∃ q, srP (adj P.toGeo) (fwN (adj P.toGeo) (nP P.toGeo) f m) (nP P.toGeo) 0 (fun _ => 0) = some q ∧ ∀ e, 0 ≤ e → e < totC P.toGeo → N' 39 e = q e) ∧ sq39 N1 N' ∧ Ev 21 88 19 [some (.ref 36), some (.int (J (totC P.toGeo))), some (.int (J ((m : Int))))] [] (hs E (jm N2)) (some (.int (J (fwN (adj P.toGeo) (nP P.toGeo) f m : Nat))), hs E (jm N')) := by
    intro f
    induction f with
    | zero =>
      intro m hm h1 N2 s2
      have hm' : m = 10 := by omega
      subst hm'
      obtain ⟨h2, q, hq⟩ := fw_sp (A := adj P.toGeo) (n := nP P.toGeo) (by omega) 0 10 rfl
      obtain ⟨N3, t1, t2, t3⟩ := sp91 (E := E) (A := adj P.toGeo) (m := 10) (n := totC P.toGeo) (by decide) ht (nP P.toGeo) 0 (fun _ => 0) N2 (by omega) (Int.le_refl _) (nr N2 (s2 38 (by decide))) (fun e a b => absurd b (by omega))
      obtain ⟨u1, u2⟩ := t2 q hq
      exact ⟨N3, ⟨q, hq, fun e a b => (u2 e a b).1⟩, fun x hx => (t1 x hx).trans (s2 x hx), v88_19 ⟨by decide, fun z => absurd z (by decide), fun _ => ⟨1, N3, u1, by decide, fun z => absurd z (by decide), fun _ => rfl⟩⟩⟩
    | succ f ih =>
      intro m hm h1 N2 s2
      obtain ⟨N3, t1, t2, t3⟩ := sp91 (E := E) (A := adj P.toGeo) (m := m) (n := totC P.toGeo) (by omega) ht (nP P.toGeo) 0 (fun _ => 0) N2 (by omega) (Int.le_refl _) (nr N2 (s2 38 (by decide))) (fun e a b => absurd b (by omega))
      have s3 : sq39 N1 N3 := fun x hx => (t1 x hx).trans (s2 x hx)
      cases hq : srP (adj P.toGeo) m (nP P.toGeo) 0 (fun _ => 0) with
      | none =>
        have e : fwN (adj P.toGeo) (nP P.toGeo) (f + 1) m = fwN (adj P.toGeo) (nP P.toGeo) f (m + 1) := by rw [fwN]; exact if_pos hq
        rw [e]
        obtain ⟨u1, u2⟩ := t3 hq
        obtain ⟨N', k1, k2, k3⟩ := ih (m + 1) (by omega) (by omega) N3 s3
        refine ⟨N', k1, k2, v88_19 ⟨by omega, fun z => absurd z (by omega), fun _ => ⟨0, N3, u1, by decide, fun _ => ?_, fun z => absurd rfl z⟩⟩⟩
        rw [show ((m + 1 : Nat) : Int) = (m : Int) + 1 from rfl] at k3
        exact k3
      | some q =>
        have e : fwN (adj P.toGeo) (nP P.toGeo) (f + 1) m = m := by rw [fwN]; exact if_neg (by rw [hq]; exact fun z => by cases z)
        rw [e]
        obtain ⟨u1, u2⟩ := t2 q hq
        exact ⟨N3, ⟨q, hq, fun e a b => (u2 e a b).1⟩, s3, v88_19 ⟨by omega, fun z => absurd z (by omega), fun _ => ⟨1, N3, u1, by decide, fun z => absurd z (by decide), fun _ => rfl⟩⟩⟩
  obtain ⟨N', ⟨q, hq, k1⟩, k2, k3⟩ := key 9 1 rfl (Nat.le_refl _) N1 (fun _ _ => rfl)
  refine ⟨N', c88 (v88_0 ⟨N1, r1, ?_, ?_⟩), ?_, ?_, ?_⟩
  · unfold Q312
    rw [e3]
    (repeat' (first | omega | exact True.intro | exact absurd True.intro ‹¬ True› | apply And.intro | intro _))
  · rw [e312]
    exact k3
  · intro c hc
    rw [k2 37 (by decide)]
    exact p1 c hc
  · intro e a b
    rw [col_eq hq]
    exact k1 e a b
  · intro x hx
    rw [k2 x (by omega)]
    exact s1 x (by omega) (by omega)
-- the reference
def sPr (N N' : NM) : Prop := ∀ a, a < 59 → N' a = N a
/-- the cells stand listed -/
def lsI (G : Geo) (c : Int) (N : NM) : Prop := N 59 15 = plc G c ∧ ∀ d, 0 ≤ d → d < c → cellZ G d = d → N 70 (plc G d) = d
theorem sp255 (hI : PicOK P) (hR : RefOK P N) : ∃ N', Rn 255 [.ref 59] (hs E (jm N)) none (hs E (jm N')) ∧ lsI P.toGeo (P.toGeo.w * P.toGeo.h) N' ∧ (∀ f, isF P.toGeo f → N' 69 f = cellZ P.toGeo f) ∧ RefOK P N' ∧ sPr N N' := by
  have hG := hI.geo
  have hfb := fld_bd hG
  have key := loopZ (a := 0) (n := P.toGeo.w * P.toGeo.h) (Q := fun c => ∀ N1, lsI P.toGeo c N1 → (∀ f, isF P.toGeo f → N1 69 f = cellZ P.toGeo f) → RefOK P N1 → sPr N N1 → ∃ N', (lsI P.toGeo (P.toGeo.w * P.toGeo.h) N' ∧ (∀ f, isF P.toGeo f → N' 69 f = cellZ P.toGeo f) ∧ RefOK P N' ∧ sPr N N') ∧ Ev 4 255 11 [some (.ref 59), some (.int (J c))] [] (hs E (jm N1)) (none, hs E (jm N'))) (by omega) ?_ ?_
  · have r0 : RefOK P (upZ (rfN P N) 59 (updZ ((rfN P N) 59) 15 0)) := by
      have h := rfN_ok (P := P) hR
      (refine RefOK.mk ?_ ?_ ?_ ?_ ?_ ?_ ?_ ?_ ?_ ?_ ?_ ?_ ?_ ?_ ?_ ?_ ?_ ?_ ?_ ?_ ?_ ?_ ?_ ?_ ?_ ?_ ?_ <;> simp [Pic.setGeo, Pic.setPag, Pic.setPal, Pic.setGla, Pic.setTen, Pic.setRod, Pic.mk, Pic.toGeo, Pic.toPag, Pic.toPal, Pic.toGla, Pic.toTen, Pic.toRod, Geo.mk, Geo.w, Geo.h, Geo.ws, Geo.px, Geo.py, Geo.mv, Geo.laid, Geo.sold, Pag.mk, Pag.pm, Pag.pg, Pal.mk, Pal.wall, Pal.stiff, Pal.bear, Pal.heat, Pal.shr, Pal.pul, Pal.foe, Gla.mk, Gla.fires, Gla.lay, Gla.col, Gla.thk, Gla.sta, Ten.mk, Ten.bc, Ten.bt, Rod.mk, Rod.rods, Rod.rl, Rod.rm, upZ, updZ, (h).w, (h).h, (h).pm, (h).ws, (h).wall, (h).stiff, (h).bear, (h).fires, (h).bc, (h).bt, (h).rods, (h).pg, (h).px, (h).py, (h).mv, (h).laid, (h).sold, (h).heat, (h).shr, (h).pul, (h).foe, (h).lay, (h).col, (h).thk, (h).sta, (h).rl, (h).rm])
    obtain ⟨N', k1, k2⟩ := key (upZ (rfN P N) 59 (updZ ((rfN P N) 59) 15 0)) ⟨rfl, fun d d1 d2 => absurd d2 (by omega)⟩ (fun f hf => rfN_69 hf) r0 (fun a ha => by rw [upZ_n (by omega)]; exact rfN_cls a ha)
    exact ⟨N', c255 (v255_0 ⟨_, sp247' hI hR, k2⟩), k1⟩
  · intro N1 h1 h2 h3 h4
    refine ⟨N1, ⟨h1, h2, h3, h4⟩, v255_11 ?_⟩
    rw [rF h3]
    exact ⟨by omega, by omega, fun _ => rfl, fun z => absurd (Int.le_refl _) z⟩
  · intro c c1' c2' ih N1 h1 h2 h3 h4
    have hF : isF P.toGeo c := ⟨c1', c2'⟩
    have hcr := cell_R hG hF
    have hpb := plc_bd (G := P.toGeo) c1'
    by_cases hc : cellZ P.toGeo c = c
    · have r1 : RefOK P (upZ (upZ N1 70 (updZ (N1 70) (N1 59 15) c)) 59 (updZ (N1 59) 15 (N1 59 15 + 1))) := by (refine RefOK.mk ?_ ?_ ?_ ?_ ?_ ?_ ?_ ?_ ?_ ?_ ?_ ?_ ?_ ?_ ?_ ?_ ?_ ?_ ?_ ?_ ?_ ?_ ?_ ?_ ?_ ?_ ?_ <;> simp [Pic.setGeo, Pic.setPag, Pic.setPal, Pic.setGla, Pic.setTen, Pic.setRod, Pic.mk, Pic.toGeo, Pic.toPag, Pic.toPal, Pic.toGla, Pic.toTen, Pic.toRod, Geo.mk, Geo.w, Geo.h, Geo.ws, Geo.px, Geo.py, Geo.mv, Geo.laid, Geo.sold, Pag.mk, Pag.pm, Pag.pg, Pal.mk, Pal.wall, Pal.stiff, Pal.bear, Pal.heat, Pal.shr, Pal.pul, Pal.foe, Gla.mk, Gla.fires, Gla.lay, Gla.col, Gla.thk, Gla.sta, Ten.mk, Ten.bc, Ten.bt, Rod.mk, Rod.rods, Rod.rl, Rod.rm, upZ, updZ, (h3).w, (h3).h, (h3).pm, (h3).ws, (h3).wall, (h3).stiff, (h3).bear, (h3).fires, (h3).bc, (h3).bt, (h3).rods, (h3).pg, (h3).px, (h3).py, (h3).mv, (h3).laid, (h3).sold, (h3).heat, (h3).shr, (h3).pul, (h3).foe, (h3).lay, (h3).col, (h3).thk, (h3).sta, (h3).rl, (h3).rm])
      have hq9 := ih (upZ (upZ N1 70 (updZ (N1 70) (N1 59 15) c)) 59 (updZ (N1 59) 15 (N1 59 15 + 1))) ⟨?_, ?_⟩ h2 r1 (fun a ha => by rw [upZ_n (by omega), upZ_n (by omega)]; exact h4 a ha)
      · obtain ⟨N', k1, k2⟩ := hq9
        refine ⟨N', k1, v255_11 ?_⟩
        rw [rF h3, h2 c hF, hc]
        refine ⟨by omega, by omega, fun z => absurd z (by omega), fun _ => ⟨by omega, by omega, fun _ => ⟨by rw [h1.1]; omega, k2⟩, fun z => absurd rfl z⟩⟩
      · show updZ (N1 59) 15 (N1 59 15 + 1) 15 = _
        rw [updZ_s, h1.1, plc_s c1', bZ_t hc]
      · intro d d1 d2 hd
        show updZ (N1 70) (N1 59 15) c (plc P.toGeo d) = d
        by_cases q : d = c
        · rw [q, h1.1, updZ_s]
        · have := plc_lt d1 hd (show d < c by omega)
          rw [h1.1, updZ_n (by omega)]
          exact h1.2 d d1 (by omega) hd
    · obtain ⟨N', k1, k2⟩ := ih N1 ⟨by rw [h1.1, plc_s c1', bZ_f hc, Int.add_zero], fun d d1 d2 hd => h1.2 d d1 (by
        by_cases q : d = c
        · exact absurd (q ▸ hd) hc
        · omega) hd⟩ h2 h3 h4
      refine ⟨N', k1, v255_11 ?_⟩
      rw [rF h3, h2 c hF]
      exact ⟨by omega, by omega, fun z => absurd z (by omega), fun _ => ⟨by omega, by omega, fun z => absurd z hc, fun _ => k2⟩⟩
theorem sp254 {c : Int} (hI : PicOK P) (hl : lsI P.toGeo (P.toGeo.w * P.toGeo.h) N) (hc : isC P.toGeo c) : Rn 254 [.ref 59, .int (J c)] (hs E (jm N)) (some (.int (J (plc P.toGeo c)))) (hs E (jm N)) := by
  have hG := hI.geo
  have hfb := fld_bd hG
  have c1' := hc.1.1
  have c2' := hc.1.2
  have hpb := plc_bd (G := P.toGeo) c1'
  refine c254 (v254_0 ?_)
  refine loopZ (a := 0) (n := plc P.toGeo c) (Q := fun k => Ev 1 254 2 [some (.ref 59), some (.int (J c)), some (.int (J k))] [] (hs E (jm N)) (_, _)) hpb.1 ?_ ?_
  · refine v254_2 ?_
    rw [hl.2 c c1' c2' hc.2]
    exact ⟨by omega, by omega, by omega, fun _ => rfl, fun z => absurd rfl z⟩
  · intro k k1 k2 ih
    have hlt := plc_lt c1' hc.2 c2'
    obtain ⟨d, d1, d2, d3, d4⟩ := plc_ex (G := P.toGeo) (n := c) c1' ⟨k1, k2⟩
    refine v254_2 ?_
    rw [← d4, hl.2 d d1 (by omega) d3, d4]
    exact ⟨by omega, by omega, by omega, fun z => by omega, fun _ => ih⟩
end PNF
