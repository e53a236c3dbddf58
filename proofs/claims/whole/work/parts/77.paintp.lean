/-! paints of the program -/
section PNP
variable {E : gw_N} {N : NM} {P : Pic} {G : Geo}
def nrI (A : Int → Int → Prop) (n : Int) (f : Int → Int) : Prop := ∀ a, 0 ≤ a → a < n → (0 ≤ f a ∧ f a < 1024) ∧ ∀ b, 0 ≤ b → b < 10 → bitZ (f a) b = bZ (A a b)
/-- gone through, up to a field and a way -/
def adjT (G : Geo) (f way a b : Int) : Prop := ∃ f' way', (f' < f ∨ (f' = f ∧ way' < way)) ∧ adjS G f' way' a b
theorem adjT_s {f way a b : Int} : adjT G f (way + 1) a b ↔ adjT G f way a b ∨ adjS G f way a b := by
  constructor
  · rintro ⟨f', way', h1, h2⟩
    by_cases q : f' = f ∧ way' = way
    · rw [q.1, q.2] at h2
      exact Or.inr h2
    · exact Or.inl ⟨f', way', by omega, h2⟩
  · rintro (⟨f', way', h1, h2⟩ | h)
    · exact ⟨f', way', by omega, h2⟩
    · exact ⟨f, way, by omega, h⟩
theorem adjT_next {f a b : Int} : adjT G (f + 1) 0 a b ↔ adjT G f 4 a b := by
  constructor
  · rintro ⟨f', way', h1, h2⟩
    have h3 := h2.2.1
    exact ⟨f', way', by omega, h2⟩
  · rintro ⟨f', way', h1, h2⟩
    have h3 := h2.2.1
    exact ⟨f', way', by omega, h2⟩
theorem adjT_0 {a b : Int} : ¬ adjT G 0 0 a b := by
  rintro ⟨f', way', h1, h2⟩
  have h3 := h2.2.1
  have h4 := h2.1.1
  omega
theorem adjT_end {a b : Int} : adjT G (G.w * G.h) 0 a b ↔ adj G a b := by
  constructor
  · rintro ⟨f', way', h1, h2⟩
    exact ⟨f', way', h2⟩
  · rintro ⟨f', way', h2⟩
    exact ⟨f', way', Or.inl h2.1.2, h2⟩
def sNr (N N' : NM) : Prop := ∀ q, ¬ q = 37 → ¬ q = 38 → N' q = N q
theorem sp90 (hI : PicOK P) (hC : ClsOK P N) (ht : totC P.toGeo ≤ 10) : ∃ N', Rn 90 [.ref 36] (hs E (jm N)) none (hs E (jm N')) ∧ ((∀ c, isC P.toGeo c → N' 37 c = plc P.toGeo c) ∧ nrI (adj P.toGeo) 10 (N' 38)) ∧ sNr N N' := by
  have hG := hI.geo
  have hfb := fld_bd hG
  -- the second loop
  have second := loopZ (a := 0) (n := P.toGeo.w * P.toGeo.h) (Q := fun f => ∀ N1, sNr N N1 → (∀ c, isC P.toGeo c → N1 37 c = plc P.toGeo c) → nrI (adjT P.toGeo f 0) 10 (N1 38) → ∃ N', (((∀ c, isC P.toGeo c → N' 37 c = plc P.toGeo c) ∧ nrI (adj P.toGeo) 10 (N' 38)) ∧ sNr N N') ∧ Ev 3 90 58 [some (.ref 36), none, some (.int (J f)), none, none] [] (hs E (jm N1)) (none, hs E (jm N'))) (by omega) ?_ ?_
  · -- the first loop
    have first := loopZ (a := 0) (n := P.toGeo.w * P.toGeo.h) (Q := fun c => ∀ N1, sNr N N1 → (∀ d, isC P.toGeo d → d < c → N1 37 d = plc P.toGeo d) → (∀ a, 0 ≤ a → a < 10 → N1 38 a = 0) → ∃ N', (((∀ c, isC P.toGeo c → N' 37 c = plc P.toGeo c) ∧ nrI (adj P.toGeo) 10 (N' 38)) ∧ sNr N N') ∧ Ev 3 90 12 [some (.ref 36), some (.int (J (plc P.toGeo c))), some (.int (J c)), none, none] [] (hs E (jm N1)) (none, hs E (jm N'))) (by omega) ?_ ?_
    · obtain ⟨N', k1, k2⟩ := first (upZ N 38 (fiF (N 38) 0 10)) (fun q _ h2 => upZ_n h2) (fun d hd h0 => absurd h0 (by have := hd.1.1; omega)) (fun a a1 a2 => fiF_in ⟨a1, a2⟩)
      exact ⟨N', c90 (v90_0 ⟨_, fi38, k2⟩), k1⟩
    · intro N1 s1 h1 h2
      obtain ⟨N', k1, k2⟩ := second N1 s1 (fun c hc => h1 c hc hc.1.2) (fun a a1 a2 => by
        rw [h2 a a1 a2]
        refine ⟨by decide, fun b b1 b2 => ?_⟩
        rw [bit00, bZ_f adjT_0])
      refine ⟨N', k1, v90_12 ?_⟩
      have hg1 : GridOK P.toGeo N1 := hC.grid.fr (s1 _ (by decide) (by decide)) (s1 _ (by decide) (by decide)) (s1 _ (by decide) (by decide))
      rw [cF hg1]
      exact ⟨by omega, by omega, fun _ => k2, fun z => absurd (Int.le_refl _) z⟩
    · intro c c1' c2' ih N1 s1 h1 h2
      have hg1 : GridOK P.toGeo N1 := hC.grid.fr (s1 _ (by decide) (by decide)) (s1 _ (by decide) (by decide)) (s1 _ (by decide) (by decide))
      have hc1 : CellsOK P.toGeo N1 := hC.cells.fr (s1 _ (by decide) (by decide)) (s1 _ (by decide) (by decide)) (s1 _ (by decide) (by decide))
      obtain ⟨a1, a2⟩ := cHas hG hc1 (c := c) (by omega)
      have hpb := plc_bd (G := P.toGeo) c1'
      by_cases hc : isC P.toGeo c
      · have hlt := plc_lt c1' hc.2 c2'
        have hlt' : plc P.toGeo c < 10 := by unfold totC at ht; omega
        have es : plc P.toGeo (c + 1) = plc P.toGeo c + 1 := by rw [plc_s c1', bZ_t hc.2]
        obtain ⟨N', k1, k2⟩ := ih (upZ N1 37 (updZ (N1 37) c (plc P.toGeo c))) (fun q q1 q2 => by rw [upZ_n q1]; exact s1 q q1 q2) (fun d hd hlt2 => by
          show updZ (N1 37) c (plc P.toGeo c) d = _
          by_cases q : d = c
          · rw [q, updZ_s]
          · rw [updZ_n q]
            exact h1 d hd (by omega)) h2
        rw [es] at k2
        refine ⟨N', k1, v90_12 ?_⟩
        rw [cF hg1, a1, bZ_t hc]
        exact ⟨by omega, by omega, fun z => absurd z (by omega), fun _ => ⟨a2, by decide, fun z => absurd z (by decide), fun _ => ⟨by omega, fun z => absurd z (by omega), fun _ => ⟨by omega, k2⟩⟩⟩⟩
      · have hcc : ¬ cellZ P.toGeo c = c := fun z => hc ⟨⟨c1', c2'⟩, z⟩
        have es : plc P.toGeo (c + 1) = plc P.toGeo c := by rw [plc_s c1', bZ_f hcc, Int.add_zero]
        obtain ⟨N', k1, k2⟩ := ih N1 s1 (fun d hd hlt2 => h1 d hd (by
          by_cases q : d = c
          · exact absurd (q ▸ hd) hc
          · omega)) h2
        rw [es] at k2
        refine ⟨N', k1, v90_12 ?_⟩
        rw [cF hg1, a1, bZ_f hc]
        exact ⟨by omega, by omega, fun z => absurd z (by omega), fun _ => ⟨a2, by decide, fun _ => k2, fun z => absurd rfl z⟩⟩
  · intro N1 s1 h1 h2
    refine ⟨N1, ⟨⟨h1, fun a a1 a2 => ⟨(h2 a a1 a2).1, fun b b1 b2 => ((h2 a a1 a2).2 b b1 b2).trans (bZ_congr adjT_end)⟩⟩, s1⟩, v90_58 ?_⟩
    have hg1 : GridOK P.toGeo N1 := hC.grid.fr (s1 _ (by decide) (by decide)) (s1 _ (by decide) (by decide)) (s1 _ (by decide) (by decide))
    rw [cF hg1]
    exact ⟨by omega, by omega, fun _ => rfl, fun z => absurd (Int.le_refl _) z⟩
  · intro f f1 f2 ih N1 s1 h1 h2
    have hF : isF P.toGeo f := ⟨f1, f2⟩
    have ways := loopZ (a := 0) (n := 4) (Q := fun way => ∀ N1, sNr N N1 → (∀ c, isC P.toGeo c → N1 37 c = plc P.toGeo c) → nrI (adjT P.toGeo f way) 10 (N1 38) → ∃ N', (((∀ c, isC P.toGeo c → N' 37 c = plc P.toGeo c) ∧ nrI (adj P.toGeo) 10 (N' 38)) ∧ sNr N N') ∧ Ev 3 90 71 [some (.ref 36), none, some (.int (J f)), some (.int (J way)), none] [] (hs E (jm N1)) (none, hs E (jm N'))) (by decide) ?_ ?_
    · obtain ⟨N', k1, k2⟩ := ways N1 s1 h1 h2
      refine ⟨N', k1, v90_58 ?_⟩
      have hg1 : GridOK P.toGeo N1 := hC.grid.fr (s1 _ (by decide) (by decide)) (s1 _ (by decide) (by decide)) (s1 _ (by decide) (by decide))
      rw [cF hg1]
      exact ⟨by omega, by omega, fun z => absurd z (by omega), fun _ => k2⟩
    · intro N2 s2 g1 g2
      obtain ⟨N', k1, k2⟩ := ih N2 s2 g1 (fun a a1 a2 => ⟨(g2 a a1 a2).1, fun b b1 b2 => ((g2 a a1 a2).2 b b1 b2).trans (bZ_congr adjT_next.symm)⟩)
      exact ⟨N', k1, v90_71 ⟨by decide, fun _ => k2, fun z => absurd (Int.le_refl _) z⟩⟩
    · intro way w1 w2 ih2 N2 s2 g1 g2
      have hg1 : GridOK P.toGeo N2 := hC.grid.fr (s2 _ (by decide) (by decide)) (s2 _ (by decide) (by decide)) (s2 _ (by decide) (by decide))
      obtain ⟨d1, d2⟩ := cBes hG hg1 hF ⟨w1, w2⟩
      have e4 : ∀ x, isF P.toGeo x → G4 N2 x = cellZ P.toGeo x := by
        intro x hx
        show N2 33 x = _
        rw [s2 33 (by decide) (by decide)]
        exact hC.cells.cell x hx.1 hx.2
      have go : (∀ a b, ¬ adjS P.toGeo f way a b) → ∃ N', (((∀ c, isC P.toGeo c → N' 37 c = plc P.toGeo c) ∧ nrI (adj P.toGeo) 10 (N' 38)) ∧ sNr N N') ∧ Ev 3 90 71 [some (.ref 36), none, some (.int (J f)), some (.int (J (way + 1))), none] [] (hs E (jm N2)) (none, hs E (jm N')) := by
        intro hn
        refine ih2 N2 s2 g1 (fun a a1 a2 => ⟨(g2 a a1 a2).1, fun b b1 b2 => ((g2 a a1 a2).2 b b1 b2).trans (bZ_congr ?_)⟩)
        rw [adjT_s]
        exact ⟨Or.inl, fun z => z.elim id (fun z => absurd z (hn a b))⟩
      by_cases hbn : besZ P.toGeo f way = -1
      · obtain ⟨N', k1, k2⟩ := go (fun a b z => z.2.2.1 hbn)
        refine ⟨N', k1, v90_71 ?_⟩
        rw [d1]
        exact ⟨by omega, fun z => absurd z (by omega), fun _ => ⟨d2, by omega, fun _ => k2, fun z => absurd hbn z⟩⟩
      · obtain ⟨b1, b2, b3⟩ := bes_spec hG hF ⟨w1, w2⟩ hbn
        have t1 := b1.1
        have t2 := b1.2
        have r1 := cell_R hG hF
        have r2 := cell_R hG b1
        have q4 : ∀ x, isF P.toGeo x → Q4 N2 x := fun x hx => ⟨⟨hx.1, by have := hx.2; omega⟩, trivial⟩
        by_cases hce : cellZ P.toGeo (besZ P.toGeo f way) = cellZ P.toGeo f
        · obtain ⟨N', k1, k2⟩ := go (fun a b z => z.2.2.2.1 hce.symm)
          refine ⟨N', k1, v90_71 ?_⟩
          rw [d1, e4 _ b1, e4 _ hF]
          exact ⟨by omega, fun z => absurd z (by omega), fun _ => ⟨d2, by omega, fun z => absurd z hbn, fun _ => ⟨q4 _ b1, q4 _ hF, by omega, by omega, fun _ => k2, fun z => absurd hce z⟩⟩⟩
        · have p1 := plc_F hG hF
          have p2 := plc_F hG b1
          have c1' : isC P.toGeo (cellZ P.toGeo f) := ⟨(cell_ex hF).1, cell_self hG hF⟩
          have c2' : isC P.toGeo (cellZ P.toGeo (besZ P.toGeo f way)) := ⟨(cell_ex b1).1, cell_self hG b1⟩
          have hv := g2 (plc P.toGeo (cellZ P.toGeo f)) p1.1 (by omega)
          obtain ⟨z1, z2⟩ := zsetK hv.1 (b := plc P.toGeo (cellZ P.toGeo (besZ P.toGeo f way))) ⟨p2.1, by omega⟩
          have hq9 := ih2 (upZ N2 38 (updZ (N2 38) (plc P.toGeo (cellZ P.toGeo f)) (zor (N2 38 (plc P.toGeo (cellZ P.toGeo f))) (zshl 1 (plc P.toGeo (cellZ P.toGeo (besZ P.toGeo f way))))))) (fun q q1 q2 => by rw [upZ_n q2]; exact s2 q q1 q2) g1 ?_
          · obtain ⟨N', k1, k2⟩ := hq9
            refine ⟨N', k1, v90_71 ?_⟩
            rw [d1, e4 _ b1, e4 _ hF, g1 _ c1', g1 _ c2']
            exact ⟨by omega, fun z => absurd z (by omega), fun _ => ⟨d2, by omega, fun z => absurd z hbn, fun _ => ⟨q4 _ b1, q4 _ hF, by omega, by omega, fun z => absurd z hce, fun _ => ⟨by omega, by omega, by omega, k2⟩⟩⟩⟩
          · intro a a1 a2
            show (0 ≤ updZ (N2 38) _ _ a ∧ updZ (N2 38) _ _ a < 1024) ∧ ∀ b, 0 ≤ b → b < 10 → bitZ (updZ (N2 38) _ _ a) b = _
            by_cases qa : a = plc P.toGeo (cellZ P.toGeo f)
            · rw [qa, updZ_s]
              refine ⟨z1, fun b b1' b2' => ?_⟩
              rw [z2 b b1' b2']
              by_cases qb : b = plc P.toGeo (cellZ P.toGeo (besZ P.toGeo f way))
              · rw [if_pos qb, bZ_t]
                rw [adjT_s]
                exact Or.inr ⟨hF, ⟨w1, w2⟩, hbn, fun z => hce z.symm, rfl, qb.symm⟩
              · rw [if_neg qb, hv.2 b b1' b2']
                refine bZ_congr ?_
                rw [adjT_s]
                exact ⟨Or.inl, fun z => z.elim id (fun z => absurd z.2.2.2.2.2.symm qb)⟩
            · rw [updZ_n qa]
              refine ⟨(g2 a a1 a2).1, fun b b1' b2' => ((g2 a a1 a2).2 b b1' b2').trans (bZ_congr ?_)⟩
              rw [adjT_s]
              exact ⟨Or.inl, fun z => z.elim id (fun z => absurd z.2.2.2.2.1.symm qa)⟩
theorem sp92 {A : Int → Int → Prop} {v k c : Int} {p : Int → Int} (hk : 0 ≤ k ∧ k ≤ 10) (hc : R c) (hv : 0 ≤ v ∧ v < 1024) (hb : ∀ b, 0 ≤ b → b < 10 → bitZ v b = bZ (A k b)) (hp : ∀ e, 0 ≤ e → e < k → N 39 e = p e ∧ 0 ≤ p e ∧ p e < 10) : Rn 92 [.int (J v), .ref 39, .int (J k), .int (J c)] (hs E (jm N)) (some (.int (J (bZ (freeP A k p c))))) (hs E (jm N)) := by
  refine c92 (v92_0 ?_)
  have h0 := loopZ (a := 0) (n := k) (Q := fun e => (∀ j, 0 ≤ j → j < e → A k j → ¬ p j = c) → Ev 1 92 3 [some (.int (J v)), some (.ref 39), some (.int (J k)), some (.int (J c)), some (.int (J e))] [] (hs E (jm N)) (some (.int (J (bZ (freeP A k p c)))), (hs E (jm N)))) hk.1 ?_ ?_
  · exact h0 (fun j j1 j2 => absurd j2 (by omega))
  · intro hj
    refine v92_3 ⟨by omega, by omega, fun _ => ?_, fun z => absurd (Int.le_refl _) z⟩
    rw [bZ_t (show freeP A k p c from hj)]
  · intro e e1 e2 ih hj
    obtain ⟨q1, q2, q3⟩ := hp e e1 e2
    have m1 := bZ_01 (p := A k e)
    refine v92_3 ?_
    rw [zbitK hv ⟨e1, by omega⟩, hb e e1 (by omega), q1]
    refine ⟨by omega, by omega, fun z => absurd z (by omega), fun _ => ⟨fun a => ⟨by omega, by omega, hc, fun z => ?_, fun z => ih ?_⟩, fun a => ih ?_⟩⟩
    · rw [bZ_f (fun w => w e e1 e2 (bZ_1.mp a) z)]
    · intro j j1 j2 ja
      by_cases q : j = e
      · rw [q]; exact z
      · exact hj j j1 (by omega) ja
    · intro j j1 j2 ja
      by_cases q : j = e
      · rw [q] at ja
        exact absurd (bZ_t ja) a
      · exact hj j j1 (by omega) ja
def sq39 (N N' : NM) : Prop := ∀ q, ¬ q = 39 → N' q = N q
theorem sp91 {A : Int → Int → Prop} {m : Nat} {n : Int} (hm : (m : Int) ≤ 10) (hn : n ≤ 10) : ∀ (d : Nat) (k : Int) (p : Int → Int) (N1 : NM), k + d = n → 0 ≤ k → nrI A n (N1 38) → (∀ e, 0 ≤ e → e < k → N1 39 e = p e ∧ 0 ≤ p e ∧ p e < 10) →
    ∃ N2, sq39 N1 N2 ∧ (∀ q, srP A m d k p = some q → Rn 91 [.ref 38, .ref 39, .int (J k), .int (J n), .int (J ((m : Int)))] (hs E (jm N1)) (some (.int (J 1))) (hs E (jm N2)) ∧ ∀ e, 0 ≤ e → e < n → N2 39 e = q e ∧ 0 ≤ q e ∧ q e < 10) ∧ (srP A m d k p = none → Rn 91 [.ref 38, .ref 39, .int (J k), .int (J n), .int (J ((m : Int)))] (hs E (jm N1)) (some (.int (J 0))) (hs E (jm N2)) ∧ ∀ e, 0 ≤ e → e < k → N2 39 e = p e ∧ 0 ≤ p e ∧ p e < 10) := by
  intro d
  induction d with
  | zero =>
    intro k p N1 hkn hk hnr hp
    have hkn' : k = n := by omega
    subst hkn'
    refine ⟨N1, fun _ _ => rfl, fun q hq => ⟨c91 (by omega) (v91_0 (by omega) (by omega) ⟨fun _ => rfl, fun z => absurd (Int.le_refl _) z⟩), ?_⟩, fun z => by cases z⟩
    cases hq
    exact hp
  | succ d ihd =>
    intro k p N1 hkn hk hnr hp
    have hk10 : k < 10 := by omega
    -- from a paint on
    have key : ∀ (r : Nat) (c : Int) (N3 : NM), c + r = m → 0 ≤ c → sq39 N1 N3 → (∀ e, 0 ≤ e → e < k → N3 39 e = p e ∧ 0 ≤ p e ∧ p e < 10) →
        ∃ N2, sq39 N1 N2 ∧ (∀ q, trP (fun c => srP A m d (k + 1) (updZ p k c)) (freeP A k p) r c = some q → Ev (3 + (11 - k.toNat)) 91 16 [some (.ref 38), some (.ref 39), some (.int (J k)), some (.int (J n)), some (.int (J ((m : Int)))), some (.int (J c))] [] (hs E (jm N3)) (some (.int (J 1)), hs E (jm N2)) ∧ ∀ e, 0 ≤ e → e < n → N2 39 e = q e ∧ 0 ≤ q e ∧ q e < 10) ∧ (trP (fun c => srP A m d (k + 1) (updZ p k c)) (freeP A k p) r c = none → Ev (3 + (11 - k.toNat)) 91 16 [some (.ref 38), some (.ref 39), some (.int (J k)), some (.int (J n)), some (.int (J ((m : Int)))), some (.int (J c))] [] (hs E (jm N3)) (some (.int (J 0)), hs E (jm N2)) ∧ ∀ e, 0 ≤ e → e < k → N2 39 e = p e ∧ 0 ≤ p e ∧ p e < 10) := by
      intro r
      induction r with
      | zero =>
        intro c N3 hcr hc0 s3 h3
        refine ⟨N3, s3, fun q z => (by cases z), fun _ => ⟨v91_16 (by omega) ⟨hk, hk10⟩ (by omega) (by omega) ⟨fun _ => rfl, fun z => absurd (by omega) z⟩, h3⟩⟩
      | succ r ihr =>
        intro c N3 hcr hc0 s3 h3
        have hnr3 : nrI A n (N3 38) := by rw [s3 38 (by decide)]; exact hnr
        have hv := hnr3 k hk (by omega)
        have h92 := sp92 (E := E) (N := N3) (A := A) (v := N3 38 k) (k := k) (c := c) (p := p) (by omega) (by omega) hv.1 hv.2 h3
        have m1 := bZ_01 (p := freeP A k p c)
        by_cases hf : freeP A k p c
        · obtain ⟨N4, t1, t2, t3⟩ := ihd (k + 1) (updZ p k c) (upZ N3 39 (updZ (N3 39) k c)) (by omega) (by omega) (by
            show nrI A n (N3 38)
            exact hnr3) (fun e e1 e2 => by
            show updZ (N3 39) k c e = updZ p k c e ∧ 0 ≤ updZ p k c e ∧ updZ p k c e < 10
            by_cases q : e = k
            · rw [q, updZ_s, updZ_s]
              exact ⟨rfl, hc0, by omega⟩
            · rw [updZ_n q, updZ_n q]
              exact h3 e e1 (by omega))
          have s4 : sq39 N1 N4 := fun q hq => (t1 q hq).trans ((upZ_n hq).trans (s3 q hq))
          cases hF : srP A m d (k + 1) (updZ p k c) with
          | some q =>
            obtain ⟨u1, u2⟩ := t2 q hF
            have hT := tr_t (F := fun c => srP A m d (k + 1) (updZ p k c)) (r := r) hf hF
            rw [hT]
            refine ⟨N4, s4, fun q' hq' => ?_, fun z => by cases z⟩
            cases hq'
            exact ⟨v91_16 (by omega) ⟨hk, hk10⟩ (by omega) (by omega) ⟨fun z => absurd z (by omega), fun _ => ⟨1, Or.inr rfl, by rw [bZ_t hf] at h92; exact h92, fun z => absurd z (by decide), fun _ => ⟨1, N4, Or.inr rfl, u1, fun z => absurd z (by decide), fun _ => rfl⟩⟩⟩, u2⟩
          | none =>
            obtain ⟨u1, u2⟩ := t3 hF
            have hT := tr_f (F := fun c => srP A m d (k + 1) (updZ p k c)) (fr := freeP A k p) (r := r) (c := c) (fun z => z.2 hF)
            rw [hT]
            obtain ⟨N2, w1, w2, w3⟩ := ihr (c + 1) N4 (by omega) (by omega) s4 (fun e e1 e2 => by
              have := u2 e e1 (by omega)
              rw [updZ_n (by omega)] at this
              exact this)
            refine ⟨N2, w1, fun q hq => ⟨v91_16 (by omega) ⟨hk, hk10⟩ (by omega) (by omega) ⟨fun z => absurd z (by omega), fun _ => ⟨1, Or.inr rfl, by rw [bZ_t hf] at h92; exact h92, fun z => absurd z (by decide), fun _ => ⟨0, N4, Or.inl rfl, u1, fun _ => (w2 q hq).1, fun z => absurd z (by decide)⟩⟩⟩, (w2 q hq).2⟩, fun hq => ⟨v91_16 (by omega) ⟨hk, hk10⟩ (by omega) (by omega) ⟨fun z => absurd z (by omega), fun _ => ⟨1, Or.inr rfl, by rw [bZ_t hf] at h92; exact h92, fun z => absurd z (by decide), fun _ => ⟨0, N4, Or.inl rfl, u1, fun _ => (w3 hq).1, fun z => absurd z (by decide)⟩⟩⟩, (w3 hq).2⟩⟩
        · have hT := tr_f (F := fun c => srP A m d (k + 1) (updZ p k c)) (fr := freeP A k p) (r := r) (c := c) (fun z => hf z.1)
          rw [hT]
          obtain ⟨N2, w1, w2, w3⟩ := ihr (c + 1) N3 (by omega) (by omega) s3 h3
          refine ⟨N2, w1, fun q hq => ⟨v91_16 (by omega) ⟨hk, hk10⟩ (by omega) (by omega) ⟨fun z => absurd z (by omega), fun _ => ⟨0, Or.inl rfl, by rw [bZ_f hf] at h92; exact h92, fun _ => (w2 q hq).1, fun z => absurd z (by decide)⟩⟩, (w2 q hq).2⟩, fun hq => ⟨v91_16 (by omega) ⟨hk, hk10⟩ (by omega) (by omega) ⟨fun z => absurd z (by omega), fun _ => ⟨0, Or.inl rfl, by rw [bZ_f hf] at h92; exact h92, fun _ => (w3 hq).1, fun z => absurd z (by decide)⟩⟩, (w3 hq).2⟩⟩
    obtain ⟨N2, w1, w2, w3⟩ := key m 0 N1 (by omega) (Int.le_refl _) (fun _ _ => rfl) hp
    refine ⟨N2, w1, fun q hq => ⟨c91 (by omega) (v91_0 (by omega) (by omega) ⟨fun z => absurd z (by omega), fun _ => ⟨fun _ => (w2 q hq).1, fun z => absurd hk10 z⟩⟩), (w2 q hq).2⟩, fun hq => ⟨c91 (by omega) (v91_0 (by omega) (by omega) ⟨fun z => absurd z (by omega), fun _ => ⟨fun _ => (w3 hq).1, fun z => absurd hk10 z⟩⟩), (w3 hq).2⟩⟩
end PNP
