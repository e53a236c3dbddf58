/-! which wires are held; the net read anew -/
section NEH
variable {E : gw_N} {N : NM} {G : Geo}
def sHol (N N' : NM) : Prop := ∀ a, (a < 28 ∨ 29 < a) → N' a = N a
theorem sHol_t {N N1 N2 : NM} (h1 : sHol N N1) (h2 : sHol N1 N2) : sHol N N2 := fun a ha => (h2 a ha).trans (h1 a ha)
theorem sHol_n {N N' : NM} (h : sHol N N') : sNet N N' := fun a ha => h a (by omega)
theorem sHol_w {N N' : NM} (h : sHol N N') (hw : WiresOK G N) : WiresOK G N' := sNet_w (sHol_n h) hw
/-- wires marked as held are held, and their points are marked -/
def hpI (G : Geo) (N : NM) : Prop :=
  (∀ u, 0 ≤ u → u < G.ws → (N 28 u = 0 ∨ N 28 u = 1) ∧ (N 28 u = 1 → heldZ G u)) ∧
  (∀ p, 0 ≤ p → p < 89 → (N 29 p = 0 ∨ N 29 p = 1) ∧ (N 29 p = 1 ↔ ∃ u, 0 ≤ u ∧ u < G.ws ∧ N 28 u = 1 ∧ atC G u p))
theorem at_bd (hG : GeoR G) {v p : Int} (hv : 0 ≤ v ∧ v < G.ws) (h : atC G v p) : 0 ≤ p ∧ p < 89 := by
  obtain ⟨i, i1, i2, i3⟩ := h
  rw [← i3]
  exact pt_bd hG hv ⟨i1, by omega⟩
/-- a wire that the marks hold -/
def hnow (G : Geo) (N : NM) (v : Int) : Prop := 0 < benZ G v ∨ ∃ p, atC G v p ∧ N 29 p = 1
theorem w_pt (hG : GeoR G) (hw : WiresOK G N) {v i : Int} (hv : 0 ≤ v ∧ v < G.ws) (hi : 0 ≤ i ∧ i ≤ G.mv v) : G153 N v i = ptC G v i ∧ Q153 N v i := by
  have hm := hG.mv v hv.1 hv.2
  have hws := hG.ws
  refine ⟨hw.pt v i hv.1 hv.2 hi.1 hi.2, ?_⟩
  unfold Q153
  (repeat' (first | omega | exact True.intro | exact absurd True.intro ‹¬ True› | apply And.intro | intro _))
theorem sp62 {v : Int} (hG : GeoR G) (hw : WiresOK G N) (hv : 0 ≤ v ∧ v < G.ws) (hI : hpI G N) : Rn 62 [.ref 22, .int (J v)] (hs E (jm N)) (some (.int (J (bZ (hnow G N v))))) (hs E (jm N)) := by
  have hws := hG.ws
  have hm := hG.mv v hv.1 hv.2
  have hbb := ben_bd hG hv
  have e18 := hw.ben v hv.1 hv.2
  have e149 : G149 N v = G.mv v := hw.mv v hv.1 hv.2
  have q152 : Q152 N v := by
    unfold Q152
    rw [e18]
    (repeat' (first | omega | exact True.intro | exact absurd True.intro ‹¬ True› | apply And.intro | intro _))
  refine c62 (v62_0 ?_)
  unfold G152
  rw [e18]
  by_cases hb : benZ G v ≤ 0
  · rw [if_pos hb]
    refine ⟨q152, by decide, fun _ => ?_, fun z => absurd rfl z⟩
    have h0 := loopZ (a := 0) (n := G.mv v + 1) (Q := fun i => (∀ j, 0 ≤ j → j < i → N 29 (ptC G v j) = 0) → Ev 2 62 15 [some (.ref 22), some (.int (J v)), some (.int (J i))] [] (hs E (jm N)) (some (.int (J (bZ (hnow G N v)))), (hs E (jm N)))) (by omega) ?_ ?_
    · exact h0 (fun j j1 j2 => absurd j2 (by omega))
    · intro hz
      refine v62_15 ?_
      rw [e149]
      refine ⟨⟨by omega, trivial⟩, by omega, by omega, fun _ => ?_, fun z => absurd (by omega) z⟩
      rw [bZ_f]
      rintro (z | ⟨p, ⟨i, i1, i2, i3⟩, z⟩)
      · omega
      · rw [← i3, hz i i1 i2] at z
        exact absurd z (by decide)
    · intro i i1 i2 ih hz
      have hpb := pt_bd hG hv (i := i) (by omega)
      obtain ⟨d1, d2⟩ := w_pt hG hw hv (i := i) (by omega)
      have h29 := (hI.2 _ hpb.1 hpb.2).1
      refine v62_15 ?_
      rw [e149, d1]
      refine ⟨⟨by omega, trivial⟩, by omega, by omega, fun z => absurd z (by omega), fun _ => ⟨d2, hpb, by omega, fun z => ih ?_, fun z => ?_⟩⟩
      · intro j j1 j2
        by_cases e : j = i
        · rw [e]; exact z
        · exact hz j j1 (by omega)
      · rw [bZ_t]
        exact Or.inr ⟨_, ⟨i, i1, i2, rfl⟩, by omega⟩
  · rw [if_neg hb]
    refine ⟨q152, by decide, fun z => absurd z (by decide), fun _ => ?_⟩
    rw [bZ_t (show hnow G N v from Or.inl (by omega))]
theorem sp63 {v : Int} (hG : GeoR G) (hw : WiresOK G N) (hv : 0 ≤ v ∧ v < G.ws) : ∃ N', Rn 63 [.ref 22, .int (J v)] (hs E (jm N)) none (hs E (jm N')) ∧ sHol N N' ∧ N' 28 = updZ (N 28) v 1 ∧ (∀ p, (atC G v p → N' 29 p = 1) ∧ (¬ atC G v p → N' 29 p = N 29 p)) := by
  have hws := hG.ws
  have hm := hG.mv v hv.1 hv.2
  have key := loopZ (a := 0) (n := G.mv v + 1) (Q := fun i => ∀ N1, sHol N N1 → N1 28 = updZ (N 28) v 1 → (∀ p, (atK G v i p → N1 29 p = 1) ∧ (¬ atK G v i p → N1 29 p = N 29 p)) → ∃ N', (sHol N N' ∧ N' 28 = updZ (N 28) v 1 ∧ (∀ p, (atC G v p → N' 29 p = 1) ∧ (¬ atC G v p → N' 29 p = N 29 p))) ∧ Ev 2 63 9 [some (.ref 22), some (.int (J v)), some (.int (J i))] [] (hs E (jm N1)) (none, hs E (jm N'))) (by omega) ?_ ?_
  · obtain ⟨N', k1, k2⟩ := key (upZ N 28 (updZ (N 28) v 1)) (fun a ha => by rw [upZ_n (by omega)]) upZ_s (fun p => ⟨fun z => absurd z exZ_0, fun _ => rfl⟩)
    exact ⟨N', c63 (v63_0 ⟨by omega, k2⟩), k1⟩
  · intro N1 s1 s2 s3
    refine ⟨N1, ⟨s1, s2, s3⟩, v63_9 ?_⟩
    rw [show G149 N1 v = G.mv v from (sHol_w s1 hw).mv v hv.1 hv.2]
    exact ⟨⟨by omega, trivial⟩, by omega, by omega, fun _ => rfl, fun z => absurd (by omega) z⟩
  · intro i i1 i2 ih N1 s1 s2 s3
    have hpb := pt_bd hG hv (i := i) (by omega)
    obtain ⟨d1, d2⟩ := w_pt hG (sHol_w s1 hw) hv (i := i) (by omega)
    have hq9 := ih (upZ N1 29 (updZ (N1 29) (ptC G v i) 1)) (fun a ha => by rw [upZ_n (by omega)]; exact s1 a ha) s2 ?_
    · obtain ⟨N', k1, k2⟩ := hq9
      refine ⟨N', k1, v63_9 ?_⟩
      rw [show G149 N1 v = G.mv v from (sHol_w s1 hw).mv v hv.1 hv.2, d1]
      exact ⟨⟨by omega, trivial⟩, by omega, by omega, fun z => absurd z (by omega), fun _ => ⟨d2, hpb, k2⟩⟩
    · intro p
      rw [atK_s i1, upZ_s]
      by_cases e : p = ptC G v i
      · rw [e, updZ_s]
        exact ⟨fun _ => rfl, fun z => absurd (Or.inr rfl) z⟩
      · rw [updZ_n e]
        exact ⟨fun z => (s3 p).1 (z.elim id (fun z => absurd z.symm e)), fun z => (s3 p).2 (fun y => z (Or.inl y))⟩
theorem hp_hold {N' : NM} {v : Int} (hG : GeoR G) (hv : 0 ≤ v ∧ v < G.ws) (hl : G.laid v = 1) (hI : hpI G N) (hn : hnow G N v) (h0 : N 28 v = 0) (h28 : N' 28 = updZ (N 28) v 1) (h29 : ∀ p, (atC G v p → N' 29 p = 1) ∧ (¬ atC G v p → N' 29 p = N 29 p)) : hpI G N' ∧ sumZ G.ws (N' 28) = sumZ G.ws (N 28) + 1 := by
  have hh : heldZ G v := by
    rcases hn with z | ⟨p, p1, p2⟩
    · exact heldZ_base hv.1 hv.2 hl z
    · have hpb := at_bd hG hv p1
      obtain ⟨u, u1, u2, u3, u4⟩ := (hI.2 p hpb.1 hpb.2).2.mp p2
      exact heldZ_next ((hI.1 u u1 u2).2 u3) hv.1 hv.2 hl ⟨p, u4, p1⟩
  refine ⟨⟨fun u u1 u2 => ?_, fun p p1 p2 => ?_⟩, ?_⟩
  · rw [h28]
    by_cases e : u = v
    · rw [e, updZ_s]
      exact ⟨Or.inr rfl, fun _ => hh⟩
    · rw [updZ_n e]
      exact hI.1 u u1 u2
  · obtain ⟨t1, t2⟩ := hI.2 p p1 p2
    rw [h28]
    by_cases q : atC G v p
    · rw [(h29 p).1 q]
      exact ⟨Or.inr rfl, fun _ => ⟨v, hv.1, hv.2, updZ_s, q⟩, fun _ => rfl⟩
    · rw [(h29 p).2 q]
      refine ⟨t1, t2.trans ⟨?_, ?_⟩⟩
      · rintro ⟨u, u1, u2, u3, u4⟩
        refine ⟨u, u1, u2, ?_, u4⟩
        rw [updZ_n (show ¬ u = v from fun e => q (by rw [← e]; exact u4))]
        exact u3
      · rintro ⟨u, u1, u2, u3, u4⟩
        refine ⟨u, u1, u2, ?_, u4⟩
        rw [updZ_n (show ¬ u = v from fun e => q (by rw [← e]; exact u4))] at u3
        exact u3
  · rw [h28, sumZ_upd hv]
    omega
theorem hp_done (hG : GeoR G) (hI : hpI G N) (hc : ∀ u, 0 ≤ u → u < G.ws → G.laid u = 1 → N 28 u = 0 → ¬ hnow G N u) : ∀ v, 0 ≤ v → v < G.ws → N 28 v = bZ (heldZ G v) := by
  intro v v1 v2
  obtain ⟨t1, t2⟩ := hI.1 v v1 v2
  by_cases z : heldZ G v
  · rw [bZ_t z]
    have := z (fun u => 0 ≤ u ∧ u < G.ws ∧ G.laid u = 1 ∧ N 28 u = 1) (fun u u1 u2 u3 u4 => ⟨u1, u2, u3, by
      rcases (hI.1 u u1 u2).1 with e | e
      · exact absurd (Or.inl u4) (hc u u1 u2 u3 e)
      · exact e⟩) (fun a b ha b1 b2 b3 b4 => ⟨b1, b2, b3, by
      rcases (hI.1 b b1 b2).1 with e | e
      · obtain ⟨p, p1, p2⟩ := b4
        have hpb := at_bd hG ⟨b1, b2⟩ p2
        exact absurd (Or.inr ⟨p, p2, (hI.2 p hpb.1 hpb.2).2.mpr ⟨a, ha.1, ha.2.1, ha.2.2.2, p1⟩⟩) (hc b b1 b2 b3 e)
      · exact e⟩)
    exact this.2.2.2
  · rw [bZ_f z]
    rcases t1 with e | e
    · exact e
    · exact absurd (t2 e) z
/-- in a round: nothing new yet, and all before v were looked at; or something new -/
def hrI (G : Geo) (N0 N : NM) (v m : Int) : Prop := hpI G N ∧ sHol N0 N ∧ ((m = 0 ∧ N = N0 ∧ ∀ u, 0 ≤ u → u < v → G.laid u = 1 → N 28 u = 0 → ¬ hnow G N u) ∨ (m = 1 ∧ sumZ G.ws (N0 28) + 1 ≤ sumZ G.ws (N 28)))
theorem sp61 (hG : GeoR G) (hw : WiresOK G N) : ∃ N', Rn 61 [.ref 22] (hs E (jm N)) none (hs E (jm N')) ∧ sHol N N' ∧ ∀ v, 0 ≤ v → v < G.ws → N' 28 v = bZ (heldZ G v) := by
  have hws := hG.ws
  have sbd : ∀ N', hpI G N' → 0 ≤ sumZ G.ws (N' 28) ∧ sumZ G.ws (N' 28) ≤ 30 := by
    intro N' h
    have := sumZ_bd' (g := N' 28) (n := G.ws) (B := 30) (c := 1) (fun k k1 k2 => by have := (h.1 k k1 k2).1; omega) hws.1 hws.2 (by decide)
    omega
  have round := loopZ (a := 0) (n := 31) (Q := fun r => ∀ N1, sHol N N1 → hpI G N1 → r ≤ sumZ G.ws (N1 28) → ∃ N', (sHol N N' ∧ ∀ v, 0 ≤ v → v < G.ws → N' 28 v = bZ (heldZ G v)) ∧ Ev 3 61 20 [some (.ref 22), some (.int (J 1)), some (.int (J r)), none] [] (hs E (jm N1)) (none, hs E (jm N'))) (by decide) ?_ ?_
  · have s0 : sHol N (upZ (upZ N 28 (fiF (N 28) 0 30)) 29 (fiF (N 29) 0 89)) := fun a ha => by rw [upZ_n (by omega), upZ_n (by omega)]
    have hq9 := round (upZ (upZ N 28 (fiF (N 28) 0 30)) 29 (fiF (N 29) 0 89)) s0 ⟨fun u u1 u2 => ?_, fun p p1 p2 => ?_⟩ ?_
    · obtain ⟨N', k1, k2⟩ := hq9
      exact ⟨N', c61 (v61_0 ⟨_, fi28, _, fi29, k2⟩), k1⟩
    · have e : (upZ (upZ N 28 (fiF (N 28) 0 30)) 29 (fiF (N 29) 0 89)) 28 u = 0 := fiF_in ⟨u1, by omega⟩
      rw [e]
      exact ⟨Or.inl rfl, fun z => absurd z (by decide)⟩
    · have e : (upZ (upZ N 28 (fiF (N 28) 0 30)) 29 (fiF (N 29) 0 89)) 29 p = 0 := fiF_in ⟨p1, p2⟩
      rw [e]
      refine ⟨Or.inl rfl, fun z => absurd z (by decide), ?_⟩
      rintro ⟨u, u1, u2, u3, u4⟩
      have e : (upZ (upZ N 28 (fiF (N 28) 0 30)) 29 (fiF (N 29) 0 89)) 28 u = 0 := fiF_in ⟨u1, by omega⟩
      rw [e] at u3
      exact absurd u3 (by decide)
    · rw [sumZ_zero]
      · exact Int.le_refl _
      · intro u u1 u2
        exact fiF_in (f := N 28) (x := 0) (n := 30) ⟨u1, by omega⟩
  · intro N1 s1 h1 hr
    have := sbd N1 h1
    omega
  · intro r r1 r2 ih N1 s1 h1 hr
    have inner := loopZ (a := 0) (n := G.ws) (Q := fun v => ∀ N2 m, hrI G N1 N2 v m → ∃ N', (sHol N N' ∧ ∀ v, 0 ≤ v → v < G.ws → N' 28 v = bZ (heldZ G v)) ∧ Ev 3 61 34 [some (.ref 22), some (.int (J m)), some (.int (J r)), some (.int (J v))] [] (hs E (jm N2)) (none, hs E (jm N'))) hws.1 ?_ ?_
    · obtain ⟨N', k1, k2⟩ := inner N1 0 ⟨h1, fun _ _ => rfl, Or.inl ⟨rfl, rfl, fun u u1 u2 => absurd u2 (by omega)⟩⟩
      exact ⟨N', k1, v61_20 ⟨by decide, fun z => absurd z (by decide), fun _ => ⟨by omega, fun z => absurd z (by omega), fun _ => k2⟩⟩⟩
    · intro N2 m h2
      have hw2 := sHol_w (sHol_t s1 h2.2.1) hw
      rcases h2.2.2 with ⟨m0, e, hc⟩ | ⟨m1, hs1⟩
      · subst m0
        refine ⟨N2, ⟨sHol_t s1 h2.2.1, hp_done hG h2.1 hc⟩, v61_34 ?_⟩
        rw [show G143 N2 = G.ws from hw2.ws]
        exact ⟨by omega, by omega, fun _ => v61_20 ⟨by decide, fun _ => rfl, fun z => absurd rfl z⟩, fun z => absurd (Int.le_refl _) z⟩
      · subst m1
        obtain ⟨N', k1, k2⟩ := ih N2 (sHol_t s1 h2.2.1) h2.1 (by omega)
        refine ⟨N', k1, v61_34 ?_⟩
        rw [show G143 N2 = G.ws from hw2.ws]
        exact ⟨by omega, by omega, fun _ => k2, fun z => absurd (Int.le_refl _) z⟩
    · intro v v1 v2 ih2 N2 m h2
      have hw2 := sHol_w (sHol_t s1 h2.2.1) hw
      have hla := hG.laid v v1 v2
      have e145 : G145 N2 v = G.laid v := hw2.laid v v1 v2
      have q145 : Q145 N2 v := by
        refine ⟨by omega, ?_, trivial⟩
        rw [hw2.laid v v1 v2]
        exact hla
      have h28 := (h2.1.1 v v1 v2).1
      -- nothing new here
      have go : (G.laid v = 1 → N2 28 v = 0 → ¬ hnow G N2 v) → ∃ N', (sHol N N' ∧ ∀ v, 0 ≤ v → v < G.ws → N' 28 v = bZ (heldZ G v)) ∧ Ev 3 61 34 [some (.ref 22), some (.int (J m)), some (.int (J r)), some (.int (J (v + 1)))] [] (hs E (jm N2)) (none, hs E (jm N')) := by
        intro hn
        refine ih2 N2 m ⟨h2.1, h2.2.1, ?_⟩
        rcases h2.2.2 with ⟨m0, e, hc⟩ | ⟨m1, hs1⟩
        · refine Or.inl ⟨m0, e, fun u u1 u2 => ?_⟩
          by_cases q : u = v
          · rw [q]; exact hn
          · exact hc u u1 (by omega)
        · exact Or.inr ⟨m1, hs1⟩
      by_cases la : G.laid v = 1
      · by_cases c0 : N2 28 v = 0
        · have hr62 := sp62 (E := E) hG hw2 ⟨v1, v2⟩ h2.1
          have m1 := bZ_01 (p := hnow G N2 v)
          by_cases hn : hnow G N2 v
          · obtain ⟨N3, t1, t2, t3, t4⟩ := sp63 (E := E) hG hw2 ⟨v1, v2⟩
            obtain ⟨j1, j2⟩ := hp_hold hG ⟨v1, v2⟩ la h2.1 hn c0 t3 t4
            obtain ⟨N', k1, k2⟩ := ih2 N3 1 ⟨j1, sHol_t h2.2.1 t2, Or.inr ⟨rfl, by
              rcases h2.2.2 with ⟨m0, e, hc⟩ | ⟨m1, hs1⟩
              · rw [e] at j2; omega
              · omega⟩⟩
            refine ⟨N', k1, v61_34 ?_⟩
            rw [show G143 N2 = G.ws from hw2.ws, e145]
            exact ⟨by omega, by omega, fun z => absurd z (by omega), fun _ => ⟨q145, by omega, fun z => by omega, fun _ => ⟨by omega, by omega, fun _ => ⟨_, hr62, by omega, fun z => absurd hn (bZ_0.mp z), fun _ => ⟨N3, t1, k2⟩⟩, fun z => absurd c0 z⟩⟩⟩
          · obtain ⟨N', k1, k2⟩ := go (fun _ _ => hn)
            refine ⟨N', k1, v61_34 ?_⟩
            rw [show G143 N2 = G.ws from hw2.ws, e145]
            exact ⟨by omega, by omega, fun z => absurd z (by omega), fun _ => ⟨q145, by omega, fun z => by omega, fun _ => ⟨by omega, by omega, fun _ => ⟨_, hr62, by omega, fun _ => k2, fun z => absurd (bZ_f hn) z⟩, fun z => absurd c0 z⟩⟩⟩
        · obtain ⟨N', k1, k2⟩ := go (fun _ z => absurd z c0)
          refine ⟨N', k1, v61_34 ?_⟩
          rw [show G143 N2 = G.ws from hw2.ws, e145]
          exact ⟨by omega, by omega, fun z => absurd z (by omega), fun _ => ⟨q145, by omega, fun z => by omega, fun _ => ⟨by omega, by omega, fun z => absurd z c0, fun _ => k2⟩⟩⟩
      · obtain ⟨N', k1, k2⟩ := go (fun z => absurd z la)
        refine ⟨N', k1, v61_34 ?_⟩
        rw [show G143 N2 = G.ws from hw2.ws, e145]
        exact ⟨by omega, by omega, fun z => absurd z (by omega), fun _ => ⟨q145, by omega, fun _ => k2, fun z => by omega⟩⟩
theorem sp57 (hG : GeoR G) (hw : WiresOK G N) : ∃ N', Rn 57 [.ref 22] (hs E (jm N)) none (hs E (jm N')) ∧ NetOK G N' ∧ sNet N N' := by
  have hws := hG.ws
  have key := loopZ (a := 0) (n := G.ws) (Q := fun v => ∀ N1, sNet N N1 → neI G v 0 0 N1 → ∃ N', (NetOK G N' ∧ sNet N N') ∧ Ev 4 57 42 [some (.ref 22), some (.int (J v))] [] (hs E (jm N1)) (none, hs E (jm N'))) hws.1 ?_ ?_
  · have hq9 := key (upZ (upZ (upZ (upZ (upZ N 23 (fiF (N 23) 0 178)) 24 (fiF (N 24) 0 178)) 25 (fiF (N 25) 0 89)) 26 (fiF (N 26) (-1) 178)) 27 (fiF (N 27) (-1) 89)) (fun a ha => by rw [upZ_n (by omega), upZ_n (by omega), upZ_n (by omega), upZ_n (by omega), upZ_n (by omega)]) ⟨fun e a1 a2 => ?_, fun p a1 a2 => ?_⟩
    · obtain ⟨N', k1, k2⟩ := hq9
      exact ⟨N', c57 (v57_0 ⟨_, fi23, _, fi24, _, fi25, _, fi26, _, fi27, k2⟩), k1⟩
    · show fiF (N 23) 0 178 e = _ ∧ fiF (N 24) 0 178 e = _ ∧ (-1 ≤ fiF (N 26) (-1) 178 e ∧ fiF (N 26) (-1) 178 e ≤ 0) ∧ (fiF (N 26) (-1) 178 e = 0 ↔ _)
      rw [fiF_in ⟨a1, a2⟩, fiF_in ⟨a1, a2⟩, fiF_in ⟨a1, a2⟩, bZ_f (show ¬ onK G 0 0 e from exZ_0), bZ_f (show ¬ (G.sold 0 = 1 ∧ onK G 0 0 e) from fun z => exZ_0 z.2)]
      exact ⟨rfl, rfl, by decide, ⟨fun z => absurd z (by decide), fun z => absurd z exZ_0⟩⟩
    · show fiF (N 25) 0 89 p = _ ∧ (-1 ≤ fiF (N 27) (-1) 89 p ∧ fiF (N 27) (-1) 89 p ≤ 0) ∧ (fiF (N 27) (-1) 89 p = 0 ↔ _)
      rw [fiF_in ⟨a1, a2⟩, fiF_in ⟨a1, a2⟩, bZ_f (show ¬ atK G 0 0 p from exZ_0)]
      exact ⟨rfl, by decide, ⟨fun z => absurd z (by decide), fun z => absurd z exZ_0⟩⟩
  · intro N1 s1 h1
    have hw1 := sNet_w s1 hw
    obtain ⟨N2, t1, t2, t3⟩ := sp61 (E := E) hG hw1
    obtain ⟨n1, n2, n3⟩ := neI_end h1
    refine ⟨N2, ⟨NetOK.mk (by rw [t2 23 (by decide)]; exact n1) (by rw [t2 24 (by decide)]; exact n2) (by rw [t2 25 (by decide)]; exact n3) t3, sNet_t s1 (sHol_n t2)⟩, v57_42 ?_⟩
    rw [show G143 N1 = G.ws from hw1.ws]
    exact ⟨by omega, by omega, fun _ => ⟨N2, t1, rfl⟩, fun z => absurd (Int.le_refl _) z⟩
  · intro v v1 v2 ih N1 s1 h1
    have hw1 := sNet_w s1 hw
    have hla := hG.laid v v1 v2
    have e145 : G145 N1 v = G.laid v := hw1.laid v v1 v2
    have q145 : Q145 N1 v := by
      refine ⟨by omega, ?_, trivial⟩
      rw [hw1.laid v v1 v2]
      exact hla
    by_cases la : G.laid v = 1
    · obtain ⟨N2, t1, t2, t3⟩ := sp58 (E := E) hG hw1 ⟨v1, v2⟩ h1
      obtain ⟨N', k1, k2⟩ := ih N2 (sNet_t s1 t3) (neI_next v1 la t2)
      refine ⟨N', k1, v57_42 ?_⟩
      rw [show G143 N1 = G.ws from hw1.ws, e145]
      exact ⟨by omega, by omega, fun z => absurd z (by omega), fun _ => ⟨q145, by omega, fun z => by omega, fun _ => ⟨N2, t1, k2⟩⟩⟩
    · obtain ⟨N', k1, k2⟩ := ih N1 s1 (neI_skip v1 la h1)
      refine ⟨N', k1, v57_42 ?_⟩
      rw [show G143 N1 = G.ws from hw1.ws, e145]
      exact ⟨by omega, by omega, fun z => absurd z (by omega), fun _ => ⟨q145, by omega, fun _ => k2, fun z => by omega⟩⟩
end NEH
