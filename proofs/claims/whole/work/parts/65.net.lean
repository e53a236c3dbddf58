/-! the net is read anew: who covers, who comes -/
section NEA
variable {E : gw_N} {N : NM} {G : Geo}
def onK (G : Geo) (v k e : Int) : Prop := ∃ j, 0 ≤ j ∧ j < k ∧ eC G v j = e
def atK (G : Geo) (v k p : Int) : Prop := ∃ j, 0 ≤ j ∧ j < k ∧ ptC G v j = p
theorem onK_s {v k e : Int} (hk : 0 ≤ k) : onK G v (k + 1) e ↔ onK G v k e ∨ eC G v k = e := exZ_succ hk
theorem atK_s {v k p : Int} (hk : 0 ≤ k) : atK G v (k + 1) p ↔ atK G v k p ∨ ptC G v k = p := exZ_succ hk
/-- the net's rows while wire v is put down: i of its points came, k of its moves went -/
def neI (G : Geo) (v i k : Int) (N : NM) : Prop :=
  (∀ e, 0 ≤ e → e < 178 → N 23 e = sumZ v (fun u => bZ (G.laid u = 1 ∧ onC G u e)) + bZ (onK G v k e) ∧ N 24 e = sumZ v (fun u => bZ (G.laid u = 1 ∧ G.sold u = 1 ∧ onC G u e)) + bZ (G.sold v = 1 ∧ onK G v k e) ∧ (-1 ≤ N 26 e ∧ N 26 e ≤ v) ∧ (N 26 e = v ↔ onK G v k e)) ∧
  (∀ p, 0 ≤ p → p < 89 → N 25 p = sumZ v (fun u => bZ (G.laid u = 1 ∧ atC G u p)) + bZ (atK G v i p) ∧ (-1 ≤ N 27 p ∧ N 27 p ≤ v) ∧ (N 27 p = v ↔ atK G v i p))
def sNet (N N' : NM) : Prop := ∀ a, (a < 23 ∨ 29 < a) → N' a = N a
theorem sNet_t {N N1 N2 : NM} (h1 : sNet N N1) (h2 : sNet N1 N2) : sNet N N2 := fun a ha => (h2 a ha).trans (h1 a ha)
theorem sNet_w {N N' : NM} (h : sNet N N') (hw : WiresOK G N) : WiresOK G N' := hw.fr (h _ (by decide)) (h _ (by decide)) (h _ (by decide)) (h _ (by decide)) (h _ (by decide)) (h _ (by decide)) (h _ (by decide)) (h _ (by decide))
theorem pt_bd (hG : GeoR G) {v i : Int} (hv : 0 ≤ v ∧ v < G.ws) (hi : 0 ≤ i ∧ i ≤ G.mv v) : 0 ≤ ptC G v i ∧ ptC G v i < 89 := by
  have h1 := hG.px v i hv.1 hv.2 hi.1 hi.2
  have h2 := hG.py v i hv.1 hv.2 hi.1 hi.2
  have h8 := hG.w
  have h9 := hG.h
  unfold ptC
  omega
theorem ec_bd (hG : GeoR G) {v i : Int} (hv : 0 ≤ v ∧ v < G.ws) (hi : 0 ≤ i ∧ i < G.mv v) : 0 ≤ eC G v i ∧ eC G v i < 178 := by
  have h := eR_spec hG hv hi
  rw [h.1]
  exact toC_bd ⟨h.2.1, h.2.2⟩
theorem sp59 {v i k : Int} (hG : GeoR G) (hv : 0 ≤ v ∧ v < G.ws) (hi : 0 ≤ i ∧ i ≤ G.mv v) (hI : neI G v i k N) : ∃ N', Rn 59 [.ref 22, .int (J v), .int (J (ptC G v i))] (hs E (jm N)) none (hs E (jm N')) ∧ neI G v (i + 1) k N' ∧ sNet N N' := by
  have hws := hG.ws
  have hb := pt_bd hG hv hi
  obtain ⟨p1, p2, p3⟩ := hI.2 _ hb.1 hb.2
  by_cases q : N 27 (ptC G v i) = v
  · refine ⟨N, c59 (v59_0 ⟨hb, by omega, by omega, fun _ => rfl, fun z => absurd q z⟩), ⟨hI.1, ?_⟩, fun _ _ => rfl⟩
    intro p a1 a2
    obtain ⟨t1, t2, t3⟩ := hI.2 p a1 a2
    have hiff : atK G v (i + 1) p ↔ atK G v i p := by
      rw [atK_s hi.1]
      refine ⟨fun z => z.elim id (fun z => ?_), Or.inl⟩
      rw [← z]
      exact p3.mp q
    rw [bZ_congr hiff, hiff]
    exact ⟨t1, t2, t3⟩
  · refine ⟨_, c59 (v59_0 ⟨hb, by omega, by omega, fun z => absurd z q, fun _ => rfl⟩), ⟨hI.1, ?_⟩, fun a ha => by rw [upZ_n (by omega), upZ_n (by omega)]⟩
    have hno : ¬ atK G v i (ptC G v i) := fun z => q (p3.mpr z)
    intro p a1 a2
    obtain ⟨t1, t2, t3⟩ := hI.2 p a1 a2
    show updZ (N 25) (ptC G v i) (N 25 (ptC G v i) + 1) p = _ ∧ (-1 ≤ updZ (N 27) (ptC G v i) v p ∧ updZ (N 27) (ptC G v i) v p ≤ v) ∧ (updZ (N 27) (ptC G v i) v p = v ↔ _)
    rw [atK_s hi.1]
    by_cases e : p = ptC G v i
    · subst e
      rw [updZ_s, updZ_s, bZ_t (Or.inr rfl), p1, bZ_f hno]
      exact ⟨by omega, by omega, ⟨fun _ => Or.inr rfl, fun _ => rfl⟩⟩
    · rw [updZ_n e, updZ_n e]
      have hiff : (atK G v i p ∨ ptC G v i = p) ↔ atK G v i p := ⟨fun z => z.elim id (fun z => absurd z.symm e), Or.inl⟩
      rw [bZ_congr hiff, hiff]
      exact ⟨t1, t2, t3⟩
theorem sp60 {v i k : Int} (hG : GeoR G) (hw : WiresOK G N) (hv : 0 ≤ v ∧ v < G.ws) (hk : 0 ≤ k ∧ k < G.mv v) (hI : neI G v i k N) : ∃ N', Rn 60 [.ref 22, .int (J v), .int (J (eC G v k))] (hs E (jm N)) none (hs E (jm N')) ∧ neI G v i (k + 1) N' ∧ sNet N N' := by
  have hws := hG.ws
  have hb := ec_bd hG hv hk
  have hso := hG.sold v hv.1 hv.2
  obtain ⟨p1, p2, p3, p4⟩ := hI.1 _ hb.1 hb.2
  by_cases q : N 26 (eC G v k) = v
  · refine ⟨N, c60 (v60_0 ⟨hb, by omega, by omega, fun _ => rfl, fun z => absurd q z⟩), ⟨?_, hI.2⟩, fun _ _ => rfl⟩
    intro e a1 a2
    obtain ⟨t1, t2, t3, t4⟩ := hI.1 e a1 a2
    have hiff : onK G v (k + 1) e ↔ onK G v k e := by
      rw [onK_s hk.1]
      refine ⟨fun z => z.elim id (fun z => ?_), Or.inl⟩
      rw [← z]
      exact p4.mp q
    rw [hiff]
    exact ⟨t1, t2, t3, t4⟩
  · have e16 := hw.sold v hv.1 hv.2
    have e206 : ∀ N', G206 N' (G.sold v) = G.sold v := by
      intro N'
      rcases hso with h | h <;> rw [h]
      · exact G206_0
      · exact G206_1
    refine ⟨_, c60 (v60_0 ⟨hb, by omega, by omega, fun z => absurd z q, fun _ => ⟨⟨by omega, (by show N 16 v = 0 ∨ N 16 v = 1; omega), trivial⟩, ?_, rfl⟩⟩), ⟨?_, hI.2⟩, fun a ha => by rw [upZ_n (by omega), upZ_n (by omega), upZ_n (by omega)]⟩
    · show Q206 N (N 16 v)
      exact ⟨by omega, fun _ => trivial, fun _ => trivial⟩
    have hno : ¬ onK G v k (eC G v k) := fun z => q (p4.mpr z)
    intro e a1 a2
    obtain ⟨t1, t2, t3, t4⟩ := hI.1 e a1 a2
    show updZ (N 23) (eC G v k) (N 23 (eC G v k) + 1) e = _ ∧ updZ (N 24) (eC G v k) (N 24 (eC G v k) + G206 N (N 16 v)) e = _ ∧ (-1 ≤ updZ (N 26) (eC G v k) v e ∧ updZ (N 26) (eC G v k) v e ≤ v) ∧ (updZ (N 26) (eC G v k) v e = v ↔ _)
    rw [e16, e206]
    rw [onK_s hk.1]
    by_cases q2 : e = eC G v k
    · subst q2
      rw [updZ_s, updZ_s, updZ_s, bZ_t (Or.inr rfl), p1, bZ_f hno, p2, bZ_f (fun z => hno z.2)]
      refine ⟨by omega, ?_, by omega, ⟨fun _ => Or.inr rfl, fun _ => rfl⟩⟩
      rcases hso with h | h
      · rw [h, bZ_f (fun z => by have := z.1; omega)]; omega
      · rw [h, bZ_t ⟨rfl, Or.inr rfl⟩]; omega
    · rw [updZ_n q2, updZ_n q2, updZ_n q2]
      have hiff : (onK G v k e ∨ eC G v k = e) ↔ onK G v k e := ⟨fun z => z.elim id (fun z => absurd z.symm q2), Or.inl⟩
      rw [hiff]
      exact ⟨t1, t2, t3, t4⟩
theorem sp58 {v : Int} (hG : GeoR G) (hw : WiresOK G N) (hv : 0 ≤ v ∧ v < G.ws) (hI : neI G v 0 0 N) : ∃ N', Rn 58 [.ref 22, .int (J v)] (hs E (jm N)) none (hs E (jm N')) ∧ neI G v (G.mv v + 1) (G.mv v) N' ∧ sNet N N' := by
  have hws := hG.ws
  have hm := hG.mv v hv.1 hv.2
  have e153 : ∀ N', WiresOK G N' → ∀ i, 0 ≤ i → i ≤ G.mv v → G153 N' v i = ptC G v i ∧ Q153 N' v i := by
    intro N' h i i1 i2
    refine ⟨?_, ?_⟩
    · exact h.pt v i hv.1 hv.2 i1 i2
    · unfold Q153
      (repeat' (first | omega | exact True.intro | exact absurd True.intro ‹¬ True› | apply And.intro | intro _))
  have e154 : ∀ N', WiresOK G N' → ∀ i, 0 ≤ i → i < G.mv v → G154 N' v i = eC G v i ∧ Q154 N' v i := by
    intro N' h i i1 i2
    refine ⟨?_, ?_⟩
    · exact h.er v i hv.1 hv.2 i1 i2
    · unfold Q154
      (repeat' (first | omega | exact True.intro | exact absurd True.intro ‹¬ True› | apply And.intro | intro _))
  have key := loopZ (a := 0) (n := G.mv v) (Q := fun i => ∀ N1, sNet N N1 → neI G v (i + 1) i N1 → ∃ N', (neI G v (G.mv v + 1) (G.mv v) N' ∧ sNet N N') ∧ Ev 3 58 16 [some (.ref 22), some (.int (J v)), some (.int (J i))] [] (hs E (jm N1)) (none, hs E (jm N'))) (by omega) ?_ ?_
  · obtain ⟨N1, r1, r2, r3⟩ := sp59 (E := E) hG hv (i := 0) (by omega) hI
    obtain ⟨N', k1, k2⟩ := key N1 r3 r2
    obtain ⟨d1, d2⟩ := e153 N hw 0 (by omega) (by omega)
    refine ⟨N', c58 (v58_0 ⟨d2, N1, ?_, k2⟩), k1.1, k1.2⟩
    rw [d1]
    exact r1
  · intro N1 s1 i1
    refine ⟨N1, ⟨i1, s1⟩, v58_16 ?_⟩
    rw [show G149 N1 v = G.mv v from (sNet_w s1 hw).mv v hv.1 hv.2]
    exact ⟨⟨by omega, trivial⟩, by omega, by omega, fun _ => rfl, fun z => absurd (Int.le_refl _) z⟩
  · intro i i1 i2 ih N1 s1 j1
    obtain ⟨N2, r1, r2, r3⟩ := sp59 (E := E) hG hv (i := i + 1) (by omega) j1
    have w2 := sNet_w (sNet_t s1 r3) hw
    obtain ⟨N3, t1, t2, t3⟩ := sp60 (E := E) hG w2 hv (k := i) ⟨i1, i2⟩ r2
    obtain ⟨N', k1, k2⟩ := ih N3 (sNet_t (sNet_t s1 r3) t3) t2
    obtain ⟨d1, d2⟩ := e153 N1 (sNet_w s1 hw) (i + 1) (by omega) (by omega)
    obtain ⟨d3, d4⟩ := e154 N2 w2 i i1 i2
    refine ⟨N', k1, v58_16 ?_⟩
    rw [show G149 N1 v = G.mv v from (sNet_w s1 hw).mv v hv.1 hv.2, d1]
    refine ⟨⟨by omega, trivial⟩, by omega, by omega, fun z => absurd z (by omega), fun _ => ⟨d2, N2, r1, d4, N3, ?_, k2⟩⟩
    rw [d3]
    exact t1
theorem neI_next {v : Int} (hv : 0 ≤ v) (hl : G.laid v = 1) (h : neI G v (G.mv v + 1) (G.mv v) N) : neI G (v + 1) 0 0 N := by
  refine ⟨fun e a1 a2 => ?_, fun p a1 a2 => ?_⟩
  · obtain ⟨t1, t2, t3, t4⟩ := h.1 e a1 a2
    rw [sumZ_succ hv, sumZ_succ hv, t1, t2, bZ_f (show ¬ onK G (v + 1) 0 e from exZ_0), bZ_f (show ¬ (G.sold (v + 1) = 1 ∧ onK G (v + 1) 0 e) from fun z => exZ_0 z.2), Int.add_zero, Int.add_zero]
    refine ⟨?_, ?_, by omega, ⟨fun z => by omega, fun z => absurd z exZ_0⟩⟩
    · congr 1
      exact bZ_congr ⟨fun z => ⟨hl, z⟩, fun z => z.2⟩
    · congr 1
      exact bZ_congr ⟨fun z => ⟨hl, z⟩, fun z => z.2⟩
  · obtain ⟨t1, t2, t3⟩ := h.2 p a1 a2
    rw [sumZ_succ hv, t1, bZ_f (show ¬ atK G (v + 1) 0 p from exZ_0), Int.add_zero]
    refine ⟨?_, by omega, ⟨fun z => by omega, fun z => absurd z exZ_0⟩⟩
    congr 1
    exact bZ_congr ⟨fun z => ⟨hl, z⟩, fun z => z.2⟩
theorem neI_skip {v : Int} (hv : 0 ≤ v) (hl : ¬ G.laid v = 1) (h : neI G v 0 0 N) : neI G (v + 1) 0 0 N := by
  refine ⟨fun e a1 a2 => ?_, fun p a1 a2 => ?_⟩
  · obtain ⟨t1, t2, t3, t4⟩ := h.1 e a1 a2
    rw [bZ_f (show ¬ onK G v 0 e from exZ_0), Int.add_zero] at t1
    rw [bZ_f (show ¬ (G.sold v = 1 ∧ onK G v 0 e) from fun z => exZ_0 z.2), Int.add_zero] at t2
    rw [sumZ_succ hv, sumZ_succ hv, t1, t2, bZ_f (show ¬ onK G (v + 1) 0 e from exZ_0), bZ_f (show ¬ (G.sold (v + 1) = 1 ∧ onK G (v + 1) 0 e) from fun z => exZ_0 z.2), bZ_f (fun z => hl z.1), bZ_f (fun z => hl z.1)]
    exact ⟨by omega, by omega, by omega, ⟨fun z => by omega, fun z => absurd z exZ_0⟩⟩
  · obtain ⟨t1, t2, t3⟩ := h.2 p a1 a2
    rw [bZ_f (show ¬ atK G v 0 p from exZ_0), Int.add_zero] at t1
    rw [sumZ_succ hv, t1, bZ_f (show ¬ atK G (v + 1) 0 p from exZ_0), bZ_f (fun z => hl z.1)]
    exact ⟨by omega, by omega, ⟨fun z => by omega, fun z => absurd z exZ_0⟩⟩
theorem neI_end (h : neI G G.ws 0 0 N) : (∀ e, 0 ≤ e → e < 178 → N 23 e = covC G e) ∧ (∀ e, 0 ≤ e → e < 178 → N 24 e = solC G e) ∧ (∀ p, 0 ≤ p → p < 89 → N 25 p = comC G p) := by
  refine ⟨fun e a1 a2 => ?_, fun e a1 a2 => ?_, fun p a1 a2 => ?_⟩
  · rw [(h.1 e a1 a2).1, bZ_f (show ¬ onK G G.ws 0 e from exZ_0), Int.add_zero]
    rfl
  · rw [(h.1 e a1 a2).2.1, bZ_f (fun z => exZ_0 z.2), Int.add_zero]
    rfl
  · rw [(h.2 p a1 a2).1, bZ_f (show ¬ atK G G.ws 0 p from exZ_0), Int.add_zero]
    rfl
end NEA
