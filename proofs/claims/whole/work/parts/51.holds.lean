/-! what is held, as the reference finds it -/
section HOL
variable {E : gw_N} {N : NM} {P : Pic} {G : Geo}
theorem sp228 {v x y : Int} (hI : PicOK P) (hR : RefOK P N) (hv : 0 ≤ v ∧ v < P.toGeo.ws) (hx : 0 ≤ x ∧ x ≤ 8) (hy : 0 ≤ y ∧ y ≤ 8) : Rn 228 [.ref 59, .int (J v), .int (J x), .int (J y)] (hs E (jm N)) (some (.int (J (bZ (atC P.toGeo v (10 * y + x)))))) (hs E (jm N)) := by
  have hws := hI.geo.ws
  have hm := hI.geo.mv v hv.1 hv.2
  have h8 := hI.geo.w
  have h9 := hI.geo.h
  unfold atC
  refine c228 (v228_0 ?_)
  have h0 := loopZ (a := 0) (n := P.toGeo.mv v + 1) (Q := fun k => Ev 1 228 6 [some (.ref 59), some (.int (J v)), some (.int (J x)), some (.int (J y)), some (.int (J (bZ (∃ i, 0 ≤ i ∧ i < k ∧ ptC P.toGeo v i = 10 * y + x)))), some (.int (J k))] [] (hs E (jm N)) (some (.int (J (bZ (∃ i, 0 ≤ i ∧ i < P.toGeo.mv v + 1 ∧ ptC P.toGeo v i = 10 * y + x)))), (hs E (jm N)))) (by omega) ?_ ?_
  · rw [bZ_f exZ_0] at h0
    exact h0
  · have h01 := bZ_01 (p := ∃ i, 0 ≤ i ∧ i < P.toGeo.mv v + 1 ∧ ptC P.toGeo v i = 10 * y + x)
    refine v228_6 ?_
    rw [hR.mv]
    ((repeat' (first | omega | exact True.intro | exact absurd True.intro ‹¬ True› | apply And.intro | intro _)) <;> rfl)
  · intro k k1 k2 ih
    have a1 := hI.geo.px v k hv.1 hv.2 (by omega) (by omega)
    have a2 := hI.geo.py v k hv.1 hv.2 (by omega) (by omega)
    refine v228_6 ?_
    rw [hR.mv, hR.px, hR.py]
    rw [show (∃ i, 0 ≤ i ∧ i < k + 1 ∧ ptC P.toGeo v i = 10 * y + x) = ((∃ i, 0 ≤ i ∧ i < k ∧ ptC P.toGeo v i = 10 * y + x) ∨ ptC P.toGeo v k = 10 * y + x) from propext (exZ_succ k1)] at ih
    have eP : ptC P.toGeo v k = 10 * P.toGeo.py (25 * v + k) + P.toGeo.px (25 * v + k) := rfl
    by_cases hx2 : ∃ i, 0 ≤ i ∧ i < k ∧ ptC P.toGeo v i = 10 * y + x
    · rw [bZ_t hx2]
      rw [bZ_t (Or.inl hx2)] at ih
      (repeat' (first | omega | exact True.intro | exact absurd True.intro ‹¬ True› | apply And.intro | intro _))
      all_goals exact ih
    · rw [bZ_f hx2]
      by_cases q : ptC P.toGeo v k = 10 * y + x
      · rw [bZ_t (Or.inr q)] at ih
        (repeat' (first | omega | exact True.intro | exact absurd True.intro ‹¬ True› | apply And.intro | intro _))
        all_goals exact ih
      · rw [bZ_f (fun z => z.elim hx2 q)] at ih
        (repeat' (first | omega | exact True.intro | exact absurd True.intro ‹¬ True› | apply And.intro | intro _))
        all_goals exact ih
theorem sp229 {a b : Int} (hI : PicOK P) (hR : RefOK P N) (ha : 0 ≤ a ∧ a < P.toGeo.ws) (hb : 0 ≤ b ∧ b < P.toGeo.ws) : Rn 229 [.ref 59, .int (J a), .int (J b)] (hs E (jm N)) (some (.int (J (bZ (touchZ P.toGeo a b))))) (hs E (jm N)) := by
  have hws := hI.geo.ws
  have hm := hI.geo.mv a ha.1 ha.2
  have h8 := hI.geo.w
  have h9 := hI.geo.h
  have eq : touchZ P.toGeo a b = (∃ i, 0 ≤ i ∧ i < P.toGeo.mv a + 1 ∧ atC P.toGeo b (ptC P.toGeo a i)) := by
    refine propext ⟨?_, ?_⟩
    · rintro ⟨p, ⟨i, i1, i2, i3⟩, hp⟩
      exact ⟨i, i1, i2, by rw [i3]; exact hp⟩
    · rintro ⟨i, i1, i2, i3⟩
      exact ⟨ptC P.toGeo a i, ⟨i, i1, i2, rfl⟩, i3⟩
  rw [eq]
  refine c229 (v229_0 ?_)
  have h0 := loopZ (a := 0) (n := P.toGeo.mv a + 1) (Q := fun k => Ev 2 229 5 [some (.ref 59), some (.int (J a)), some (.int (J b)), some (.int (J (bZ (∃ i, 0 ≤ i ∧ i < k ∧ atC P.toGeo b (ptC P.toGeo a i))))), some (.int (J k))] [] (hs E (jm N)) (some (.int (J (bZ (∃ i, 0 ≤ i ∧ i < P.toGeo.mv a + 1 ∧ atC P.toGeo b (ptC P.toGeo a i))))), (hs E (jm N)))) (by omega) ?_ ?_
  · rw [bZ_f exZ_0] at h0
    exact h0
  · have h01 := bZ_01 (p := ∃ i, 0 ≤ i ∧ i < P.toGeo.mv a + 1 ∧ atC P.toGeo b (ptC P.toGeo a i))
    refine v229_5 ?_
    rw [hR.mv]
    ((repeat' (first | omega | exact True.intro | exact absurd True.intro ‹¬ True› | apply And.intro | intro _)) <;> rfl)
  · intro k k1 k2 ih
    have a1 := hI.geo.px a k ha.1 ha.2 (by omega) (by omega)
    have a2 := hI.geo.py a k ha.1 ha.2 (by omega) (by omega)
    have h28 := sp228 (E := E) (N := N) hI hR hb (x := P.toGeo.px (25 * a + k)) (y := P.toGeo.py (25 * a + k)) (by omega) (by omega)
    have m1 := bZ_01 (p := atC P.toGeo b (10 * P.toGeo.py (25 * a + k) + P.toGeo.px (25 * a + k)))
    refine v229_5 ?_
    rw [hR.mv, hR.px, hR.py]
    rw [show (∃ i, 0 ≤ i ∧ i < k + 1 ∧ atC P.toGeo b (ptC P.toGeo a i)) = ((∃ i, 0 ≤ i ∧ i < k ∧ atC P.toGeo b (ptC P.toGeo a i)) ∨ atC P.toGeo b (ptC P.toGeo a k)) from propext (exZ_succ k1)] at ih
    by_cases hx2 : ∃ i, 0 ≤ i ∧ i < k ∧ atC P.toGeo b (ptC P.toGeo a i)
    · rw [bZ_t hx2]
      rw [bZ_t (Or.inl hx2)] at ih
      (repeat' (first | omega | exact True.intro | exact absurd True.intro ‹¬ True› | apply And.intro | intro _))
      all_goals exact ih
    · rw [bZ_f hx2]
      refine ⟨by omega, by omega, by omega, fun z => absurd z (by omega), fun _ => ⟨by decide, fun _ => ⟨by omega, _, h28, by omega, fun z => ?_, fun z => ?_⟩, fun z => absurd rfl z⟩⟩
      · rw [bZ_f (fun y => y.elim hx2 (bZ_0.mp z))] at ih
        exact ih
      · have hz : atC P.toGeo b (ptC P.toGeo a k) := bZ_1.mp (show bZ (atC P.toGeo b (10 * P.toGeo.py (25 * a + k) + P.toGeo.px (25 * a + k))) = 1 by omega)
        rw [bZ_t (Or.inr hz)] at ih
        exact ih
def hoJ (G : Geo) (f0 c : Int → Int) : Prop := (∀ v, 0 ≤ v → v < G.ws → (c v = 0 ∨ c v = 1) ∧ (c v = 1 → heldZ G v) ∧ (G.laid v = 1 → 0 < benZ G v → c v = 1)) ∧ ∀ v, ¬ (0 ≤ v ∧ v < G.ws) → c v = f0 v
noncomputable def hoF (G : Geo) (f0 : Int → Int) : Int → Int := fun v => if 0 ≤ v ∧ v < G.ws then bZ (heldZ G v) else f0 v
theorem held_laid {v : Int} (h : heldZ G v) : 0 ≤ v ∧ v < G.ws ∧ G.laid v = 1 := h (fun v => 0 ≤ v ∧ v < G.ws ∧ G.laid v = 1) (fun _ h1 h2 h3 _ => ⟨h1, h2, h3⟩) (fun _ _ _ h1 h2 h3 _ => ⟨h1, h2, h3⟩)
def okH (G : Geo) (c : Int → Int) (a b : Int) : Prop := G.laid a = 1 → G.laid b = 1 → c a = 1 → c b = 0 → ¬ touchZ G a b
theorem ho_fix {f0 c : Int → Int} (h : hoJ G f0 c) (hok : ∀ a b, 0 ≤ a → a < G.ws → 0 ≤ b → b < G.ws → okH G c a b) : c = hoF G f0 := by
  funext v
  unfold hoF
  by_cases q : 0 ≤ v ∧ v < G.ws
  · rw [if_pos q]
    obtain ⟨h1, h2, h3⟩ := h.1 v q.1 q.2
    by_cases z : heldZ G v
    · rw [bZ_t z]
      have := z (fun v => 0 ≤ v ∧ v < G.ws ∧ G.laid v = 1 ∧ c v = 1) (fun u u1 u2 u3 u4 => ⟨u1, u2, u3, (h.1 u u1 u2).2.2 u3 u4⟩) (fun a b ha b1 b2 b3 b4 => ⟨b1, b2, b3, by
        rcases (h.1 b b1 b2).1 with e | e
        · exact absurd b4 (hok a b ha.1 ha.2.1 b1 b2 ha.2.2.1 b3 ha.2.2.2 e)
        · exact e⟩)
      exact this.2.2.2
    · rw [bZ_f z]
      rcases h1 with e | e
      · exact e
      · exact absurd (h2 e) z
  · rw [if_neg q]
    exact h.2 v q
theorem ho_add {f0 c : Int → Int} {a b : Int} (h : hoJ G f0 c) (ha : 0 ≤ a ∧ a < G.ws) (hb : 0 ≤ b ∧ b < G.ws) (hlb : G.laid b = 1) (hca : c a = 1) (hcb : c b = 0) (ht : touchZ G a b) : hoJ G f0 (updZ c b 1) ∧ sumZ G.ws (updZ c b 1) = sumZ G.ws c + 1 := by
  refine ⟨⟨fun v v1 v2 => ?_, fun v hv => ?_⟩, ?_⟩
  · unfold updZ
    by_cases e : v = b
    · rw [if_pos e]
      exact ⟨Or.inr rfl, fun _ => by rw [e]; exact heldZ_next ((h.1 a ha.1 ha.2).2.1 hca) hb.1 hb.2 hlb ht, fun _ _ => rfl⟩
    · rw [if_neg e]
      exact h.1 v v1 v2
  · rw [updZ_n (fun e => hv (by rw [e]; exact hb))]
    exact h.2 v hv
  · rw [sumZ_upd hb]
    omega
end HOL
