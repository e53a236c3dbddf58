/-! the reference finds the cells -/
section RCE
variable {E : gw_N} {N : NM} {P : Pic} {G : Geo}
theorem sumZ_upd {c : Int → Int} {i v n : Int} (hi : 0 ≤ i ∧ i < n) : sumZ n (updZ c i v) = sumZ n c + (v - c i) := by
  have key : ∀ n, 0 ≤ n → (n ≤ i → sumZ n (updZ c i v) = sumZ n c) ∧ (i < n → sumZ n (updZ c i v) = sumZ n c + (v - c i)) := by
    refine indZ ⟨fun _ => rfl, fun h => by omega⟩ ?_
    intro k hk ⟨h1, h2⟩
    rw [sumZ_succ hk, sumZ_succ hk]
    refine ⟨fun h => ?_, fun h => ?_⟩
    · rw [h1 (by omega), updZ_n (by omega)]
    · by_cases e : k = i
      · subst e
        rw [h1 (by omega), updZ_s]; omega
      · rw [h2 (by omega), updZ_n e]; omega
  exact (key n (by omega)).2 hi.2
def ceJ (G : Geo) (f0 c : Int → Int) : Prop := (∀ f, isF G f → isF G (c f) ∧ conn G f (c f) ∧ c f ≤ f) ∧ ∀ f, ¬ isF G f → c f = f0 f
def okS (G : Geo) (c : Int → Int) (f s : Int) : Prop := ¬ besZ G f s = -1 → covC G (betZ G f s) = 0 → c f = c (besZ G f s)
noncomputable def celF (G : Geo) (f0 : Int → Int) : Int → Int := fun f => @ite Int (isF G f) (Classical.propDecidable _) (cellZ G f) (f0 f)
theorem ce_fix (hG : GeoR G) {f0 c : Int → Int} (h : ceJ G f0 c) (hok : ∀ f s, isF G f → 0 ≤ s → s < 2 → okS G c f s) : c = celF G f0 := by
  have h2 : ∀ f g, isF G f → openTo G f g → c f = c g := by
    rintro f g hf ⟨way, w1, w2, w3, w4, w5⟩
    have hn : ¬ besZ G f way = -1 := by
      rw [w3]
      have := w4.1
      omega
    by_cases hs : way < 2
    · have := hok f way hf w1 hs hn w5
      rwa [w3] at this
    · obtain ⟨k1, k2, k3⟩ := bes_spec hG hf ⟨w1, w2⟩ hn
      rw [w3] at k1 k2 k3
      have hb : 0 ≤ wayB way ∧ wayB way < 2 := by
        obtain a | a : way = 2 ∨ way = 3 := by omega
        · subst a; decide
        · subst a; decide
      have := hok g (wayB way) w4 hb.1 hb.2 (by rw [k2]; have := hf.1; omega) (by rw [k3]; exact w5)
      rw [k2] at this
      exact this.symm
  have h3 := cell_char hG h.1 h2
  funext f
  unfold celF
  by_cases hf : isF G f
  · rw [if_pos hf]; exact h3 f hf
  · rw [if_neg hf]; exact h.2 f hf
theorem ce_merge (hG : GeoR G) {f0 c : Int → Int} {f s : Int} (h : ceJ G f0 c) (hf : isF G f) (hs : 0 ≤ s ∧ s < 2) (hn : ¬ besZ G f s = -1) (ho : covC G (betZ G f s) = 0) (hne : ¬ c f = c (besZ G f s)) (l : Int) (hl : l = min (c f) (c (besZ G f s))) :
    ceJ G f0 (updZ (updZ c f l) (besZ G f s) l) ∧ sumZ (G.w * G.h) (updZ (updZ c f l) (besZ G f s) l) < sumZ (G.w * G.h) c := by
  obtain ⟨k1, k2, k3⟩ := bes_spec hG hf (way := s) (by omega) hn
  have hop : openTo G f (besZ G f s) := openTo_mk (by omega) k1 ho
  have hop2 := openTo_symm hG hf hop
  obtain ⟨a1, a2, a3⟩ := h.1 f hf
  obtain ⟨b1, b2, b3⟩ := h.1 _ k1
  have hfg : ¬ besZ G f s = f := by
    intro e
    rw [e] at hne
    exact hne rfl
  have hl' : (l = c f ∧ c f < c (besZ G f s)) ∨ (l = c (besZ G f s) ∧ c (besZ G f s) < c f) := by omega
  have hlF : isF G l ∧ conn G f l ∧ conn G (besZ G f s) l := by
    rcases hl' with hl' | hl'
    · rw [hl'.1]
      exact ⟨a1, a2, conn_trans (conn_step conn_refl hop2) a2⟩
    · rw [hl'.1]
      exact ⟨b1, conn_trans (conn_step conn_refl hop) b2, b2⟩
  refine ⟨⟨?_, ?_⟩, ?_⟩
  · intro x hx
    unfold updZ
    by_cases e1 : x = besZ G f s
    · rw [if_pos e1, e1]
      exact ⟨hlF.1, hlF.2.2, by omega⟩
    · rw [if_neg e1]
      by_cases e2 : x = f
      · rw [if_pos e2, e2]
        exact ⟨hlF.1, hlF.2.1, by omega⟩
      · rw [if_neg e2]
        exact h.1 x hx
  · intro x hx
    have e1 : ¬ x = besZ G f s := fun e => hx (by rw [e]; exact k1)
    have e2 : ¬ x = f := fun e => hx (by rw [e]; exact hf)
    rw [updZ_n e1, updZ_n e2]
    exact h.2 x hx
  · rw [sumZ_upd k1, sumZ_upd hf, updZ_n hfg]
    omega
theorem G245_b (hI : PicOK P) (hR : RefOK P N) {f s : Int} (hf : isF P.toGeo f) (hs : 0 ≤ s ∧ s < 2) : G245 N f s = besZ P.toGeo f s ∧ Q245 N f s := by
  have hb := fld_bd hI.geo
  have hw := hI.geo.w
  have hh := hI.geo.h
  have ⟨hx, hy, e⟩ := fld_xy hI.geo hf
  have hf2 := hf.2
  have hf1 := hf.1
  unfold G245 Q245
  rw [hR.w, hR.h, Int.tmod_eq_emod_of_nonneg hf.1, Int.tdiv_eq_ediv_of_nonneg hf.1]
  obtain a | a : s = 0 ∨ s = 1 := by omega
  · subst a
    refine ⟨?_, by (repeat' (first | omega | exact True.intro | exact absurd True.intro ‹¬ True› | apply And.intro | intro _))⟩
    show _ = if f % P.toGeo.w + 1 < P.toGeo.w then f + 1 else -1
    rw [if_pos rfl]
    split <;> split <;> omega
  · subst a
    refine ⟨?_, by (repeat' (first | omega | exact True.intro | exact absurd True.intro ‹¬ True› | apply And.intro | intro _))⟩
    show _ = if f / P.toGeo.w + 1 < P.toGeo.h then f + P.toGeo.w else -1
    rw [if_neg (by decide)]
    split <;> split <;> omega
theorem G246_b (hI : PicOK P) (hR : RefOK P N) {f s : Int} (hf : isF P.toGeo f) (hs : 0 ≤ s ∧ s < 2) (hn : ¬ besZ P.toGeo f s = -1) : (0 ≤ G246 N f s ∧ G246 N f s < 162) ∧ toC (G246 N f s) = betZ P.toGeo f s ∧ Q246 N f s := by
  have hb := fld_bd hI.geo
  have hw := hI.geo.w
  have hh := hI.geo.h
  have ⟨hx, hy, e⟩ := fld_xy hI.geo hf
  have hf2 := hf.2
  have hf1 := hf.1
  unfold G246 Q246 G235
  rw [hR.w, Int.tmod_eq_emod_of_nonneg hf.1, Int.tdiv_eq_ediv_of_nonneg hf.1]
  obtain a | a : s = 0 ∨ s = 1 := by omega
  · subst a
    have hc : f % P.toGeo.w + 1 < P.toGeo.w := by
      apply Classical.byContradiction
      intro q
      exact hn (if_neg q)
    rw [if_pos rfl]
    refine ⟨by omega, ?_, by (repeat' (first | omega | exact True.intro | exact absurd True.intro ‹¬ True› | apply And.intro | intro _))⟩
    show toC _ = 89 + 10 * (f / P.toGeo.w) + (f % P.toGeo.w + 1)
    unfold toC
    generalize f % P.toGeo.w = x at *
    generalize f / P.toGeo.w = y at *
    have e1 : (81 * 1 + 9 * y + (x + 1)) / 81 = 1 := by omega
    have e2 : (81 * 1 + 9 * y + (x + 1)) % 81 = 9 * y + (x + 1) := by omega
    rw [e1, e2]
    omega
  · subst a
    have hc : f / P.toGeo.w + 1 < P.toGeo.h := by
      apply Classical.byContradiction
      intro q
      exact hn (if_neg q)
    rw [if_neg (by decide)]
    refine ⟨by omega, ?_, by (repeat' (first | omega | exact True.intro | exact absurd True.intro ‹¬ True› | apply And.intro | intro _))⟩
    show toC _ = 10 * (f / P.toGeo.w + 1) + f % P.toGeo.w
    unfold toC
    generalize f % P.toGeo.w = x at *
    generalize f / P.toGeo.w = y at *
    have e1 : (81 * 0 + 9 * (y + 1) + x) / 81 = 0 := by omega
    have e2 : (81 * 0 + 9 * (y + 1) + x) % 81 = 9 * (y + 1) + x := by omega
    rw [e1, e2]
    omega
end RCE
