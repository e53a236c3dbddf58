/-! the reference marks what runs over -/
section RU3
variable {E : gw_N} {N : NM} {P : Pic} {G : Geo} {A : Gla}
def toZ (G : Geo) (H : Int → Int) (w e x y : Int) : Prop := ¬ covC G e = 0 ∧ w < H x ∧ H y < w
def rmZ (G : Geo) (H : Int → Int) (w f s g : Int) : Prop := ∃ f' s', isF G f' ∧ 0 ≤ s' ∧ s' < 2 ∧ (f' < f ∨ (f' = f ∧ s' < s)) ∧ ¬ besZ G f' s' = -1 ∧
  ((g = f' ∧ toZ G H w (betZ G f' s') f' (besZ G f' s')) ∨ (g = besZ G f' s' ∧ toZ G H w (betZ G f' s') (besZ G f' s') f'))
theorem rm_0 {H : Int → Int} {w g : Int} : ¬ rmZ G H w 0 0 g := by
  rintro ⟨f', s', h1, h2, h3, h4, _⟩
  have := h1.1
  omega
theorem rm_none {H : Int → Int} {w f s g : Int} (hn : besZ G f s = -1) : rmZ G H w f (s + 1) g ↔ rmZ G H w f s g := by
  constructor
  · rintro ⟨f', s', h1, h2, h3, h4, h5, h6⟩
    refine ⟨f', s', h1, h2, h3, ?_, h5, h6⟩
    rcases h4 with h4 | ⟨h4, h7⟩
    · exact Or.inl h4
    · by_cases e : s' = s
      · rw [h4, e] at h5
        exact absurd hn h5
      · exact Or.inr ⟨h4, by omega⟩
  · rintro ⟨f', s', h1, h2, h3, h4, h5, h6⟩
    exact ⟨f', s', h1, h2, h3, by omega, h5, h6⟩
theorem rm_step {H : Int → Int} {w f s g : Int} (hf : isF G f) (hs2 : 0 ≤ s ∧ s < 2) (hn : ¬ besZ G f s = -1) : rmZ G H w f (s + 1) g ↔ rmZ G H w f s g ∨ (g = f ∧ toZ G H w (betZ G f s) f (besZ G f s)) ∨ (g = besZ G f s ∧ toZ G H w (betZ G f s) (besZ G f s) f) := by
  constructor
  · rintro ⟨f', s', h1, h2, h3, h4, h5, h6⟩
    by_cases e : f' = f ∧ s' = s
    · rw [e.1, e.2] at h6
      exact Or.inr h6
    · exact Or.inl ⟨f', s', h1, h2, h3, by omega, h5, h6⟩
  · rintro (⟨f', s', h1, h2, h3, h4, h5, h6⟩ | h)
    · exact ⟨f', s', h1, h2, h3, by omega, h5, h6⟩
    · exact ⟨f, s, hf, hs2.1, hs2.2, Or.inr ⟨rfl, by omega⟩, hn, h⟩
theorem rm_next {H : Int → Int} {w f g : Int} : rmZ G H w f 2 g ↔ rmZ G H w (f + 1) 0 g := by
  constructor <;> (rintro ⟨f', s', h1, h2, h3, h4, h5, h6⟩; exact ⟨f', s', h1, h2, h3, by omega, h5, h6⟩)
theorem rm_run (hG : GeoR G) {H : Int → Int} {w g : Int} (hg : isF G g) : rmZ G H w (G.w * G.h) 0 g ↔ runZ G H w g := by
  constructor
  · rintro ⟨f', s', h1, h2, h3, h4, h5, h6⟩
    obtain ⟨k1, k2, k3⟩ := bes_spec hG h1 (way := s') (by omega) h5
    rcases h6 with ⟨e, t1, t2, t3⟩ | ⟨e, t1, t2, t3⟩
    · rw [e]
      exact ⟨t2, s', h2, by omega, h5, t3, t1⟩
    · rw [e]
      have hb := wayB_bd (way := s') (by omega)
      refine ⟨t2, wayB s', hb.1, hb.2, ?_, ?_, ?_⟩
      · rw [k2]; have := h1.1; omega
      · rw [k2]; exact t3
      · rw [k3]; exact t1
  · rintro ⟨t2, way, w1, w2, n, t3, t1⟩
    obtain ⟨k1, k2, k3⟩ := bes_spec hG hg ⟨w1, w2⟩ n
    by_cases q : way < 2
    · exact ⟨g, way, hg, w1, q, Or.inl hg.2, n, Or.inl ⟨rfl, t1, t2, t3⟩⟩
    · have hb : 0 ≤ wayB way ∧ wayB way < 2 := by
        obtain a | a : way = 2 ∨ way = 3 := by omega
        · subst a; decide
        · subst a; decide
      refine ⟨besZ G g way, wayB way, k1, hb.1, hb.2, Or.inl k1.2, ?_, Or.inr ⟨k2.symm, ?_⟩⟩
      · rw [k2]; have := hg.1; omega
      · rw [k2, k3]; exact ⟨t1, t2, t3⟩
noncomputable def ruF (G : Geo) (H : Int → Int) (w : Int) (f0 : Int → Int) (f s : Int) : Int → Int := fun g => @ite Int (isF G g) (Classical.propDecidable _) (bZ (rmZ G H w f s g)) (f0 g)
theorem ruF_in {H : Int → Int} {w f s g : Int} {f0 : Int → Int} (h : isF G g) : ruF G H w f0 f s g = bZ (rmZ G H w f s g) := if_pos h
theorem ruF_out {H : Int → Int} {w f s g : Int} {f0 : Int → Int} (h : ¬ isF G g) : ruF G H w f0 f s g = f0 g := if_neg h
theorem ruF_same {H : Int → Int} {w f s f1 s1 : Int} {f0 : Int → Int} (h : ∀ g, rmZ G H w f s g ↔ rmZ G H w f1 s1 g) : ruF G H w f0 f s = ruF G H w f0 f1 s1 := by
  funext g
  by_cases q : isF G g
  · rw [ruF_in q, ruF_in q, bZ_congr (h g)]
  · rw [ruF_out q, ruF_out q]
theorem ruF_step {H : Int → Int} {w f s α β : Int} {f0 : Int → Int} (hf : isF G f) (hs2 : 0 ≤ s ∧ s < 2) (hn : ¬ besZ G f s = -1) (hgF : isF G (besZ G f s)) (hne : ¬ besZ G f s = f)
    (hα : α = bZ (rmZ G H w f s f ∨ toZ G H w (betZ G f s) f (besZ G f s))) (hβ : β = bZ (rmZ G H w f s (besZ G f s) ∨ toZ G H w (betZ G f s) (besZ G f s) f)) :
    updZ (updZ (ruF G H w f0 f s) f α) (besZ G f s) β = ruF G H w f0 f (s + 1) := by
  funext g
  unfold updZ
  by_cases q1 : g = besZ G f s
  · rw [if_pos q1, q1, ruF_in hgF, hβ]
    refine bZ_congr ?_
    rw [rm_step hf hs2 hn]
    constructor
    · rintro (h | h)
      · exact Or.inl h
      · exact Or.inr (Or.inr ⟨rfl, h⟩)
    · rintro (h | ⟨h, _⟩ | ⟨_, h⟩)
      · exact Or.inl h
      · exact absurd h hne
      · exact Or.inr h
  · rw [if_neg q1]
    by_cases q2 : g = f
    · rw [if_pos q2, q2, ruF_in hf, hα]
      refine bZ_congr ?_
      rw [rm_step hf hs2 hn]
      constructor
      · rintro (h | h)
        · exact Or.inl h
        · exact Or.inr (Or.inl ⟨rfl, h⟩)
      · rintro (h | ⟨_, h⟩ | ⟨h, _⟩)
        · exact Or.inl h
        · exact Or.inr h
        · exact absurd h.symm hne
    · rw [if_neg q2]
      by_cases q3 : isF G g
      · rw [ruF_in q3, ruF_in q3]
        refine bZ_congr ?_
        rw [rm_step hf hs2 hn]
        exact ⟨Or.inl, fun h => h.elim id (fun h => h.elim (fun h => absurd h.1 q2) (fun h => absurd h.1 q1))⟩
      · rw [ruF_out q3, ruF_out q3]
theorem bZ_or {p q : Prop} : bZ (p ∨ q) = if bZ p = 0 ∧ bZ q = 0 then 0 else 1 := by
  by_cases hp : p
  · rw [bZ_t (Or.inl hp), bZ_t hp, if_neg (fun h => absurd h.1 (by decide))]
  · by_cases hq : q
    · rw [bZ_t (Or.inr hq), bZ_t hq, if_neg (fun h => absurd h.2 (by decide))]
    · rw [bZ_f (fun h => h.elim hp hq), bZ_f hp, bZ_f hq, if_pos ⟨rfl, rfl⟩]
end RU3
