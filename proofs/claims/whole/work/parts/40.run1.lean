/-! the field beside, the edge between, on the program's side; fields that run over -/
section RU1
variable {E : gw_N} {N : NM} {P : Pic} {G : Geo} {A : Gla}
theorem cBes {f way : Int} (hG : GeoR G) (hg : GridOK G N) (hf : isF G f) (hw : 0 ≤ way ∧ way < 4) : G46 N f way = besZ G f way ∧ Q46 N f way := by
  have hb := fld_bd hG
  have ⟨hx, hy, e⟩ := fld_xy hG hf
  have h8 := hG.w
  have h9 := hG.h
  have f1 := hf.1
  have f2 := hf.2
  unfold G46 Q46 G43 Q43 Q53 Q54 G45 G53 G54
  rw [hg.w, hg.h, hg.x f hf.1 hf.2, hg.y f hf.1 hf.2]
  obtain a | a | a | a : way = 0 ∨ way = 1 ∨ way = 2 ∨ way = 3 := by omega
  · subst a
    simp only [if_true, if_pos, if_neg, (by decide : ¬ (0 : Int) = 1), (by decide : ¬ (0 : Int) = 3), if_false, Int.add_zero]
    refine ⟨?_, by (repeat' (first | omega | exact True.intro | exact absurd True.intro ‹¬ True› | apply And.intro | intro _))⟩
    show _ = if f % G.w + 1 < G.w then f + 1 else -1
    by_cases q : f % G.w + 1 < G.w
    · rw [if_pos q, if_neg]
      · omega
      · rw [if_neg (show ¬ f % G.w + 1 < 0 by omega), if_neg (show ¬ G.w ≤ f % G.w + 1 by omega), if_neg (show ¬ f / G.w < 0 by omega), if_neg (show ¬ G.h ≤ f / G.w by omega)]; decide
    · rw [if_neg q, if_pos]
      rw [if_neg (show ¬ f % G.w + 1 < 0 by omega), if_pos (show G.w ≤ f % G.w + 1 by omega)]
  · subst a
    simp only [(by decide : ¬ (1 : Int) = 0), (by decide : ¬ (1 : Int) = 2), if_false, if_true, Int.add_zero]
    refine ⟨?_, by (repeat' (first | omega | exact True.intro | exact absurd True.intro ‹¬ True› | apply And.intro | intro _))⟩
    show _ = if f / G.w + 1 < G.h then f + G.w else -1
    by_cases q : f / G.w + 1 < G.h
    · rw [if_pos q, if_neg]
      · rw [Int.mul_add, Int.mul_one]; omega
      · rw [if_neg (show ¬ f % G.w < 0 by omega), if_neg (show ¬ G.w ≤ f % G.w by omega), if_neg (show ¬ f / G.w + 1 < 0 by omega), if_neg (show ¬ G.h ≤ f / G.w + 1 by omega)]; decide
    · rw [if_neg q, if_pos]
      rw [if_neg (show ¬ f % G.w < 0 by omega), if_neg (show ¬ G.w ≤ f % G.w by omega), if_neg (show ¬ f / G.w + 1 < 0 by omega), if_pos (show G.h ≤ f / G.w + 1 by omega)]
  · subst a
    simp only [(by decide : ¬ (2 : Int) = 0), (by decide : ¬ (2 : Int) = 1), (by decide : ¬ (2 : Int) = 3), if_false, if_true, Int.add_zero]
    refine ⟨?_, by (repeat' (first | omega | exact True.intro | exact absurd True.intro ‹¬ True› | apply And.intro | intro _))⟩
    show _ = if 1 ≤ f % G.w then f - 1 else -1
    by_cases q : 1 ≤ f % G.w
    · rw [if_pos q, if_neg]
      · omega
      · rw [if_neg (show ¬ f % G.w + -1 < 0 by omega), if_neg (show ¬ G.w ≤ f % G.w + -1 by omega), if_neg (show ¬ f / G.w < 0 by omega), if_neg (show ¬ G.h ≤ f / G.w by omega)]; decide
    · rw [if_neg q, if_pos]
      rw [if_pos (show f % G.w + -1 < 0 by omega)]
  · subst a
    simp only [(by decide : ¬ (3 : Int) = 0), (by decide : ¬ (3 : Int) = 1), (by decide : ¬ (3 : Int) = 2), if_false, if_true, Int.add_zero]
    refine ⟨?_, by (repeat' (first | omega | exact True.intro | exact absurd True.intro ‹¬ True› | apply And.intro | intro _))⟩
    show _ = if 1 ≤ f / G.w then f - G.w else -1
    by_cases q : 1 ≤ f / G.w
    · rw [if_pos q, if_neg]
      · rw [Int.mul_add, Int.mul_neg, Int.mul_one]; omega
      · rw [if_neg (show ¬ f % G.w < 0 by omega), if_neg (show ¬ G.w ≤ f % G.w by omega), if_neg (show ¬ f / G.w + -1 < 0 by omega), if_neg (show ¬ G.h ≤ f / G.w + -1 by omega)]; decide
    · rw [if_neg q, if_pos]
      rw [if_neg (show ¬ f % G.w < 0 by omega), if_neg (show ¬ G.w ≤ f % G.w by omega), if_pos (show f / G.w + -1 < 0 by omega)]
theorem cBet {f way : Int} (hG : GeoR G) (hg : GridOK G N) (hf : isF G f) (hw : 0 ≤ way ∧ way < 4) : G47 N f way = betZ G f way ∧ Q47 N f way := by
  have hb := fld_bd hG
  have f1 := hf.1
  have f2 := hf.2
  unfold G47 Q47 G51 G48
  rw [hg.x f hf.1 hf.2, hg.y f hf.1 hf.2]
  obtain a | a | a | a : way = 0 ∨ way = 1 ∨ way = 2 ∨ way = 3 := by omega
  · subst a
    refine ⟨?_, by (repeat' (first | omega | exact True.intro | exact absurd True.intro ‹¬ True› | apply And.intro | intro _))⟩
    show 89 * 1 + (10 * (f / G.w + 0) + (f % G.w + 1)) = 89 + 10 * (f / G.w) + (f % G.w + 1)
    omega
  · subst a
    refine ⟨?_, by (repeat' (first | omega | exact True.intro | exact absurd True.intro ‹¬ True› | apply And.intro | intro _))⟩
    show 89 * 0 + (10 * (f / G.w + 1) + (f % G.w + 0)) = 10 * (f / G.w + 1) + f % G.w
    omega
  · subst a
    refine ⟨?_, by (repeat' (first | omega | exact True.intro | exact absurd True.intro ‹¬ True› | apply And.intro | intro _))⟩
    show 89 * 1 + (10 * (f / G.w + 0) + (f % G.w + 0)) = 89 + 10 * (f / G.w) + f % G.w
    omega
  · subst a
    refine ⟨?_, by (repeat' (first | omega | exact True.intro | exact absurd True.intro ‹¬ True› | apply And.intro | intro _))⟩
    show 89 * 0 + (10 * (f / G.w + 0) + (f % G.w + 0)) = 10 * (f / G.w) + f % G.w
    omega
theorem cov_bd (hG : GeoR G) {e : Int} : 0 ≤ covC G e ∧ covC G e ≤ 30 := by
  have := sumZ_bd' (g := fun v => bZ (G.laid v = 1 ∧ onC G v e)) (n := G.ws) (B := 30) (c := 1) (fun k _ _ => bZ_bd) hG.ws.1 hG.ws.2 (by decide)
  exact ⟨this.1, by unfold covC; omega⟩
/-- over that edge it can run -/
def outW (G : Geo) (H : Int → Int) (w f way : Int) : Prop := ¬ besZ G f way = -1 ∧ H (besZ G f way) < w ∧ ¬ covC G (betZ G f way) = 0
def runZ (G : Geo) (H : Int → Int) (w f : Int) : Prop := w < H f ∧ ∃ way, 0 ≤ way ∧ way < 4 ∧ outW G H w f way
noncomputable def roN (G : Geo) (H : Int → Int) (w : Int) (A : Gla) : Nat → Gla
  | 0 => A
  | k + 1 => @ite Gla (runZ G H w (k : Int)) (Classical.propDecidable _) (tkF (roN G H w A k) (k : Int) (H (k : Int) - w)) (roN G H w A k)
noncomputable def roZ (G : Geo) (H : Int → Int) (w k : Int) (A : Gla) : Gla := roN G H w A k.toNat
theorem roZ_succ {H : Int → Int} {w k : Int} (hk : 0 ≤ k) : roZ G H w (k + 1) A = @ite Gla (runZ G H w k) (Classical.propDecidable _) (tkF (roZ G H w k A) k (H k - w)) (roZ G H w k A) := by
  unfold roZ
  have e : (k + 1).toNat = k.toNat + 1 := by omega
  rw [e]
  show @ite Gla (runZ G H w (k.toNat : Int)) (Classical.propDecidable _) (tkF (roN G H w A k.toNat) (k.toNat : Int) (H (k.toNat : Int) - w)) (roN G H w A k.toNat) = _
  rw [Int.toNat_of_nonneg hk]
theorem roZ_ok {H : Int → Int} {w : Int} (hw : 1 ≤ w) (hA : GlaR A) (hH : ∀ f, 0 ≤ f → f < 64 → H f = highZ A f) : ∀ k, 0 ≤ k → k ≤ 64 → GlaR (roZ G H w k A) ∧ sameG A (roZ G H w k A) ∧ ∀ g, k ≤ g → g < 64 → (roZ G H w k A).lay g = A.lay g ∧ highZ (roZ G H w k A) g = highZ A g := by
  refine indZ (P := fun k => k ≤ 64 → GlaR (roZ G H w k A) ∧ sameG A (roZ G H w k A) ∧ ∀ g, k ≤ g → g < 64 → (roZ G H w k A).lay g = A.lay g ∧ highZ (roZ G H w k A) g = highZ A g) (fun _ => ⟨hA, ⟨rfl, rfl, rfl⟩, fun _ _ _ => ⟨rfl, rfl⟩⟩) ?_
  intro k hk ih hk2
  obtain ⟨h1, h2, h3⟩ := ih (by omega)
  rw [roZ_succ hk]
  by_cases q : runZ G H w k
  · rw [if_pos q]
    have e := hH k hk (by omega)
    have q1 := q.1
    have hl : 0 < (roZ G H w k A).lay k := high_pos h1 ⟨hk, by omega⟩ (by rw [(h3 k (by omega) (by omega)).2]; omega)
    refine ⟨tkF_R h1 ⟨hk, by omega⟩ hl (by omega), h2, fun g g1 g2 => ?_⟩
    have h4 := tkF_oth (m := H k - w) ⟨hk, by omega⟩ h1 hl (g := g) ⟨by omega, g2⟩ (by omega)
    have h5 := h3 g (by omega) g2
    exact ⟨h4.1.trans h5.1, h4.2.trans h5.2⟩
  · rw [if_neg q]
    exact ⟨h1, h2, fun g g1 g2 => h3 g (by omega) g2⟩
end RU1
