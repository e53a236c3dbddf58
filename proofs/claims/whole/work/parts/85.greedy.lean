/-! giving rods, the longest group first: the best that can be done -/
section GRE
variable {E : gw_N} {N : NM} {P : Pic}
variable {G K : Int} {sg rl left : Int → Int} {U : Int → Prop}
theorem cnt_upd {f : Int → Int} {g b k : Int} (hg : 0 ≤ g ∧ g < G) (hU : U g) : sumZ G (fun i => bZ (U i ∧ updZ f g b i = k)) = sumZ G (fun i => bZ (U i ∧ f i = k)) + bZ (b = k) - bZ (f g = k) := by
  have e : (fun i => bZ (U i ∧ updZ f g b i = k)) = updZ (fun i => bZ (U i ∧ f i = k)) g (bZ (b = k)) := by
    funext i
    unfold updZ
    by_cases q : i = g
    · rw [if_pos q, if_pos q, q]
      exact bZ_congr ⟨fun z => z.2, fun z => ⟨hU, z⟩⟩
    · rw [if_neg q, if_neg q]
  have e2 : bZ (U g ∧ f g = k) = bZ (f g = k) := bZ_congr ⟨fun z => z.2, fun z => ⟨hU, z⟩⟩
  rw [e, sumZ_upd hg, e2]
  omega
theorem tot_upd {f : Int → Int} {g b : Int} (hg : 0 ≤ g ∧ g < G) (hU : U g) : totF G rl U (updZ f g b) = totF G rl U f + rl b - rl (f g) := by
  unfold totF
  have e : (fun i => bZ (U i) * rl (updZ f g b i)) = updZ (fun i => bZ (U i) * rl (f i)) g (rl b) := by
    funext i
    unfold updZ
    by_cases q : i = g
    · rw [if_pos q, if_pos q, q, bZ_t hU, Int.one_mul]
    · rw [if_neg q, if_neg q]
  rw [e, sumZ_upd hg, bZ_t hU, Int.one_mul]
  omega
/-- another way, with the shortest rod for the longest group, is no worse -/
theorem exch {f : Int → Int} {g b : Int} (hg : 0 ≤ g ∧ g < G) (hU : U g) (hmax : ∀ i, 0 ≤ i → i < G → U i → sg i ≤ sg g) (hb : 0 ≤ b ∧ b < K) (hbl : 0 < left b) (hbs : sg g ≤ rl b) (hmin : ∀ k, 0 ≤ k → k < K → 0 < left k → sg g ≤ rl k → rl b ≤ rl k) (h : fsb G K sg rl U left f) :
    ∃ f', fsb G K sg rl U left f' ∧ f' g = b ∧ totF G rl U f' ≤ totF G rl U f := by
  by_cases hfb : f g = b
  · exact ⟨f, h, hfb, Int.le_refl _⟩
  · obtain ⟨k1, k2⟩ := h.1 g hg.1 hg.2 hU
    -- the kind that the group had is one of those left
    have hcg : 1 ≤ sumZ G (fun i => bZ (U i ∧ f i = f g)) := by
      have := sumZ_ge (g := fun i => bZ (U i ∧ f i = f g)) (n := G) (k := g) (fun _ _ _ => bZ_bd.1) hg
      have e : bZ (U g ∧ f g = f g) = 1 := bZ_t ⟨hU, rfl⟩
      have h2 : bZ (U g ∧ f g = f g) ≤ sumZ G (fun i => bZ (U i ∧ f i = f g)) := this
      omega
    have hle := hmin (f g) k1.1 k1.2 (by have := h.2 (f g) k1.1 k1.2; omega) k2
    by_cases hfree : sumZ G (fun i => bZ (U i ∧ f i = b)) < left b
    · refine ⟨updZ f g b, ⟨fun i i1 i2 hi => ?_, fun k k3 k4 => ?_⟩, updZ_s, ?_⟩
      · by_cases q : i = g
        · rw [q, updZ_s]; exact ⟨hb, hbs⟩
        · rw [updZ_n q]; exact h.1 i i1 i2 hi
      · rw [cnt_upd hg hU]
        have h1 := h.2 k k3 k4
        have b1 := bZ_bd (p := f g = k)
        by_cases q : b = k
        · rw [bZ_t q, bZ_f (fun z => hfb (by omega))]
          rw [← q] at h1 ⊢
          omega
        · rw [bZ_f q]
          omega
      · rw [tot_upd hg hU]
        omega
    · -- all of that kind are used: change with one that has it
      have hpos : ¬ sumZ G (fun i => bZ (U i ∧ f i = b)) = 0 := by omega
      obtain ⟨j, j1, j2, j3⟩ := sumZ_pos hpos
      have hj : U j ∧ f j = b := by
        apply Classical.byContradiction
        intro z
        exact j3 (bZ_f z)
      have hjg : ¬ j = g := fun z => hfb (by rw [← z]; exact hj.2)
      have hsj := hmax j j1 j2 hj.1
      refine ⟨updZ (updZ f g b) j (f g), ⟨fun i i1 i2 hi => ?_, fun k k3 k4 => ?_⟩, by rw [updZ_n (fun z => hjg z.symm), updZ_s], ?_⟩
      · by_cases q : i = j
        · rw [q, updZ_s]
          exact ⟨k1, by omega⟩
        · rw [updZ_n q]
          by_cases q2 : i = g
          · rw [q2, updZ_s]; exact ⟨hb, hbs⟩
          · rw [updZ_n q2]; exact h.1 i i1 i2 hi
      · rw [cnt_upd ⟨j1, j2⟩ hj.1, cnt_upd hg hU, updZ_n hjg, hj.2]
        have h1 := h.2 k k3 k4
        omega
      · rw [tot_upd ⟨j1, j2⟩ hj.1, tot_upd hg hU, updZ_n hjg, hj.2]
        omega
/-- what is left behind giving one group its rod -/
theorem fsb_less {f : Int → Int} {g b : Int} (hg : 0 ≤ g ∧ g < G) (hU : U g) (hfg : f g = b) (h : fsb G K sg rl U left f) : fsb G K sg rl (fun i => U i ∧ ¬ i = g) (updZ left b (left b - 1)) f ∧ totF G rl U f = rl b + totF G rl (fun i => U i ∧ ¬ i = g) f := by
  have cnt : ∀ k, sumZ G (fun i => bZ ((U i ∧ ¬ i = g) ∧ f i = k)) = sumZ G (fun i => bZ (U i ∧ f i = k)) - bZ (b = k) := by
    intro k
    have e : (fun i => bZ ((U i ∧ ¬ i = g) ∧ f i = k)) = updZ (fun i => bZ (U i ∧ f i = k)) g 0 := by
      funext i
      unfold updZ
      by_cases q : i = g
      · rw [if_pos q, bZ_f (fun z => z.1.2 q)]
      · rw [if_neg q]
        exact bZ_congr ⟨fun z => ⟨z.1.1, z.2⟩, fun z => ⟨⟨z.1, q⟩, z.2⟩⟩
    have e2 : bZ (U g ∧ f g = k) = bZ (b = k) := bZ_congr ⟨fun z => by rw [← hfg]; exact z.2, fun z => ⟨hU, by rw [hfg]; exact z⟩⟩
    rw [e, sumZ_upd hg, e2]
    omega
  refine ⟨⟨fun i i1 i2 hi => h.1 i i1 i2 hi.1, fun k k1 k2 => ?_⟩, ?_⟩
  · rw [cnt k]
    have := h.2 k k1 k2
    by_cases q : k = b
    · rw [q, updZ_s, bZ_t rfl]
      rw [q] at this
      omega
    · rw [updZ_n q, bZ_f (fun z => q z.symm)]
      omega
  · unfold totF
    have e : (fun i => bZ (U i ∧ ¬ i = g) * rl (f i)) = updZ (fun i => bZ (U i) * rl (f i)) g 0 := by
      funext i
      unfold updZ
      by_cases q : i = g
      · rw [if_pos q, bZ_f (fun z => z.2 q), Int.zero_mul]
      · rw [if_neg q, bZ_congr (show (U i ∧ ¬ i = g) ↔ U i from ⟨fun z => z.1, fun z => ⟨z, q⟩⟩)]
    rw [e, sumZ_upd hg, bZ_t hU, Int.one_mul, hfg]
    omega
theorem fsb_more {f : Int → Int} {g b : Int} (hg : 0 ≤ g ∧ g < G) (hU : U g) (hb : 0 ≤ b ∧ b < K) (hbs : sg g ≤ rl b) (h : fsb G K sg rl (fun i => U i ∧ ¬ i = g) (updZ left b (left b - 1)) f) : fsb G K sg rl U left (updZ f g b) ∧ totF G rl U (updZ f g b) = rl b + totF G rl (fun i => U i ∧ ¬ i = g) f := by
  have cnt : ∀ k, sumZ G (fun i => bZ (U i ∧ updZ f g b i = k)) = sumZ G (fun i => bZ ((U i ∧ ¬ i = g) ∧ f i = k)) + bZ (b = k) := by
    intro k
    have e : (fun i => bZ (U i ∧ updZ f g b i = k)) = updZ (fun i => bZ ((U i ∧ ¬ i = g) ∧ f i = k)) g (bZ (b = k)) := by
      funext i
      unfold updZ
      by_cases q : i = g
      · rw [if_pos q, if_pos q, q]
        exact bZ_congr ⟨fun z => z.2, fun z => ⟨hU, z⟩⟩
      · rw [if_neg q, if_neg q]
        exact bZ_congr ⟨fun z => ⟨⟨z.1, q⟩, z.2⟩, fun z => ⟨z.1.1, z.2⟩⟩
    have e2 : bZ ((U g ∧ ¬ g = g) ∧ f g = k) = 0 := bZ_f (fun z => z.1.2 rfl)
    rw [e, sumZ_upd hg, e2]
    omega
  refine ⟨⟨fun i i1 i2 hi => ?_, fun k k1 k2 => ?_⟩, ?_⟩
  · by_cases q : i = g
    · rw [q, updZ_s]; exact ⟨hb, hbs⟩
    · rw [updZ_n q]; exact h.1 i i1 i2 ⟨hi, q⟩
  · rw [cnt k]
    have := (show sumZ G (fun i => bZ ((U i ∧ ¬ i = g) ∧ f i = k)) ≤ updZ left b (left b - 1) k from h.2 k k1 k2)
    by_cases q : k = b
    · rw [q, updZ_s] at this
      rw [q, bZ_t rfl]
      omega
    · rw [updZ_n q] at this
      rw [bZ_f (fun z => q z.symm)]
      omega
  · show sumZ G (fun i => bZ (U i) * rl (updZ f g b i)) = rl b + sumZ G (fun i => bZ (U i ∧ ¬ i = g) * rl (f i))
    have e : (fun i => bZ (U i) * rl (updZ f g b i)) = updZ (fun i => bZ (U i ∧ ¬ i = g) * rl (f i)) g (rl b) := by
      funext i
      unfold updZ
      by_cases q : i = g
      · rw [if_pos q, if_pos q, q, bZ_t hU, Int.one_mul]
      · rw [if_neg q, if_neg q]
        show bZ (U i) * rl (f i) = bZ (U i ∧ ¬ i = g) * rl (f i)
        rw [bZ_congr (show (U i ∧ ¬ i = g) ↔ U i from ⟨fun z => z.1, fun z => ⟨z, q⟩⟩)]
    rw [e, sumZ_upd hg, bZ_f (fun z => z.2 rfl), Int.zero_mul]
    omega
/-- the best of what is left: r is it, or -1 and there is none -/
def bst (G K : Int) (sg rl : Int → Int) (U : Int → Prop) (left : Int → Int) (r : Int) : Prop := (r = -1 ∧ ∀ f, ¬ fsb G K sg rl U left f) ∨ (0 ≤ r ∧ (∃ f, fsb G K sg rl U left f ∧ totF G rl U f = r) ∧ ∀ f, fsb G K sg rl U left f → r ≤ totF G rl U f)
theorem bst_none {g : Int} (hg : 0 ≤ g ∧ g < G) (hU : U g) (hno : ∀ k, 0 ≤ k → k < K → 0 < left k → ¬ sg g ≤ rl k) : bst G K sg rl U left (-1) := by
  refine Or.inl ⟨rfl, fun f h => ?_⟩
  obtain ⟨k1, k2⟩ := h.1 g hg.1 hg.2 hU
  have := sumZ_ge (g := fun i => bZ (U i ∧ f i = f g)) (n := G) (k := g) (fun _ _ _ => bZ_bd.1) hg
  have e : bZ (U g ∧ f g = f g) = 1 := bZ_t ⟨hU, rfl⟩
  have h2 : bZ (U g ∧ f g = f g) ≤ sumZ G (fun i => bZ (U i ∧ f i = f g)) := this
  have h3 := h.2 (f g) k1.1 k1.2
  exact hno (f g) k1.1 k1.2 (by omega) k2
theorem bst_step {g b r : Int} (hg : 0 ≤ g ∧ g < G) (hU : U g) (hmax : ∀ i, 0 ≤ i → i < G → U i → sg i ≤ sg g) (hb : 0 ≤ b ∧ b < K) (hbl : 0 < left b) (hbs : sg g ≤ rl b) (hrb : 0 ≤ rl b) (hmin : ∀ k, 0 ≤ k → k < K → 0 < left k → sg g ≤ rl k → rl b ≤ rl k) (h : bst G K sg rl (fun i => U i ∧ ¬ i = g) (updZ left b (left b - 1)) r) : bst G K sg rl U left (if r = -1 then -1 else rl b + r) := by
  rcases h with ⟨h1, h2⟩ | ⟨h1, ⟨f, h2, h3⟩, h4⟩
  · rw [if_pos h1]
    refine Or.inl ⟨rfl, fun f hf => ?_⟩
    obtain ⟨f', e1, e2, _⟩ := exch hg hU hmax hb hbl hbs hmin hf
    exact h2 f' (fsb_less hg hU e2 e1).1
  · rw [if_neg (by omega)]
    obtain ⟨g1, g2⟩ := fsb_more hg hU hb hbs h2
    refine Or.inr ⟨by omega, ⟨_, g1, by rw [g2, h3]⟩, fun f' hf' => ?_⟩
    obtain ⟨f2, e1, e2, e3⟩ := exch hg hU hmax hb hbl hbs hmin hf'
    obtain ⟨l1, l2⟩ := fsb_less hg hU e2 e1
    have := h4 f2 l1
    omega
theorem bst_end (hG : 0 ≤ G) (hl : ∀ k, 0 ≤ k → k < K → 0 ≤ left k) (hU : ∀ i, 0 ≤ i → i < G → ¬ U i) : bst G K sg rl U left 0 := by
  have ht : ∀ f, totF G rl U f = 0 := fun f => sumZ_zero fun i i1 i2 => by rw [bZ_f (hU i i1 i2), Int.zero_mul]
  refine Or.inr ⟨Int.le_refl _, ⟨fun _ => 0, ⟨fun i i1 i2 hi => absurd hi (hU i i1 i2), fun k k1 k2 => ?_⟩, ht _⟩, fun f _ => by rw [ht]; exact Int.le_refl _⟩
  rw [sumZ_zero (fun i i1 i2 => bZ_f (fun z => hU i i1 i2 z.1))]
  exact hl k k1 k2
theorem bst_congr {U' : Int → Prop} {r : Int} (hU : ∀ i, 0 ≤ i → i < G → (U i ↔ U' i)) (h : bst G K sg rl U left r) : bst G K sg rl U' left r := by
  have hf : ∀ f, fsb G K sg rl U left f ↔ fsb G K sg rl U' left f := by
    intro f
    have e : ∀ k, sumZ G (fun i => bZ (U i ∧ f i = k)) = sumZ G (fun i => bZ (U' i ∧ f i = k)) := fun k => sumZ_congr fun i i1 i2 => by rw [bZ_congr (show (U i ∧ f i = k) ↔ (U' i ∧ f i = k) by rw [hU i i1 i2])]
    constructor
    · intro h
      exact ⟨fun i i1 i2 hi => h.1 i i1 i2 ((hU i i1 i2).mpr hi), fun k k1 k2 => by rw [← e k]; exact h.2 k k1 k2⟩
    · intro h
      exact ⟨fun i i1 i2 hi => h.1 i i1 i2 ((hU i i1 i2).mp hi), fun k k1 k2 => by rw [e k]; exact h.2 k k1 k2⟩
  have ht : ∀ f, totF G rl U f = totF G rl U' f := fun f => sumZ_congr fun i i1 i2 => by rw [bZ_congr (hU i i1 i2)]
  rcases h with ⟨h1, h2⟩ | ⟨h1, ⟨f, h2, h3⟩, h4⟩
  · exact Or.inl ⟨h1, fun f hf' => h2 f ((hf f).mpr hf')⟩
  · exact Or.inr ⟨h1, ⟨f, (hf f).mp h2, by rw [← ht]; exact h3⟩, fun f' hf' => by rw [← ht]; exact h4 f' ((hf f').mpr hf')⟩
end GRE
