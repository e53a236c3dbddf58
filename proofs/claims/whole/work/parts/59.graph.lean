/-! what hangs together: the mathematics for any steps; the search that goes along them -/
section GRA
variable {D : Int → Prop} {o : Int → Int → Prop} {n : Int}
def gph (D : Int → Prop) (o : Int → Int → Prop) (n : Int) : Prop := (∀ a b, D a → o a b → D b ∧ o b a) ∧ ∀ a, D a → 0 ≤ a ∧ a < n
def cn (o : Int → Int → Prop) (f g : Int) : Prop := ∀ S : Int → Prop, S f → (∀ a b, S a → o a b → S b) → S g
theorem cn_refl {f : Int} : cn o f f := fun _ h _ => h
theorem cn_step {f g g' : Int} (h : cn o f g) (h1 : o g g') : cn o f g' := fun S hb hn => hn g g' (h S hb hn) h1
theorem cn_ind {f : Int} {S : Int → Prop} (h0 : S f) (hn : ∀ a b, S a → o a b → S b) {g : Int} (h : cn o f g) : S g := h S h0 hn
theorem cn_trans {f g k : Int} (h1 : cn o f g) (h2 : cn o g k) : cn o f k := cn_ind (S := cn o f) h1 (fun _ _ ha hb => cn_step ha hb) h2
theorem cn_D (hg : gph D o n) {f g : Int} (hf : D f) (h : cn o f g) : D g := cn_ind (S := D) hf (fun _ _ ha hb => (hg.1 _ _ ha hb).1) h
theorem cn_symm (hg : gph D o n) {f g : Int} (hf : D f) (h : cn o f g) : cn o g f := by
  have := cn_ind (S := fun x => D x ∧ cn o x f) ⟨hf, cn_refl⟩ (fun a b ha hb => ⟨(hg.1 a b ha.1 hb).1, cn_trans (cn_step cn_refl (hg.1 a b ha.1 hb).2) ha.2⟩) h
  exact this.2
theorem cn_first {f g : Int} (h : cn o f g) : f = g ∨ ∃ b, o f b := by
  have := cn_ind (S := fun x => f = x ∨ ∃ b, o f b) (Or.inl rfl) (fun a b ha hb => Or.inr (by
    rcases ha with ha | ha
    · exact ⟨b, by rw [ha]; exact hb⟩
    · exact ha)) h
  exact this
def isL (D : Int → Prop) (o : Int → Int → Prop) (f c : Int) : Prop := D c ∧ cn o f c ∧ ∀ g, D g → cn o f g → c ≤ g
noncomputable def lz (D : Int → Prop) (o : Int → Int → Prop) (f : Int) : Int := @dite Int (∃ c, isL D o f c) (Classical.propDecidable _) (fun h => h.choose) (fun _ => -1)
theorem lz_ex (hg : gph D o n) {f : Int} (hf : D f) : isL D o f (lz D o f) := by
  have hx : ∃ c, isL D o f c := by
    obtain ⟨c, hc, hm⟩ := exists_min (p := fun g => D g ∧ cn o f g) ⟨f, hf, cn_refl⟩ (fun g hg' => (hg.2 g hg'.1).1)
    exact ⟨c, hc.1, hc.2, fun g h1 h2 => hm g ⟨h1, h2⟩⟩
  unfold lz
  rw [dif_pos hx]
  exact hx.choose_spec
theorem lz_eq (hg : gph D o n) {f c : Int} (hf : D f) (h : isL D o f c) : lz D o f = c := by
  have h1 := lz_ex hg hf
  have a := h1.2.2 c h.1 h.2.1
  have b := h.2.2 _ h1.1 h1.2.1
  omega
theorem lz_cn (hg : gph D o n) {f g : Int} (hf : D f) (h : cn o f g) : lz D o f = lz D o g := by
  have hgD := cn_D hg hf h
  refine lz_eq hg hf ?_
  obtain ⟨h1, h2, h3⟩ := lz_ex hg hgD
  exact ⟨h1, cn_trans h h2, fun k k1 k2 => h3 k k1 (cn_trans (cn_symm hg hf h) k2)⟩
theorem lz_self (hg : gph D o n) {f : Int} (hf : D f) : lz D o (lz D o f) = lz D o f := (lz_cn hg hf (lz_ex hg hf).2.1).symm
theorem lz_cn' (hg : gph D o n) {f g : Int} (hf : D f) (hgD : D g) (h : lz D o f = lz D o g) : cn o f g := by
  have h1 := (lz_ex hg hf).2.1
  have h2 := (lz_ex hg hgD).2.1
  rw [h] at h1
  exact cn_trans h1 (cn_symm hg hgD h2)
theorem lz_le (hg : gph D o n) {f : Int} (hf : D f) : lz D o f ≤ f := (lz_ex hg hf).2.2 f hf cn_refl
theorem lz_char (hg : gph D o n) {c : Int → Int} (h1 : ∀ f, D f → D (c f) ∧ cn o f (c f) ∧ c f ≤ f) (h2 : ∀ f g, D f → o f g → c f = c g) : ∀ f, D f → c f = lz D o f := by
  intro f hf
  have key : ∀ g, cn o f g → D g ∧ c f = c g := fun g hh => cn_ind (S := fun g => D g ∧ c f = c g) ⟨hf, rfl⟩ (fun a b ha hb => ⟨(hg.1 a b ha.1 hb).1, ha.2.trans (h2 a b ha.1 hb)⟩) hh
  obtain ⟨m1, m2, m3⟩ := lz_ex hg hf
  have e := (key _ m2).2
  obtain ⟨k1, k2, k3⟩ := h1 _ m1
  have := m3 _ k1 (cn_trans m2 k2)
  omega
/-- in the queue -/
def inq (qu : Int → Int) (w g : Int) : Prop := ∃ j, 0 ≤ j ∧ j < w ∧ qu j = g
/-- the search from r: M was seen before, sn is seen now, w wait in the queue -/
def bfs (D : Int → Prop) (o : Int → Int → Prop) (n r : Int) (M sn : Int → Prop) (qu : Int → Int) (w : Int) : Prop :=
  1 ≤ w ∧ qu 0 = r ∧ (∀ j, 0 ≤ j → j < w → D (qu j) ∧ cn o r (qu j)) ∧ (∀ g, D g → (sn g ↔ M g ∨ inq qu w g)) ∧
  (∀ f : Int → Int, sumZ w (fun j => f (qu j)) = sumZ n (fun g => bZ (inq qu w g) * f g)) ∧ w = sumZ n (fun g => bZ (inq qu w g))
theorem inq_add {qu : Int → Int} {w g x : Int} (hw : 0 ≤ w) : inq (updZ qu w g) (w + 1) x ↔ inq qu w x ∨ g = x := by
  unfold inq
  rw [exZ_succ hw, updZ_s]
  constructor
  · rintro (⟨j, j1, j2, j3⟩ | h)
    · rw [updZ_n (by omega)] at j3
      exact Or.inl ⟨j, j1, j2, j3⟩
    · exact Or.inr h
  · rintro (⟨j, j1, j2, j3⟩ | h)
    · exact Or.inl ⟨j, j1, j2, by rw [updZ_n (by omega)]; exact j3⟩
    · exact Or.inr h
theorem sumZ_one {f : Int → Int} {g n : Int} (h : 0 ≤ g ∧ g < n) : sumZ n (fun x => bZ (g = x) * f x) = f g := by
  have e : (fun x => bZ (g = x) * f x) = updZ (fun _ => 0) g (f g) := by
    funext x
    unfold updZ
    by_cases q : x = g
    · rw [if_pos q, q, bZ_t rfl, Int.one_mul]
    · rw [if_neg q, bZ_f (fun z => q z.symm), Int.zero_mul]
  rw [e, sumZ_upd h, sumZ_zero (fun _ _ _ => rfl)]
  omega
theorem sum_inq {qu f : Int → Int} {w g n : Int} (hw : 0 ≤ w) (hg : 0 ≤ g ∧ g < n) (hn : ¬ inq qu w g) : sumZ n (fun x => bZ (inq (updZ qu w g) (w + 1) x) * f x) = sumZ n (fun x => bZ (inq qu w x) * f x) + f g := by
  rw [← sumZ_one (f := f) hg, ← sumZ_add]
  refine sumZ_congr fun x _ _ => ?_
  rw [bZ_congr (inq_add hw)]
  by_cases q : g = x
  · subst q
    rw [bZ_t (Or.inr rfl), bZ_f hn, bZ_t rfl]
    omega
  · rw [bZ_f q, Int.zero_mul, Int.add_zero]
    congr 1
    exact bZ_congr ⟨fun z => z.elim id (fun z => absurd z q), Or.inl⟩
theorem bfs_start (hg : gph D o n) {r : Int} {M : Int → Prop} {qu : Int → Int} (hr : D r) : bfs D o n r M (fun g => M g ∨ g = r) (updZ qu 0 r) 1 := by
  have h0 : ∀ x, ¬ inq qu 0 x := by
    rintro x ⟨j, j1, j2, j3⟩
    omega
  have hi : ∀ x, inq (updZ qu 0 r) 1 x ↔ r = x := by
    intro x
    have := inq_add (qu := qu) (w := 0) (g := r) (x := x) (by decide)
    rw [show (0 : Int) + 1 = 1 from rfl] at this
    rw [this]
    exact ⟨fun z => z.elim (fun z => absurd z (h0 x)) id, Or.inr⟩
  refine ⟨by decide, updZ_s, ?_, ?_, ?_, ?_⟩
  · intro j j1 j2
    have e : j = 0 := by omega
    rw [e, updZ_s]
    exact ⟨hr, cn_refl⟩
  · intro g _
    rw [hi]
    exact ⟨fun z => z.elim Or.inl (fun z => Or.inr z.symm), fun z => z.elim Or.inl (fun z => Or.inr z.symm)⟩
  · intro f
    have := sum_inq (qu := qu) (f := f) (w := 0) (g := r) (n := n) (by decide) (hg.2 r hr) (h0 r)
    rw [show (0 : Int) + 1 = 1 from rfl] at this
    have e1 : sumZ 1 (fun j => f (updZ qu 0 r j)) = sumZ 0 (fun j => f (updZ qu 0 r j)) + f (updZ qu 0 r 0) := sumZ_succ (k := 0) (by decide)
    rw [this, sumZ_zero (n := n) (g := fun x => bZ (inq qu 0 x) * f x) (fun k _ _ => by rw [bZ_f (h0 k), Int.zero_mul]), e1, sumZ_0, updZ_s]
  · have := sum_inq (qu := qu) (f := fun _ => 1) (w := 0) (g := r) (n := n) (by decide) (hg.2 r hr) (h0 r)
    rw [show (0 : Int) + 1 = 1 from rfl, sumZ_zero (n := n) (g := fun x => bZ (inq qu 0 x) * 1) (fun k _ _ => by rw [bZ_f (h0 k), Int.zero_mul])] at this
    rw [sumZ_congr (g := fun x => bZ (inq (updZ qu 0 r) 1 x) * 1) (fun k _ _ => (Int.mul_one _).symm), this]
    rfl
theorem bfs_add (hg : gph D o n) {r i g w : Int} {M sn : Int → Prop} {qu : Int → Int} (h : bfs D o n r M sn qu w) (hi : 0 ≤ i ∧ i < w) (ho : o (qu i) g) (hn : ¬ sn g) : bfs D o n r M (fun x => sn x ∨ x = g) (updZ qu w g) (w + 1) := by
  obtain ⟨h1, h2, h3, h4, h5, h6⟩ := h
  have hiD := h3 i hi.1 hi.2
  have hgD := (hg.1 _ _ hiD.1 ho).1
  have hnq : ¬ inq qu w g := fun z => hn ((h4 g hgD).mpr (Or.inr z))
  have hw : 0 ≤ w := by omega
  refine ⟨by omega, by rw [updZ_n (by omega)]; exact h2, ?_, ?_, ?_, ?_⟩
  · intro j j1 j2
    by_cases q : j = w
    · rw [q, updZ_s]
      exact ⟨hgD, cn_step hiD.2 ho⟩
    · rw [updZ_n q]
      exact h3 j j1 (by omega)
  · intro x hx
    show (sn x ∨ x = g) ↔ _
    rw [inq_add hw, h4 x hx]
    constructor
    · rintro ((z | z) | z)
      · exact Or.inl z
      · exact Or.inr (Or.inl z)
      · exact Or.inr (Or.inr z.symm)
    · rintro (z | z | z)
      · exact Or.inl (Or.inl z)
      · exact Or.inl (Or.inr z)
      · exact Or.inr z.symm
  · intro f
    rw [sumZ_succ hw, updZ_s, sum_inq hw (hg.2 g hgD) hnq, ← h5 f]
    congr 1
    exact sumZ_congr fun j j1 j2 => by rw [updZ_n (by omega)]
  · have := sum_inq (qu := qu) (f := fun _ => 1) (w := w) (g := g) (n := n) hw (hg.2 g hgD) hnq
    rw [sumZ_congr (f := fun x => bZ (inq (updZ qu w g) (w + 1) x) * 1) (g := fun x => bZ (inq (updZ qu w g) (w + 1) x)) (fun k _ _ => Int.mul_one _), sumZ_congr (f := fun x => bZ (inq qu w x) * 1) (g := fun x => bZ (inq qu w x)) (fun k _ _ => Int.mul_one _)] at this
    omega
theorem bfs_bd {r w : Int} {M sn : Int → Prop} {qu : Int → Int} (h : bfs D o n r M sn qu w) (hn : 0 ≤ n) : 1 ≤ w ∧ w ≤ n := by
  obtain ⟨h1, h2, h3, h4, h5, h6⟩ := h
  have := sumZ_bd' (g := fun g => bZ (inq qu w g)) (n := n) (B := n) (c := 1) (fun _ _ _ => bZ_bd) hn (Int.le_refl _) (by decide)
  omega
theorem bfs_end (hg : gph D o n) {r w : Int} {M sn : Int → Prop} {qu : Int → Int} (h : bfs D o n r M sn qu w) (hM : ∀ a b, D a → o a b → M b → M a) (hr : D r) (hrM : ¬ M r) (hcl : ∀ j g, 0 ≤ j → j < w → o (qu j) g → sn g) :
    (∀ g, inq qu w g ↔ cn o r g) ∧ ∀ g, D g → (sn g ↔ M g ∨ cn o r g) := by
  obtain ⟨h1, h2, h3, h4, h5, h6⟩ := h
  have hq : ∀ g, inq qu w g ↔ cn o r g := by
    intro g
    constructor
    · rintro ⟨j, j1, j2, j3⟩
      rw [← j3]
      exact (h3 j j1 j2).2
    · intro hc
      have hcM : ∀ x, cn o r x → ¬ M x := fun x hx => (cn_ind (S := fun x => D x ∧ ¬ M x) ⟨hr, hrM⟩ (fun a b ha hb => ⟨(hg.1 a b ha.1 hb).1, fun z => ha.2 (hM a b ha.1 hb z)⟩) hx).2
      refine (cn_ind (S := fun x => cn o r x ∧ inq qu w x) ⟨cn_refl, 0, by decide, by omega, h2⟩ (fun a b ha hb => ?_) hc).2
      obtain ⟨hca, j, j1, j2, j3⟩ := ha
      have hcb := cn_step hca hb
      have hs := hcl j b j1 j2 (by rw [j3]; exact hb)
      refine ⟨hcb, ?_⟩
      rcases (h4 b (cn_D hg hr hcb)).mp hs with z | z
      · exact absurd z (hcM b hcb)
      · exact z
  exact ⟨hq, fun g hgD => by rw [h4 g hgD, hq g]⟩
end GRA
