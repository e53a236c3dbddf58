/-! groups of wires of the reference: laid, given rods, the next ones -/
section CUR
variable {E : gw_N} {N : NM} {P : Pic} {n : Int} {ln p : Int → Int}
-- digits
def hvN (p : Int → Int) : Nat → Int
  | 0 => 0
  | k + 1 => 9 * hvN p k + p (k : Int)
def hvZ (p : Int → Int) (k : Int) : Int := hvN p k.toNat
theorem hvZ_s {k : Int} (h : 0 ≤ k) : hvZ p (k + 1) = 9 * hvZ p k + p k := by
  unfold hvZ
  rw [show (k + 1).toNat = k.toNat + 1 by omega, hvN, Int.toNat_of_nonneg h]
theorem hvZ_0 : hvZ p 0 = 0 := rfl
def dig (n : Int) (p : Int → Int) : Prop := ∀ k, 0 ≤ k → k < n → 0 ≤ p k ∧ p k ≤ 8
theorem hv_same {a b : Int → Int} (hn : 0 ≤ n) (h : ∀ k, 0 ≤ k → k < n → a k = b k) : hvZ a n = hvZ b n := by
  refine indZ (P := fun m => m ≤ n → hvZ a m = hvZ b m) (fun _ => rfl) ?_ n hn (Int.le_refl _)
  intro k k1 ih hk
  rw [hvZ_s k1, hvZ_s k1, ih (by omega), h k k1 (by omega)]
theorem hv_lt {a b : Int → Int} {t : Int} (ha : dig n a) (hb : dig n b) (ht : 0 ≤ t ∧ t < n) (h : ∀ k, 0 ≤ k → k < t → a k = b k) (hlt : a t < b t) : hvZ a n < hvZ b n := by
  have h0 := hv_same ht.1 h
  have key := indZ (P := fun e => t + 1 + e ≤ n → hvZ a (t + 1 + e) + 1 ≤ hvZ b (t + 1 + e)) (fun _ => by rw [Int.add_zero, hvZ_s ht.1, hvZ_s ht.1, h0]; omega) (fun e e1 ih he => by
    have := ih (by omega)
    have d1 := ha (t + 1 + e) (by omega) (by omega)
    have d2 := hb (t + 1 + e) (by omega) (by omega)
    rw [← Int.add_assoc, hvZ_s (by omega), hvZ_s (by omega)]
    omega) (n - (t + 1)) (by omega) (by omega)
  rw [show t + 1 + (n - (t + 1)) = n by omega] at key
  omega
theorem hv_le0 {a b : Int → Int} {t : Int} (hb : dig n b) (ht : 0 ≤ t ∧ t < n) (h : ∀ k, 0 ≤ k → k ≤ t → a k = b k) (h0 : ∀ k, t < k → k < n → a k = 0) : hvZ a n ≤ hvZ b n := by
  have hs1 := hv_same (n := t + 1) (a := a) (b := b) (by omega) (fun k k1 k2 => h k k1 (by omega))
  have key := indZ (P := fun e => t + 1 + e ≤ n → hvZ a (t + 1 + e) ≤ hvZ b (t + 1 + e)) (fun _ => by rw [Int.add_zero, hs1]; exact Int.le_refl _) (fun e e1 ih he => by
    have := ih (by omega)
    have d2 := hb (t + 1 + e) (by omega) (by omega)
    have d1 := h0 (t + 1 + e) (by omega) (by omega)
    rw [← Int.add_assoc, hvZ_s (by omega), hvZ_s (by omega)]
    omega) (n - (t + 1)) (by omega) (by omega)
  rwa [show t + 1 + (n - (t + 1)) = n by omega] at key
theorem hv_diff {a b : Int → Int} (hn : 0 ≤ n) (h : ¬ hvZ a n = hvZ b n) : ∃ t, (0 ≤ t ∧ t < n) ∧ (∀ k, 0 ≤ k → k < t → a k = b k) ∧ ¬ a t = b t := by
  have hx : ∃ t, 0 ≤ t ∧ t < n ∧ ¬ a t = b t := by
    apply Classical.byContradiction
    intro z
    refine h (hv_same hn fun k k1 k2 => ?_)
    apply Classical.byContradiction
    intro y
    exact z ⟨k, k1, k2, y⟩
  obtain ⟨t, ⟨t1, t2, t3⟩, hmin⟩ := exists_min (p := fun t => 0 ≤ t ∧ t < n ∧ ¬ a t = b t) hx (fun g hg => hg.1)
  refine ⟨t, ⟨t1, t2⟩, fun k k1 k2 => ?_, t3⟩
  apply Classical.byContradiction
  intro y
  have := hmin k ⟨k1, by omega, y⟩
  omega
theorem hv_bd (hn : 0 ≤ n ∧ n ≤ 8) (hp : dig n p) : 0 ≤ hvZ p n ∧ hvZ p n < 43046721 := by
  have key := indZ (P := fun k => k ≤ n → 0 ≤ hvZ p k ∧ hvZ p k < 9 ^ k.toNat) (fun _ => by rw [hvZ_0]; decide) (fun k k1 ih hk => by
    have := ih (by omega)
    have d := hp k k1 (by omega)
    rw [hvZ_s k1, show (k + 1).toNat = k.toNat + 1 by omega, Int.pow_succ]
    omega) n hn.1 (Int.le_refl _)
  have h9 : (9 : Int) ^ n.toNat ≤ 43046721 := by
    obtain ⟨a, rfl⟩ := fin_of (n := 9) (x := n) (by omega)
    have : ∀ x : Fin 9, (9 : Int) ^ ((x.val : Int)).toNat ≤ 43046721 := by decide
    exact this a
  omega
theorem mx_same {a b : Int → Int} {k : Int} (hk : 0 ≤ k) (h : ∀ j, 0 ≤ j → j < k → a j = b j) : mxZ a k = mxZ b k := by
  refine indZ (P := fun m => m ≤ k → mxZ a m = mxZ b m) (fun _ => rfl) ?_ k hk (Int.le_refl _)
  intro j j1 ih hj
  rw [mxZ_s j1, mxZ_s j1, ih (by omega), h j j1 (by omega)]
theorem mx_nn {k : Int} (hk : 0 ≤ k) : 0 ≤ mxZ p k := by
  refine indZ (P := fun m => 0 ≤ mxZ p m) (Int.le_refl _) ?_ k hk
  intro j j1 ih
  rw [mxZ_s j1]
  omega
theorem mx_ge {k j : Int} (hj : 0 ≤ j ∧ j < k) : p j ≤ mxZ p k := by
  refine indZ (P := fun m => j < m → p j ≤ mxZ p m) (fun z => by omega) ?_ k (by omega) hj.2
  intro i i1 ih hi
  rw [mxZ_s i1]
  by_cases q : j = i
  · rw [q]; omega
  · have := ih (by omega)
    omega
theorem rgs_bd (h : rgs n p) : ∀ k, 0 ≤ k → k < n → p k ≤ k ∧ mxZ p (k + 1) ≤ k := by
  intro k k1
  refine indZ (P := fun k => k < n → p k ≤ k ∧ mxZ p (k + 1) ≤ k) ?_ ?_ k k1
  · intro h0
    have := h.2.1 h0
    rw [mxZ_s (Int.le_refl _), mxZ_0, this]
    omega
  · intro j j1 ih hj
    have h1 := ih (by omega)
    have h2 := h.2.2 (j + 1) (by omega) hj
    rw [mxZ_s (by omega)]
    omega
theorem rgs_dig (hn : n ≤ 8) (h : rgs n p) : dig n p := fun k k1 k2 => ⟨h.1 k k1 k2, by have := (rgs_bd h k k1 k2).1; omega⟩
theorem rgs_used (hn : 1 ≤ n) (h : rgs n p) : ∀ i, 0 ≤ i → i < mxZ p n + 1 → ∃ w, 0 ≤ w ∧ w < n ∧ p w = i := by
  have key : ∀ m, 0 ≤ m → m ≤ n → ∀ i, 0 ≤ i → i ≤ mxZ p m → 0 < m → ∃ w, 0 ≤ w ∧ w < m ∧ p w = i := by
    intro m m1
    refine indZ (P := fun m => m ≤ n → ∀ i, 0 ≤ i → i ≤ mxZ p m → 0 < m → ∃ w, 0 ≤ w ∧ w < m ∧ p w = i) (fun _ i _ _ z => by omega) ?_ m m1
    intro j j1 ih hj i i1 i2 _
    rw [mxZ_s j1] at i2
    by_cases hj0 : j = 0
    · subst hj0
      have := h.2.1 (by omega)
      rw [mxZ_0] at i2
      exact ⟨0, Int.le_refl _, by omega, by omega⟩
    · by_cases q : i ≤ mxZ p j
      · obtain ⟨w, w1, w2, w3⟩ := ih (by omega) i i1 q (by omega)
        exact ⟨w, w1, by omega, w3⟩
      · have := h.2.2 j (by omega) (by omega)
        exact ⟨j, j1, by omega, by omega⟩
  intro i i1 i2
  exact key n (by omega) (Int.le_refl _) i i1 (by omega) (by omega)
-- the next groups
theorem next_none (hn : 0 ≤ n ∧ n ≤ 8) (hp : rgs n p) (hk : ∀ k, 0 < k → k < n → mxZ p k < p k) : ∀ p2, rgs n p2 → ¬ hvZ p n < hvZ p2 n := by
  intro p2 h2 hlt
  obtain ⟨t, t1, t2, t3⟩ := hv_diff (a := p) (b := p2) hn.1 (by omega)
  by_cases q : p2 t < p t
  · have := hv_lt (rgs_dig hn.2 h2) (rgs_dig hn.2 hp) t1 (fun k a b => (t2 k a b).symm) q
    omega
  · by_cases t0 : t = 0
    · have e1 := hp.2.1 (by omega)
      have e2 := h2.2.1 (by omega)
      rw [t0] at t3
      omega
    · have h3 := h2.2.2 t (by omega) t1.2
      rw [← mx_same t1.1 t2] at h3
      have := hk t (by omega) t1.2
      omega
theorem next_some {k : Int} {p' : Int → Int} (hn : 0 ≤ n ∧ n ≤ 8) (hp : rgs n p) (hk : 0 < k ∧ k < n) (hle : p k ≤ mxZ p k) (hno : ∀ j, k < j → j < n → mxZ p j < p j) (h1 : ∀ j, 0 ≤ j → j < k → p' j = p j) (h2 : p' k = p k + 1) (h3 : ∀ j, k < j → j < n → p' j = 0) :
    rgs n p' ∧ hvZ p n < hvZ p' n ∧ ∀ p2, rgs n p2 → hvZ p n < hvZ p2 n → hvZ p' n ≤ hvZ p2 n := by
  have hr : rgs n p' := by
    refine ⟨fun j j1 j2 => ?_, fun h0 => by rw [h1 0 (Int.le_refl _) hk.1]; exact hp.2.1 h0, fun j j1 j2 => ?_⟩
    · rcases Int.lt_trichotomy j k with q | q | q
      · rw [h1 j j1 q]; exact hp.1 j j1 j2
      · rw [q, h2]; have := hp.1 k (by omega) hk.2; omega
      · rw [h3 j q j2]; exact Int.le_refl _
    · rcases Int.lt_trichotomy j k with q | q | q
      · rw [h1 j (by omega) q, mx_same (b := p) (by omega) (fun i a b => h1 i a (by omega))]
        exact hp.2.2 j j1 j2
      · rw [q, h2, mx_same (b := p) (by omega) (fun i a b => h1 i a b)]
        omega
      · rw [h3 j q j2]
        have := mx_nn (p := p') (k := j) (by omega)
        omega
  refine ⟨hr, hv_lt (rgs_dig hn.2 hp) (rgs_dig hn.2 hr) (t := k) (by omega) (fun j a b => (h1 j a b).symm) (by omega), fun p2 hp2 hlt => ?_⟩
  obtain ⟨t, t1, t2, t3⟩ := hv_diff (a := p) (b := p2) hn.1 (by omega)
  have htl : p t < p2 t := by
    apply Classical.byContradiction
    intro q
    have := hv_lt (rgs_dig hn.2 hp2) (rgs_dig hn.2 hp) t1 (fun k a b => (t2 k a b).symm) (by omega)
    omega
  have ht0 : ¬ t = 0 := by
    intro q
    have e1 := hp.2.1 (by omega)
    have e2 := hp2.2.1 (by omega)
    rw [q] at htl
    omega
  have hb := hp2.2.2 t (by omega) t1.2
  rw [← mx_same t1.1 t2] at hb
  have htk : t ≤ k := by
    apply Classical.byContradiction
    intro q
    have := hno t (by omega) t1.2
    omega
  by_cases q : t = k
  · subst q
    by_cases q2 : p' t = p2 t
    · refine hv_le0 (t := t) (rgs_dig hn.2 hp2) t1 (fun j a b => ?_) h3
      by_cases z : j = t
      · rw [z]; exact q2
      · rw [h1 j a (by omega)]; exact t2 j a (by omega)
    · have := hv_lt (a := p') (b := p2) (rgs_dig hn.2 hr) (rgs_dig hn.2 hp2) t1 (fun j a b => by rw [h1 j a b]; exact t2 j a b) (by omega)
      omega
  · have := hv_lt (a := p') (b := p2) (rgs_dig hn.2 hr) (rgs_dig hn.2 hp2) t1 (fun j a b => by rw [h1 j a (by omega)]; exact t2 j a b) (by rw [h1 t t1.1 (by omega)]; exact htl)
    omega
theorem sp304 (hn : 1 ≤ n ∧ n ≤ 8) (hp : rgs n p) (h40 : N 59 40 = n) (h87 : ∀ k, 0 ≤ k → k < n → N 87 k = p k) :
    ∃ r p' g, Rn 304 [.ref 59] (hs E (jm N)) (some (.int (J r))) (hs E (jm (upZ N 87 g))) ∧ (∀ k, 0 ≤ k → k < n → g k = p' k) ∧ ((r = 0 ∧ ∀ p2, rgs n p2 → ¬ hvZ p n < hvZ p2 n) ∨ (r = 1 ∧ rgs n p' ∧ hvZ p n < hvZ p' n ∧ ∀ p2, rgs n p2 → hvZ p n < hvZ p2 n → hvZ p' n ≤ hvZ p2 n)) := by
  have hd := rgs_dig hn.2 hp
  have key : ∀ k : Nat, (k : Int) < n → (∀ j, (k : Int) < j → j < n → mxZ p j < p j) → ∃ r p' g, ((∀ k, 0 ≤ k → k < n → g k = p' k) ∧ ((r = 0 ∧ ∀ p2, rgs n p2 → ¬ hvZ p n < hvZ p2 n) ∨ (r = 1 ∧ rgs n p' ∧ hvZ p n < hvZ p' n ∧ ∀ p2, rgs n p2 → hvZ p n < hvZ p2 n → hvZ p' n ≤ hvZ p2 n))) ∧ Ev 1 304 7 [some (.ref 59), some (.int (J ((k : Int)))), none, none] [] (hs E (jm N)) (some (.int (J r)), hs E (jm (upZ N 87 g))) := by
    intro k
    induction k with
    | zero =>
      intro hk hno
      refine ⟨0, p, N 87, ⟨h87, Or.inl ⟨rfl, next_none ⟨by omega, hn.2⟩ hp (fun k a b => hno k (by omega) b)⟩⟩, v304_7 ⟨by decide, fun _ => ?_, fun z => absurd (by decide) z⟩⟩
      rw [upZ_id]
    | succ k ih =>
      intro hk hno
      generalize hkk : ((k + 1 : Nat) : Int) = kk at *
      have hk1 : kk + (-1) = (k : Int) := by omega
      have pk := hd kk (by omega) hk
      -- the greatest label before it
      have inner : ∀ res, Ev 1 304 15 [some (.ref 59), some (.int (J kk)), some (.int (J (mxZ p kk))), some (.int (J kk))] [] (hs E (jm N)) res → Ev 1 304 15 [some (.ref 59), some (.int (J kk)), some (.int (J 0)), some (.int (J 0))] [] (hs E (jm N)) res := by
        intro res hend
        refine loopZ (a := 0) (n := kk) (Q := fun j => Ev 1 304 15 [some (.ref 59), some (.int (J kk)), some (.int (J (mxZ p j))), some (.int (J j))] [] (hs E (jm N)) res) (by omega) hend ?_
        intro j j1 j2 ih2
        have pj := hd j j1 (by omega)
        have hmb := mx_nn (p := p) j1
        have hmx : mxZ p j ≤ 8 := by
          by_cases z : j = 0
          · rw [z, mxZ_0]; decide
          · have := (rgs_bd hp (j - 1) (by omega) (by omega)).2
            rw [show j - 1 + 1 = j by omega] at this
            omega
        rw [mxZ_s j1] at ih2
        refine v304_15 ?_
        rw [h87 j j1 (by omega)]
        refine ⟨by omega, by omega, fun z => absurd z (by omega), fun _ => ⟨by omega, by omega, by omega, fun z => ?_, fun z => ?_⟩⟩
        · rw [show max (mxZ p j) (p j) = mxZ p j by omega] at ih2
          exact ih2
        · rw [show max (mxZ p j) (p j) = p j by omega] at ih2
          exact ih2
      have hmk := (rgs_bd hp (kk - 1) (by omega) (by omega)).2
      rw [show kk - 1 + 1 = kk by omega] at hmk
      have hmn := mx_nn (p := p) (k := kk) (by omega)
      by_cases hle : p kk ≤ mxZ p kk
      · -- one more here, nothing behind
        have zeros := loopZ (a := kk + 1) (n := n) (Q := fun j => ∀ g : Int → Int, (∀ i, 0 ≤ i → i < kk → g i = p i) → g kk = p kk + 1 → (∀ i, kk < i → i < j → g i = 0) → ∃ g', ((∀ i, 0 ≤ i → i < kk → g' i = p i) ∧ g' kk = p kk + 1 ∧ (∀ i, kk < i → i < n → g' i = 0)) ∧ Ev 1 304 71 [some (.ref 59), none, none, some (.int (J j))] [] (hs E (jm (upZ N 87 g))) (some (.int (J 1)), hs E (jm (upZ N 87 g')))) (by omega) ?_ ?_
        · obtain ⟨g', ⟨g1, g2, g3⟩, g4⟩ := zeros (updZ (N 87) kk (p kk + 1)) (fun i i1 i2 => by rw [updZ_n (by omega)]; exact h87 i i1 (by omega)) updZ_s (fun i i1 i2 => by omega)
          refine ⟨1, g', g', ⟨fun _ _ _ => rfl, Or.inr ⟨rfl, next_some ⟨by omega, hn.2⟩ hp ⟨by omega, hk⟩ hle hno g1 g2 g3⟩⟩, v304_7 ⟨by omega, fun z => absurd z (by omega), fun _ => inner _ (v304_15 ?_)⟩⟩
          rw [h87 kk (by omega) hk]
          exact ⟨by omega, by omega, fun _ => ⟨by omega, by omega, by omega, fun z => absurd z (by omega), fun _ => g4⟩, fun z => absurd (Int.le_refl _) z⟩
        · intro g a1 a2 a3
          refine ⟨g, ⟨a1, a2, a3⟩, v304_71 ?_⟩
          rw [show (upZ N 87 g) 59 40 = n from h40]
          exact ⟨by omega, by omega, fun _ => rfl, fun z => absurd (Int.le_refl _) z⟩
        · intro j j1 j2 ih2 g a1 a2 a3
          obtain ⟨g', b1, b2⟩ := ih2 (updZ g j 0) (fun i i1 i2 => by rw [updZ_n (by omega)]; exact a1 i i1 i2) (by rw [updZ_n (by omega)]; exact a2) (fun i i1 i2 => by
            by_cases q : i = j
            · rw [q, updZ_s]
            · rw [updZ_n q]; exact a3 i i1 (by omega))
          refine ⟨g', b1, v304_71 ?_⟩
          rw [show (upZ N 87 g) 59 40 = n from h40, upZ_s, upZ_up]
          exact ⟨by omega, by omega, fun z => absurd z (by omega), fun _ => ⟨by omega, b2⟩⟩
      · obtain ⟨r, p', g, k1, k2⟩ := ih (by omega) (fun j j1 j2 => by
          by_cases q : j = kk
          · rw [q]; omega
          · exact hno j (by omega) j2)
        refine ⟨r, p', g, k1, v304_7 ⟨by omega, fun z => absurd z (by omega), fun _ => inner _ (v304_15 ?_)⟩⟩
        rw [h87 kk (by omega) hk, hk1]
        exact ⟨by omega, by omega, fun _ => ⟨by omega, by omega, by omega, fun _ => k2, fun z => absurd (by omega) z⟩, fun z => absurd (Int.le_refl _) z⟩
  obtain ⟨r, p', g, k1, k2⟩ := key (n - 1).toNat (by omega) (fun j a b => by omega)
  rw [show (((n - 1).toNat : Nat) : Int) = n - 1 by omega] at k2
  refine ⟨r, p', g, c304 (v304_0 ?_), k1⟩
  rw [h40]
  exact k2
end CUR
