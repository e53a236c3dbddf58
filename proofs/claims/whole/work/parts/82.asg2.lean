/-! each way to cut, as groups by their first wires -/
section AS2
variable {n : Int} {ln rl : Int → Int}
def stq (n : Int) (ln rl : Int → Int) (S : Int → Prop) (v K : Int) (cap : Int → Int) : Prop := ∃ q ph : Int → Int,
  (∀ w, 0 ≤ w → w < n → S w → (0 ≤ q w ∧ q w ≤ w) ∧ S (q w) ∧ q (q w) = q w) ∧
  (∀ w, 0 ≤ w → w < n → S w → q w = w → (0 ≤ ph w ∧ ph w < K) ∧ smP n ln (fun u => S u ∧ q u = w) ≤ rl (ph w)) ∧
  (∀ k, 0 ≤ k → k < K → sumZ n (fun w => bZ (S w ∧ q w = w ∧ ph w = k)) ≤ cap k) ∧
  v = sumZ n (fun w => bZ (S w ∧ q w = w) * (1000 + rl (ph w)))
theorem stq_add {S T : Int → Prop} {v K k0 : Int} {cap : Int → Int} (hn : 0 ≤ n) (hk : 0 ≤ k0 ∧ k0 < K) (hT : ∃ w, 0 ≤ w ∧ w < n ∧ T w) (hTS : ∀ w, 0 ≤ w → w < n → T w → S w) (hsm : smP n ln T ≤ rl k0) (h : stq n ln rl (fun w => S w ∧ ¬ T w) v K cap) : stq n ln rl S (v + (1000 + rl k0)) K (updZ cap k0 (cap k0 + 1)) := by
  obtain ⟨q, ph, h1, h2, h3, h4⟩ := h
  obtain ⟨t0, ⟨a1, a2, a3⟩, hmin⟩ := exists_min (p := fun w => 0 ≤ w ∧ w < n ∧ T w) hT (fun g hg => hg.1)
  obtain ⟨q', qT, qF⟩ : ∃ q' : Int → Int, (∀ w, T w → q' w = t0) ∧ (∀ w, ¬ T w → q' w = q w) := ⟨fun w => @ite Int (T w) (Classical.propDecidable _) t0 (q w), fun w hw => if_pos hw, fun w hw => if_neg hw⟩
  refine ⟨q', updZ ph t0 k0, ?_, ?_, ?_, ?_⟩
  · intro w w1 w2 hS
    by_cases hw : T w
    · have := hmin w ⟨w1, w2, hw⟩
      rw [qT w hw]
      exact ⟨⟨a1, this⟩, hTS t0 a1 a2 a3, qT t0 a3⟩
    · obtain ⟨b1, b2, b3⟩ := h1 w w1 w2 ⟨hS, hw⟩
      rw [qF w hw]
      refine ⟨b1, b2.1, ?_⟩
      rw [qF _ b2.2, b3]
  · intro w w1 w2 hS hq
    by_cases hw : T w
    · rw [qT w hw] at hq
      subst hq
      rw [updZ_s]
      refine ⟨hk, ?_⟩
      rw [sm_congr (T := T)]
      · exact hsm
      · intro u u1 u2
        show S u ∧ q' u = t0 ↔ T u
        by_cases hu : T u
        · rw [qT u hu]
          exact ⟨fun _ => hu, fun _ => ⟨hTS u u1 u2 hu, rfl⟩⟩
        · rw [qF u hu]
          refine ⟨fun z => ?_, fun z => absurd z hu⟩
          have := (h1 u u1 u2 ⟨z.1, hu⟩).2.1.2
          rw [z.2] at this
          exact absurd a3 this
    · rw [qF w hw] at hq
      have hne : ¬ w = t0 := fun e => hw (by rw [e]; exact a3)
      rw [updZ_n hne]
      obtain ⟨b1, b2⟩ := h2 w w1 w2 ⟨hS, hw⟩ hq
      refine ⟨b1, ?_⟩
      rw [sm_congr (T := fun u => (S u ∧ ¬ T u) ∧ q u = w)]
      · exact b2
      · intro u u1 u2
        show S u ∧ q' u = w ↔ _
        by_cases hu : T u
        · rw [qT u hu]
          exact ⟨fun z => absurd z.2.symm hne, fun z => absurd hu z.1.2⟩
        · rw [qF u hu]
          exact ⟨fun z => ⟨⟨z.1, hu⟩, z.2⟩, fun z => ⟨z.1.1, z.2⟩⟩
  · intro k k1 k2
    have e : sumZ n (fun w => bZ (S w ∧ q' w = w ∧ updZ ph t0 k0 w = k)) = sumZ n (fun w => bZ ((S w ∧ ¬ T w) ∧ q w = w ∧ ph w = k)) + bZ (k0 = k) := by
      rw [← sumZ_one (f := fun _ => bZ (k0 = k)) (g := t0) (n := n) ⟨a1, a2⟩, ← sumZ_add]
      refine sumZ_congr fun w w1 w2 => ?_
      by_cases hw : T w
      · rw [qT w hw, bZ_f (show ¬ ((S w ∧ ¬ T w) ∧ q w = w ∧ ph w = k) from fun z => z.1.2 hw), Int.zero_add]
        by_cases e : t0 = w
        · subst e
          rw [bZ_t rfl, Int.one_mul, updZ_s]
          exact bZ_congr ⟨fun z => z.2.2, fun z => ⟨hTS t0 w1 w2 hw, rfl, z⟩⟩
        · rw [bZ_f e, Int.zero_mul, bZ_f (fun z => e z.2.1)]
      · have hne : ¬ t0 = w := fun e => hw (by rw [← e]; exact a3)
        rw [qF w hw, bZ_f hne, Int.zero_mul, Int.add_zero, updZ_n (fun e => hne e.symm)]
        exact bZ_congr ⟨fun z => ⟨⟨z.1, hw⟩, z.2⟩, fun z => ⟨z.1.1, z.2⟩⟩
    show sumZ n (fun w => bZ (S w ∧ q' w = w ∧ updZ ph t0 k0 w = k)) ≤ _
    rw [e]
    have := (show sumZ n (fun w => bZ ((S w ∧ ¬ T w) ∧ q w = w ∧ ph w = k)) ≤ cap k from h3 k k1 k2)
    by_cases z : k = k0
    · rw [z, updZ_s, bZ_t rfl]
      rw [z] at this
      omega
    · rw [updZ_n z, bZ_f (fun y => z y.symm)]
      omega
  · have e : sumZ n (fun w => bZ (S w ∧ q' w = w) * (1000 + rl (updZ ph t0 k0 w))) = sumZ n (fun w => bZ ((S w ∧ ¬ T w) ∧ q w = w) * (1000 + rl (ph w))) + (1000 + rl k0) := by
      rw [← sumZ_one (f := fun _ => 1000 + rl k0) (g := t0) (n := n) ⟨a1, a2⟩, ← sumZ_add]
      refine sumZ_congr fun w w1 w2 => ?_
      by_cases hw : T w
      · rw [qT w hw, bZ_f (show ¬ ((S w ∧ ¬ T w) ∧ q w = w) from fun z => z.1.2 hw), Int.zero_mul, Int.zero_add]
        by_cases e : t0 = w
        · subst e
          rw [bZ_t rfl, updZ_s, bZ_t ⟨hTS t0 w1 w2 hw, rfl⟩]
        · rw [bZ_f e, Int.zero_mul, bZ_f (fun z => e z.2), Int.zero_mul]
      · have hne : ¬ t0 = w := fun e => hw (by rw [← e]; exact a3)
        rw [qF w hw, bZ_f hne, Int.zero_mul, Int.add_zero, updZ_n (fun e => hne e.symm)]
        congr 1
        exact bZ_congr ⟨fun z => ⟨⟨z.1, hw⟩, z.2⟩, fun z => ⟨z.1.1, z.2⟩⟩
    show v + (1000 + rl k0) = sumZ n (fun w => bZ (S w ∧ q' w = w) * (1000 + rl (updZ ph t0 k0 w)))
    rw [e, ← h4]
theorem stq_cap {S : Int → Prop} {v K : Int} {cap cap' : Int → Int} (hc : ∀ k, 0 ≤ k → k < K → cap k ≤ cap' k) (h : stq n ln rl S v K cap) : stq n ln rl S v K cap' := by
  obtain ⟨q, ph, h1, h2, h3, h4⟩ := h
  exact ⟨q, ph, h1, h2, fun k k1 k2 => Int.le_trans (h3 k k1 k2) (hc k k1 k2), h4⟩
theorem as_stq {rm : Int → Int} {K : Int} (hn : 0 ≤ n) (hrm : ∀ k, 0 ≤ k → k < K → 0 ≤ rm k) : ∀ (k : Nat), (k : Int) ≤ K → ∀ (S : Int → Prop) (v : Int), asP n ln (rlN rl rm k) S v → stq n ln rl S v k (fun j => min (rm j) 8) := by
  intro k
  induction k with
  | zero =>
    intro _ S v h
    refine ⟨fun w => w, fun _ => 0, fun w w1 w2 hS => absurd hS (h.1 w w1 w2), fun w w1 w2 hS => absurd hS (h.1 w w1 w2), fun k k1 k2 => absurd k2 (by omega), ?_⟩
    rw [h.2]
    exact (sumZ_zero fun w w1 w2 => by rw [bZ_f (fun z => h.1 w w1 w2 z.1), Int.zero_mul]).symm
  | succ k ih =>
    intro hkK S v h
    rw [rlN] at h
    have inner : ∀ (c : Nat) (S : Int → Prop) (v : Int), asP n ln (List.replicate c (rl (k : Int)) ++ rlN rl rm k) S v → stq n ln rl S v ((k + 1 : Nat) : Int) (updZ (fun j => min (rm j) 8) (k : Int) (c : Int)) := by
      intro c
      induction c with
      | zero =>
        intro S v h
        obtain ⟨q, ph, h1, h2, h3, h4⟩ := ih (by omega) S v h
        refine ⟨q, ph, h1, fun w w1 w2 hS hq => ⟨by have := (h2 w w1 w2 hS hq).1; omega, (h2 w w1 w2 hS hq).2⟩, fun j j1 j2 => ?_, h4⟩
        by_cases z : j = (k : Int)
        · rw [z, updZ_s, sumZ_zero]
          · exact Int.le_refl _
          · intro w w1 w2
            refine bZ_f (fun y => ?_)
            have := (h2 w w1 w2 y.1 y.2.1).1
            have := y.2.2
            omega
        · rw [updZ_n z]
          exact h3 j j1 (by omega)
      | succ c ihc =>
        intro S v h
        rw [List.replicate_succ] at h
        rcases h with h | ⟨T, t1, t2, t3, t4⟩
        · refine stq_cap (fun j j1 j2 => ?_) (ihc S v h)
          by_cases z : j = (k : Int)
          · rw [z, updZ_s, updZ_s]; omega
          · rw [updZ_n z, updZ_n z]; exact Int.le_refl _
        · have h5 := stq_add hn (k0 := (k : Int)) (K := ((k + 1 : Nat) : Int)) (by omega) t1 t2 t3 (ihc _ _ t4)
          rw [show v - 1000 - rl (k : Int) + (1000 + rl (k : Int)) = v by omega] at h5
          refine stq_cap (fun j j1 j2 => ?_) h5
          by_cases z : j = (k : Int)
          · rw [z, updZ_s, updZ_s, updZ_s]; omega
          · rw [updZ_n z, updZ_n z, updZ_n z]; exact Int.le_refl _
    refine stq_cap (fun j j1 j2 => ?_) (inner _ S v h)
    by_cases z : j = (k : Int)
    · have := hrm (k : Int) (by omega) (by omega)
      rw [z, updZ_s]
      omega
    · rw [updZ_n z]; exact Int.le_refl _
-- labels in the order of their first wires
noncomputable def cnq (q : Int → Int) (k : Int) : Int := sumZ k (fun w => bZ (q w = w))
theorem cnq_s {q : Int → Int} {k : Int} (h : 0 ≤ k) : cnq q (k + 1) = cnq q k + bZ (q k = k) := sumZ_succ h
theorem cnq_0 {q : Int → Int} : cnq q 0 = 0 := rfl
theorem cnq_bd {q : Int → Int} {k : Int} (h : 0 ≤ k) : 0 ≤ cnq q k ∧ cnq q k ≤ k := by
  have := sumZ_bd (g := fun w => bZ (q w = w)) (n := k) (c := 1) (fun _ _ _ => bZ_bd) h
  unfold cnq
  omega
theorem cnq_mono {q : Int → Int} {c d : Int} (h : 0 ≤ c) (hcd : c ≤ d) : cnq q c ≤ cnq q d := by
  have hq := indZ (P := fun e => cnq q c ≤ cnq q (c + e)) (by rw [Int.add_zero]; exact Int.le_refl _) (fun k hk ih => by
    rw [← Int.add_assoc, cnq_s (by omega)]
    have := bZ_bd (p := q (c + k) = c + k)
    omega) (d - c) (by omega)
  rwa [show c + (d - c) = d by omega] at hq
theorem cnq_lt {q : Int → Int} {c d : Int} (h : 0 ≤ c) (hc : q c = c) (hcd : c < d) : cnq q c < cnq q d := by
  have h1 := cnq_mono (q := q) (c := c + 1) (d := d) (by omega) (by omega)
  rw [cnq_s h, bZ_t hc] at h1
  omega
theorem cnq_inj {q : Int → Int} {c d : Int} (h1 : 0 ≤ c) (h2 : 0 ≤ d) (hc : q c = c) (hd : q d = d) (h : cnq q c = cnq q d) : c = d := by
  rcases Int.lt_trichotomy c d with z | z | z
  · have := cnq_lt h1 hc z; omega
  · exact z
  · have := cnq_lt h2 hd z; omega
theorem cnq_ex {q : Int → Int} {m i : Int} (hm : 0 ≤ m) (hi : 0 ≤ i ∧ i < cnq q m) : ∃ u, 0 ≤ u ∧ u < m ∧ q u = u ∧ cnq q u = i := by
  refine indZ (P := fun m => i < cnq q m → ∃ u, 0 ≤ u ∧ u < m ∧ q u = u ∧ cnq q u = i) (fun z => by rw [cnq_0] at z; omega) ?_ m hm hi.2
  intro k k1 ih z
  by_cases y : i < cnq q k
  · obtain ⟨u, u1, u2, u3⟩ := ih y
    exact ⟨u, u1, by omega, u3⟩
  · rw [cnq_s k1] at z
    have b := bZ_01 (p := q k = k)
    exact ⟨k, k1, by omega, bZ_1.mp (by omega), by omega⟩
theorem sum_cnq {q g : Int → Int} {m : Int} (hm : 0 ≤ m) : sumZ (cnq q m) g = sumZ m (fun w => bZ (q w = w) * g (cnq q w)) := by
  refine indZ (P := fun m => sumZ (cnq q m) g = sumZ m (fun w => bZ (q w = w) * g (cnq q w))) rfl ?_ m hm
  intro k k1 ih
  rw [cnq_s k1, sumZ_succ k1, ← ih]
  by_cases z : q k = k
  · rw [bZ_t z, sumZ_succ (cnq_bd k1).1, Int.one_mul]
  · rw [bZ_f z, Int.add_zero, Int.zero_mul, Int.add_zero]
/-- the greatest label so far -/
def mxN (p : Int → Int) : Nat → Int
  | 0 => 0
  | j + 1 => max (mxN p j) (p (j : Int))
def mxZ (p : Int → Int) (k : Int) : Int := mxN p k.toNat
theorem mxZ_s {p : Int → Int} {k : Int} (h : 0 ≤ k) : mxZ p (k + 1) = max (mxZ p k) (p k) := by
  unfold mxZ
  rw [show (k + 1).toNat = k.toNat + 1 by omega, mxN, Int.toNat_of_nonneg h]
theorem mxZ_0 {p : Int → Int} : mxZ p 0 = 0 := rfl
def rgs (n : Int) (p : Int → Int) : Prop := (∀ k, 0 ≤ k → k < n → 0 ≤ p k) ∧ (0 < n → p 0 = 0) ∧ ∀ k, 0 < k → k < n → p k ≤ mxZ p k + 1
theorem stq_rgs {v K : Int} {cap : Int → Int} (hn : 1 ≤ n) (h : stq n ln rl (fun _ => True) v K cap) : ∃ p f : Int → Int, rgs n p ∧ fsb (mxZ p n + 1) K (sgP n ln p) rl (fun _ => True) cap f ∧ v = 1000 * (mxZ p n + 1) + totF (mxZ p n + 1) rl (fun _ => True) f := by
  obtain ⟨q, ph, h1, h2, h3, h4⟩ := h
  have hq : ∀ w, 0 ≤ w → w < n → (0 ≤ q w ∧ q w ≤ w) ∧ q (q w) = q w := fun w a b => ⟨(h1 w a b trivial).1, (h1 w a b trivial).2.2⟩
  have hq0 : q 0 = 0 := by have := (hq 0 (Int.le_refl _) (by omega)).1; omega
  have hmx : ∀ k, 0 ≤ k → k + 1 ≤ n → mxZ (fun w => cnq q (q w)) (k + 1) = cnq q (k + 1) - 1 := by
    intro k k1
    refine indZ (P := fun k => k + 1 ≤ n → mxZ (fun w => cnq q (q w)) (k + 1) = cnq q (k + 1) - 1) ?_ ?_ k k1
    · intro _
      rw [mxZ_s (Int.le_refl _), mxZ_0, cnq_s (Int.le_refl _), bZ_t hq0, hq0, cnq_0]
      omega
    · intro j j1 ih hj
      rw [mxZ_s (by omega), ih (by omega), cnq_s (k := j + 1) (by omega)]
      have hb := cnq_bd (q := q) (k := j + 1) (by omega)
      obtain ⟨b1, b2⟩ := hq (j + 1) (by omega) (by omega)
      by_cases z : q (j + 1) = j + 1
      · rw [bZ_t z, z]
        omega
      · have := cnq_lt (q := q) (c := q (j + 1)) (d := j + 1) b1.1 b2 (by omega)
        rw [bZ_f z]
        omega
  have hG : mxZ (fun w => cnq q (q w)) n + 1 = cnq q n := by
    have := hmx (n - 1) (by omega) (by omega)
    rw [show n - 1 + 1 = n by omega] at this
    omega
  -- the kind of a group
  have hex : ∀ i, ∃ u, (0 ≤ i ∧ i < cnq q n) → 0 ≤ u ∧ u < n ∧ q u = u ∧ cnq q u = i := by
    intro i
    by_cases hi : 0 ≤ i ∧ i < cnq q n
    · obtain ⟨u, hu⟩ := cnq_ex (q := q) (m := n) (by omega) hi
      exact ⟨u, fun _ => hu⟩
    · exact ⟨0, fun z => absurd z hi⟩
  have hf : ∀ i, 0 ≤ i ∧ i < cnq q n → 0 ≤ Classical.choose (hex i) ∧ Classical.choose (hex i) < n ∧ q (Classical.choose (hex i)) = Classical.choose (hex i) ∧ cnq q (Classical.choose (hex i)) = i := fun i hi => Classical.choose_spec (hex i) hi
  have hrep : ∀ w, 0 ≤ w → w < n → q w = w → Classical.choose (hex (cnq q w)) = w := by
    intro w w1 w2 hw
    have hb := cnq_bd (q := q) w1
    obtain ⟨c1, c2, c3, c4⟩ := hf (cnq q w) ⟨hb.1, cnq_lt w1 hw w2⟩
    exact cnq_inj c1 w1 c3 hw c4
  refine ⟨fun w => cnq q (q w), fun i => ph (Classical.choose (hex i)), ⟨fun k k1 k2 => (cnq_bd (hq k k1 k2).1.1).1, fun _ => by show cnq q (q 0) = 0; rw [hq0]; rfl, fun k k1 k2 => ?_⟩, ?_, ?_⟩
  · have hm := hmx (k - 1) (by omega) (by omega)
    rw [show k - 1 + 1 = k by omega] at hm
    rw [hm]
    have := cnq_mono (q := q) (hq k (by omega) k2).1.1 (hq k (by omega) k2).1.2
    show cnq q (q k) ≤ _
    omega
  · rw [hG]
    refine ⟨fun i i1 i2 _ => ?_, fun k k1 k2 => ?_⟩
    · obtain ⟨c1, c2, c3, c4⟩ := hf i ⟨i1, i2⟩
      obtain ⟨d1, d2⟩ := h2 _ c1 c2 trivial c3
      refine ⟨d1, ?_⟩
      unfold sgP
      rw [sm_congr (T := fun u => True ∧ q u = Classical.choose (hex i))]
      · exact d2
      · intro u u1 u2
        obtain ⟨e1, e2⟩ := hq u u1 u2
        constructor
        · intro z
          exact ⟨trivial, cnq_inj e1.1 c1 e2 c3 (by rw [c4]; exact z)⟩
        · intro z
          show cnq q (q u) = i
          rw [z.2]
          exact c4
    · rw [sum_cnq (by omega)]
      have e : sumZ n (fun w => bZ (q w = w) * bZ (True ∧ ph (Classical.choose (hex (cnq q w))) = k)) = sumZ n (fun w => bZ (True ∧ q w = w ∧ ph w = k)) := by
        refine sumZ_congr fun w w1 w2 => ?_
        by_cases z : q w = w
        · rw [bZ_t z, Int.one_mul, hrep w w1 w2 z]
          exact bZ_congr ⟨fun y => ⟨trivial, z, y.2⟩, fun y => ⟨trivial, y.2.2⟩⟩
        · rw [bZ_f z, Int.zero_mul, bZ_f (fun y => z y.2.1)]
      rw [e]
      exact h3 k k1 k2
  · rw [hG, h4]
    unfold totF
    rw [sum_cnq (by omega), show 1000 * cnq q n = 1000 * sumZ n (fun w => bZ (q w = w)) from rfl, ← sumZ_mul, ← sumZ_add]
    refine sumZ_congr fun w w1 w2 => ?_
    by_cases z : q w = w
    · show bZ (True ∧ q w = w) * (1000 + rl (ph w)) = 1000 * bZ (q w = w) + bZ (q w = w) * (bZ True * rl (ph (Classical.choose (hex (cnq q w)))))
      rw [bZ_t z, bZ_t (⟨trivial, z⟩ : True ∧ q w = w), hrep w w1 w2 z, bZ_t trivial]
      omega
    · show bZ (True ∧ q w = w) * (1000 + rl (ph w)) = 1000 * bZ (q w = w) + bZ (q w = w) * (bZ True * rl (ph (Classical.choose (hex (cnq q w)))))
      rw [bZ_f z, bZ_f (show ¬ (True ∧ q w = w) from fun y => z y.2)]
      omega
end AS2
