/-! paints of the reference; paints, paint -/
section PNR
variable {E : gw_N} {N : NM} {P : Pic} {G : Geo}
def adj2 (G : Geo) (f side a b : Int) : Prop := ∃ f' s', (f' < f ∨ (f' = f ∧ s' < side)) ∧ s' < 2 ∧ (adjS G f' s' a b ∨ adjS G f' s' b a)
theorem adj2_s {f s a b : Int} (hs2 : s < 2) : adj2 G f (s + 1) a b ↔ adj2 G f s a b ∨ adjS G f s a b ∨ adjS G f s b a := by
  constructor
  · rintro ⟨f', s', h1, h2, h3⟩
    by_cases q : f' = f ∧ s' = s
    · rw [q.1, q.2] at h3
      exact Or.inr h3
    · exact Or.inl ⟨f', s', by omega, h2, h3⟩
  · rintro (⟨f', s', h1, h2, h3⟩ | h)
    · exact ⟨f', s', by omega, h2, h3⟩
    · exact ⟨f, s, by omega, hs2, h⟩
theorem adj2_next {f a b : Int} : adj2 G (f + 1) 0 a b ↔ adj2 G f 2 a b := by
  constructor
  · rintro ⟨f', s', h1, h2, h3⟩
    have h4 : 0 ≤ s' := by rcases h3 with h3 | h3 <;> exact h3.2.1.1
    exact ⟨f', s', by omega, h2, h3⟩
  · rintro ⟨f', s', h1, h2, h3⟩
    exact ⟨f', s', by omega, h2, h3⟩
theorem adj2_0 {a b : Int} : ¬ adj2 G 0 0 a b := by
  rintro ⟨f', s', h1, h2, h3⟩
  have h4 : 0 ≤ s' ∧ 0 ≤ f' := by rcases h3 with h3 | h3 <;> exact ⟨h3.2.1.1, h3.1.1⟩
  omega
theorem adj2_end (hG : GeoR G) {a b : Int} : adj2 G (G.w * G.h) 0 a b ↔ adj G a b := by
  constructor
  · rintro ⟨f', s', h1, h2, h3⟩
    rcases h3 with h3 | h3
    · exact ⟨f', s', h3⟩
    · exact adj_symm hG ⟨f', s', h3⟩
  · rintro ⟨f, way, h⟩
    by_cases q : way < 2
    · exact ⟨f, way, Or.inl h.1.2, q, Or.inl h⟩
    · have hb := adjS_back hG h
      have hw := h.2.1
      refine ⟨_, _, Or.inl hb.1.2, ?_, Or.inr hb⟩
      obtain e | e : way = 2 ∨ way = 3 := by omega
      · subst e; decide
      · subst e; decide
def mtI (A : Int → Int → Prop) (f : Int → Int) : Prop := ∀ a b, 0 ≤ a → a < 10 → 0 ≤ b → b < 10 → f (10 * a + b) = bZ (A a b)
theorem sp256 {A : Int → Int → Prop} {k c : Int} {p : Int → Int} (hk : 0 ≤ k ∧ k < 10) (hc : R c) (hm : mtI A (N 71)) (hp : ∀ e, 0 ≤ e → e < k → N 72 e = p e ∧ 0 ≤ p e ∧ p e < 10) (hkc : N 72 k = c) : Rn 256 [.ref 59, .int (J k)] (hs E (jm N)) (some (.int (J (bZ (¬ freeP A k p c))))) (hs E (jm N)) := by
  refine c256 (v256_0 ?_)
  have e0 : ∀ j, bZ (∃ e, 0 ≤ e ∧ e < j ∧ A k e ∧ p e = c) = 0 ∨ bZ (∃ e, 0 ≤ e ∧ e < j ∧ A k e ∧ p e = c) = 1 := fun j => bZ_01
  have hend : bZ (∃ e, 0 ≤ e ∧ e < k ∧ A k e ∧ p e = c) = bZ (¬ freeP A k p c) := by
    refine bZ_congr ⟨?_, fun z => ?_⟩
    · rintro ⟨e, e1, e2, e3, e4⟩ z
      exact z e e1 e2 e3 e4
    · apply Classical.byContradiction
      intro w
      exact z (fun e e1 e2 e3 e4 => w ⟨e, e1, e2, e3, e4⟩)
  have h0 := loopZ (a := 0) (n := k) (Q := fun j => Ev 1 256 4 [some (.ref 59), some (.int (J k)), some (.int (J (bZ (∃ e, 0 ≤ e ∧ e < j ∧ A k e ∧ p e = c)))), some (.int (J j))] [] (hs E (jm N)) (some (.int (J (bZ (¬ freeP A k p c)))), (hs E (jm N)))) hk.1 ?_ ?_
  · rw [bZ_f (show ¬ ∃ e, 0 ≤ e ∧ e < 0 ∧ A k e ∧ p e = c from exZ_0)] at h0
    exact h0
  · refine v256_4 ⟨by omega, by omega, fun _ => ⟨e0 k, by rw [hend]⟩, fun z => absurd (Int.le_refl _) z⟩
  · intro j j1 j2 ih
    obtain ⟨q1, q2, q3⟩ := hp j j1 j2
    have m1 := bZ_01 (p := A k j)
    have mR : R (bZ (A k j)) := by omega
    have i1 : 0 ≤ 10 * k + j ∧ 10 * k + j < 100 := by omega
    have j10 : 0 ≤ j ∧ j < 10 := by omega
    have pR : R (p j) := by omega
    have kR : R k ∧ R j ∧ ¬ k ≤ j := by omega
    have hx : (∃ e, 0 ≤ e ∧ e < j + 1 ∧ A k e ∧ p e = c) ↔ (∃ e, 0 ≤ e ∧ e < j ∧ A k e ∧ p e = c) ∨ (A k j ∧ p j = c) := exZ_succ (p := fun e => A k e ∧ p e = c) j1
    rw [bZ_congr hx] at ih
    by_cases hy : ∃ e, 0 ≤ e ∧ e < j ∧ A k e ∧ p e = c
    · rw [bZ_t (Or.inl hy)] at ih
      rw [bZ_t hy]
      exact v256_4 ⟨by omega, by omega, fun z => absurd z (by omega), fun _ => ⟨by decide, fun z => absurd z (by decide), fun _ => ih⟩⟩
    · rw [bZ_f hy]
      refine v256_4 ?_
      rw [hm k j hk.1 hk.2 j10.1 j10.2, q1, hkc]
      refine ⟨kR.1, kR.2.1, fun z => absurd z kR.2.2, fun _ => ⟨by decide, fun _ => ⟨i1, mR, fun z => ?_, fun z => ⟨j10, hk, pR, hc, fun w => ?_, fun w => ?_⟩⟩, fun z => absurd rfl z⟩⟩
      · rw [bZ_f (fun v => v.elim hy (fun v => bZ_0.mp z v.1))] at ih
        exact ih
      · rw [bZ_t (Or.inr ⟨bZ_1.mp (m1.resolve_left z), w⟩)] at ih
        exact ih
      · rw [bZ_f (fun v => v.elim hy (fun v => w v.2))] at ih
        exact ih
def sq72 (N N' : NM) : Prop := ∀ q, ¬ q = 72 → N' q = N q
theorem r257 {A : Int → Int → Prop} {m : Nat} {n : Int} {N0 : NM} {rv : Option Value} {Qf : NM → Prop} (hm : (m : Int) ≤ 10) (hn : n ≤ 10) (h15 : N0 59 15 = n) (hmt : mtI A (N0 71)) : ∀ (d : Nat) (k : Int) (p : Int → Int), k + d + 1 = n → 0 ≤ k → ∀ (rr : Nat) (c : Int) (N1 : NM), c + rr = m → 0 ≤ c → sq72 N0 N1 → (∀ e, 0 ≤ e → e < k → N1 72 e = p e ∧ 0 ≤ p e ∧ p e < 10) → N1 72 k = c →
    (∀ q N2, trP (fun c => srP A m d (k + 1) (updZ p k c)) (freeP A k p) rr c = some q → sq72 N0 N2 → (∀ e, 0 ≤ e → e < n → N2 72 e = q e ∧ 0 ≤ q e ∧ q e < 10) → ∃ N', Qf N' ∧ Ev 2 257 9 [some (.ref 59), some (.int (J ((m : Int)))), some (.int (J n))] [] (hs E (jm N2)) (rv, hs E (jm N'))) →
    (∀ N2, trP (fun c => srP A m d (k + 1) (updZ p k c)) (freeP A k p) rr c = none → sq72 N0 N2 → (∀ e, 0 ≤ e → e < k → N2 72 e = p e ∧ 0 ≤ p e ∧ p e < 10) → N2 72 k = m → ∃ N', Qf N' ∧ Ev 2 257 21 [some (.ref 59), some (.int (J ((m : Int)))), some (.int (J k))] [] (hs E (jm N2)) (rv, hs E (jm N'))) →
    ∃ N', Qf N' ∧ Ev 2 257 21 [some (.ref 59), some (.int (J ((m : Int)))), some (.int (J k))] [] (hs E (jm N1)) (rv, hs E (jm N')) := by
  intro d
  induction d with
  | zero =>
    intro k p hkn hk rr
    induction rr with
    | zero => intro c N1 hcr hc0 s1 h1 hkc hS hF; exact hF N1 rfl s1 h1 (by omega)
    | succ rr ihr =>
      intro c N1 hcr hc0 s1 h1 hkc hS hF
      have hmt1 : mtI A (N1 71) := by rw [s1 71 (by decide)]; exact hmt
      have e15 : N1 59 15 = n := by rw [s1 59 (by decide)]; exact h15
      have h256 := sp256 (E := E) (N := N1) (A := A) (k := k) (c := c) (p := p) (by omega) (by omega) hmt1 h1 hkc
      by_cases hf : freeP A k p c
      · rw [bZ_f (fun z => z hf)] at h256
        obtain ⟨N', k1, k2⟩ := hS (updZ p k c) N1 (tr_t (F := fun c => srP A m 0 (k + 1) (updZ p k c)) hf rfl) s1 (fun e e1 e2 => by
          by_cases q : e = k
          · rw [q, updZ_s]
            exact ⟨hkc, hc0, by omega⟩
          · rw [updZ_n q]
            exact h1 e e1 (by omega))
        refine ⟨N', k1, v257_21 ?_⟩
        rw [hkc, e15]
        rw [show n = k + 1 by omega] at k2 ⊢
        exact ⟨by omega, by omega, by omega, fun z => absurd z (by omega), fun _ => ⟨0, h256, by decide, fun _ => ⟨fun z => absurd z (by omega), fun _ => ⟨by omega, by omega, fun _ => k2, fun z => absurd (Int.le_refl _) z⟩⟩, fun z => absurd rfl z⟩⟩
      · rw [bZ_t hf] at h256
        have hT := tr_f (F := fun c => srP A m 0 (k + 1) (updZ p k c)) (fr := freeP A k p) (r := rr) (c := c) (fun z => hf z.1)
        rw [hT] at hS hF
        obtain ⟨N', k1, k2⟩ := ihr (c + 1) (upZ N1 72 (updZ (N1 72) k (c + 1))) (by omega) (by omega) (fun q hq => by rw [upZ_n hq]; exact s1 q hq) (fun e e1 e2 => by
          show updZ (N1 72) k (c + 1) e = _ ∧ _
          rw [updZ_n (by omega)]
          exact h1 e e1 e2) (by show updZ (N1 72) k (c + 1) k = _; rw [updZ_s]) hS hF
        refine ⟨N', k1, v257_21 ?_⟩
        rw [hkc]
        exact ⟨by omega, by omega, by omega, fun z => absurd z (by omega), fun _ => ⟨1, h256, by decide, fun z => absurd z (by decide), fun _ => k2⟩⟩
  | succ d ihd =>
    intro k p hkn hk rr
    induction rr with
    | zero => intro c N1 hcr hc0 s1 h1 hkc hS hF; exact hF N1 rfl s1 h1 (by omega)
    | succ rr ihr =>
      intro c N1 hcr hc0 s1 h1 hkc hS hF
      have hmt1 : mtI A (N1 71) := by rw [s1 71 (by decide)]; exact hmt
      have e15 : N1 59 15 = n := by rw [s1 59 (by decide)]; exact h15
      have h256 := sp256 (E := E) (N := N1) (A := A) (k := k) (c := c) (p := p) (by omega) (by omega) hmt1 h1 hkc
      by_cases hf : freeP A k p c
      · rw [bZ_f (fun z => z hf)] at h256
        have hq9 := ihd (k + 1) (updZ p k c) (by omega) (by omega) m 0 (upZ N1 72 (updZ (N1 72) (k + 1) 0)) (by omega) (Int.le_refl _) (fun q hq => by rw [upZ_n hq]; exact s1 q hq) (fun e e1 e2 => by
          show updZ (N1 72) (k + 1) 0 e = updZ p k c e ∧ 0 ≤ updZ p k c e ∧ updZ p k c e < 10
          rw [updZ_n (by omega)]
          by_cases q : e = k
          · rw [q, updZ_s]
            exact ⟨hkc, hc0, by omega⟩
          · rw [updZ_n q]
            exact h1 e e1 (by omega)) (by show updZ (N1 72) (k + 1) 0 (k + 1) = 0; rw [updZ_s]) ?_ ?_
        · obtain ⟨N', k1, k2⟩ := hq9
          refine ⟨N', k1, v257_21 ?_⟩
          rw [hkc, e15]
          refine ⟨by omega, by omega, by omega, fun z => absurd z (by omega), fun _ => ⟨0, h256, by decide, fun _ => ⟨fun z => absurd z (by omega), fun _ => ⟨by omega, by omega, fun z => absurd z (by omega), fun _ => ⟨by omega, v257_9 ?_⟩⟩⟩, fun z => absurd rfl z⟩⟩
          rw [show (upZ N1 72 (updZ (N1 72) (k + 1) 0)) 59 15 = n from e15]
          exact ⟨by omega, fun z => absurd z (by omega), fun _ => ⟨by omega, fun z => absurd z (by omega), fun _ => k2⟩⟩
        · intro q N2 hq s2 h2
          exact hS q N2 (tr_t (F := fun c => srP A m (d + 1) (k + 1) (updZ p k c)) hf hq) s2 h2
        · intro N2 hq s2 h2 hk2
          have hT := tr_f (F := fun c => srP A m (d + 1) (k + 1) (updZ p k c)) (fr := freeP A k p) (r := rr) (c := c) (fun z => z.2 hq)
          rw [hT] at hS hF
          have e2k : N2 72 k = c := by
            have := (h2 k hk (by omega)).1
            rwa [updZ_s] at this
          have e15' : N2 59 15 = n := by rw [s2 59 (by decide)]; exact h15
          obtain ⟨N', k1, k2⟩ := ihr (c + 1) (upZ N2 72 (updZ (N2 72) k (c + 1))) (by omega) (by omega) (fun q hq => by rw [upZ_n hq]; exact s2 q hq) (fun e e1 e2 => by
            show updZ (N2 72) k (c + 1) e = _ ∧ _
            rw [updZ_n (by omega)]
            have := h2 e e1 (by omega)
            rw [updZ_n (by omega)] at this
            exact this) (by show updZ (N2 72) k (c + 1) k = _; rw [updZ_s]) hS hF
          refine ⟨N', k1, v257_21 ?_⟩
          rw [hk2, show k + 1 + (-1) = k by omega, e2k]
          refine ⟨by omega, by omega, by omega, fun _ => ⟨fun _ => ⟨by omega, fun z => absurd z (by omega), fun _ => ⟨by omega, v257_9 ?_⟩⟩, fun z => absurd (Int.le_refl _) z⟩, fun z => absurd (Int.le_refl _) z⟩
          rw [show (upZ N2 72 (updZ (N2 72) k (c + 1))) 59 15 = n from e15']
          exact ⟨by omega, fun z => absurd z (by omega), fun _ => ⟨by omega, fun z => absurd z (by omega), fun _ => k2⟩⟩
      · rw [bZ_t hf] at h256
        have hT := tr_f (F := fun c => srP A m (d + 1) (k + 1) (updZ p k c)) (fr := freeP A k p) (r := rr) (c := c) (fun z => hf z.1)
        rw [hT] at hS hF
        obtain ⟨N', k1, k2⟩ := ihr (c + 1) (upZ N1 72 (updZ (N1 72) k (c + 1))) (by omega) (by omega) (fun q hq => by rw [upZ_n hq]; exact s1 q hq) (fun e e1 e2 => by
          show updZ (N1 72) k (c + 1) e = _ ∧ _
          rw [updZ_n (by omega)]
          exact h1 e e1 e2) (by show updZ (N1 72) k (c + 1) k = _; rw [updZ_s]) hS hF
        refine ⟨N', k1, v257_21 ?_⟩
        rw [hkc]
        exact ⟨by omega, by omega, by omega, fun z => absurd z (by omega), fun _ => ⟨1, h256, by decide, fun z => absurd z (by decide), fun _ => k2⟩⟩
theorem sp257 {A : Int → Int → Prop} {m n : Nat} (hm : m ≤ 10) (hn : 1 ≤ n ∧ n ≤ 10) (h15 : N 59 15 = (n : Int)) (hmt : mtI A (N 71)) :
    ∃ N', sq72 N N' ∧ (∀ q, srP A m n 0 (fun _ => 0) = some q → Rn 257 [.ref 59, .int (J ((m : Int)))] (hs E (jm N)) (some (.int (J 1))) (hs E (jm N')) ∧ ∀ e, 0 ≤ e → e < (n : Int) → N' 72 e = q e) ∧ (srP A m n 0 (fun _ => 0) = none → Rn 257 [.ref 59, .int (J ((m : Int)))] (hs E (jm N)) (some (.int (J 0))) (hs E (jm N'))) := by
  obtain ⟨d, rfl⟩ : ∃ d, n = d + 1 := ⟨n - 1, by omega⟩
  have h15' : ∀ f, (upZ N 72 f) 59 15 = ((d + 1 : Nat) : Int) := fun _ => h15
  have s0 : sq72 N (upZ N 72 (updZ (N 72) 0 0)) := fun q hq => upZ_n hq
  cases hT : srP A m (d + 1) 0 (fun _ => 0) with
  | some q =>
    have hq9 := r257 (E := E) (A := A) (m := m) (n := ((d + 1 : Nat) : Int)) (N0 := N) (rv := some (.int (J 1))) (Qf := fun N' => sq72 N N' ∧ ∀ e, 0 ≤ e → e < ((d + 1 : Nat) : Int) → N' 72 e = q e) (by omega) (by omega) h15 hmt d 0 (fun _ => 0) (by omega) (Int.le_refl _) m 0 (upZ N 72 (updZ (N 72) 0 0)) (by omega) (Int.le_refl _) s0 (fun e a b => absurd b (by omega)) (by show updZ (N 72) 0 0 0 = 0; exact updZ_s) ?_ ?_
    · obtain ⟨N', ⟨k1, k2⟩, k3⟩ := hq9
      refine ⟨N', k1, fun q' hq' => ?_, fun z => by cases z⟩
      cases hq'
      refine ⟨c257 (v257_0 (v257_9 ?_)), k2⟩
      rw [h15']
      exact ⟨by decide, fun z => absurd z (by decide), fun _ => ⟨by omega, fun z => absurd z (by omega), fun _ => k3⟩⟩
    · intro q' N2 hq' s2 h2
      have e : some q' = some q := hq'.symm.trans hT
      cases e
      refine ⟨N2, ⟨s2, fun e e1 e2 => (h2 e e1 e2).1⟩, v257_9 ?_⟩
      rw [show N2 59 15 = ((d + 1 : Nat) : Int) by rw [s2 59 (by decide)]; exact h15]
      exact ⟨by omega, fun z => absurd z (by omega), fun _ => ⟨by omega, fun _ => ⟨fun z => absurd z (by omega), fun _ => rfl⟩, fun z => absurd (Int.le_refl _) z⟩⟩
    · intro N2 hq' s2 h2 hk2
      have e : (none : PO) = some q := hq'.symm.trans hT
      cases e
  | none =>
    have hq9 := r257 (E := E) (A := A) (m := m) (n := ((d + 1 : Nat) : Int)) (N0 := N) (rv := some (.int (J 0))) (Qf := fun N' => sq72 N N') (by omega) (by omega) h15 hmt d 0 (fun _ => 0) (by omega) (Int.le_refl _) m 0 (upZ N 72 (updZ (N 72) 0 0)) (by omega) (Int.le_refl _) s0 (fun e a b => absurd b (by omega)) (by show updZ (N 72) 0 0 0 = 0; exact updZ_s) ?_ ?_
    · obtain ⟨N', k1, k3⟩ := hq9
      refine ⟨N', k1, fun q' hq' => (by cases hq'), fun _ => c257 (v257_0 (v257_9 ?_))⟩
      rw [h15']
      exact ⟨by decide, fun z => absurd z (by decide), fun _ => ⟨by omega, fun z => absurd z (by omega), fun _ => k3⟩⟩
    · intro q' N2 hq' s2 h2
      have e : some q' = (none : PO) := hq'.symm.trans hT
      cases e
    · intro N2 hq' s2 h2 hk2
      refine ⟨N2, s2, v257_21 ?_⟩
      rw [hk2]
      refine ⟨by decide, by omega, by omega, fun _ => ⟨fun _ => ⟨by decide, fun _ => v257_9 ⟨by decide, fun _ => ⟨fun _ => rfl, fun z => absurd (by decide) z⟩, fun z => absurd (by decide) z⟩, fun z => absurd (by decide) z⟩, fun z => absurd (Int.le_refl _) z⟩, fun z => absurd (Int.le_refl _) z⟩
def s7172 (N N' : NM) : Prop := ∀ q, ¬ q = 71 → ¬ q = 72 → N' q = N q
theorem s7172_ref {N N' : NM} (h : s7172 N N') (hR : RefOK P N) : RefOK P N' := by
  refine RefOK.mk ?_ ?_ ?_ ?_ ?_ ?_ ?_ ?_ ?_ ?_ ?_ ?_ ?_ ?_ ?_ ?_ ?_ ?_ ?_ ?_ ?_ ?_ ?_ ?_ ?_ ?_ ?_ <;> (rw [h _ (by decide) (by decide)])
  · exact hR.w
  · exact hR.h
  · exact hR.pm
  · exact hR.ws
  · exact hR.wall
  · exact hR.stiff
  · exact hR.bear
  · exact hR.fires
  · exact hR.bc
  · exact hR.bt
  · exact hR.rods
  · exact hR.pg
  · exact hR.px
  · exact hR.py
  · exact hR.mv
  · exact hR.laid
  · exact hR.sold
  · exact hR.heat
  · exact hR.shr
  · exact hR.pul
  · exact hR.foe
  · exact hR.lay
  · exact hR.col
  · exact hR.thk
  · exact hR.sta
  · exact hR.rl
  · exact hR.rm
theorem sp258 (hI : PicOK P) (hR : RefOK P N) (hl : lsI P.toGeo (P.toGeo.w * P.toGeo.h) N) (h69 : ∀ f, isF P.toGeo f → N 69 f = cellZ P.toGeo f) (ht : totC P.toGeo ≤ 10) :
    ∃ N', Rn 258 [.ref 59] (hs E (jm N)) (some (.int (J (fwZ (adj P.toGeo) (nP P.toGeo) : Nat)))) (hs E (jm N')) ∧ (∀ e, 0 ≤ e → e < totC P.toGeo → N' 72 e = colP (adj P.toGeo) (nP P.toGeo) e) ∧ s7172 N N' := by
  have hG := hI.geo
  have hfb := fld_bd hG
  have htb := tot_bd hG
  have hnP : ((nP P.toGeo : Nat) : Int) = totC P.toGeo := Int.toNat_of_nonneg (by omega)
  -- trying
  have last : ∀ (f m : Nat), m + f = 10 → 1 ≤ m → ∀ N2, s7172 N N2 → mtI (adj P.toGeo) (N2 71) → ∃ N', ((∃ q, srP (adj P.toGeo) (fwN (adj P.toGeo) (nP P.toGeo) f m) (nP P.toGeo) 0 (fun _ => 0) = some q ∧ ∀ e, 0 ≤ e → e < totC P.toGeo → N' 72 e = q e) ∧ s7172 N N') ∧ Ev 3 258 131 [some (.ref 59), some (.int (J ((m : Int)))), none, none, none, none] [] (hs E (jm N2)) (some (.int (J (fwN (adj P.toGeo) (nP P.toGeo) f m : Nat))), hs E (jm N')) := by
    intro f
    induction f with
    | zero =>
      intro m hm h1 N2 s2 h2
      have hm' : m = 10 := by omega
      subst hm'
      obtain ⟨h3, q, hq⟩ := fw_sp (A := adj P.toGeo) (n := nP P.toGeo) (by omega) 0 10 rfl
      obtain ⟨N3, t1, t2, t3⟩ := sp257 (E := E) (N := N2) (A := adj P.toGeo) (m := 10) (n := nP P.toGeo) (by decide) (by omega) (by rw [s2 59 (by decide) (by decide), hl.1, hnP]; rfl) h2
      obtain ⟨u1, u2⟩ := t2 q hq
      exact ⟨N3, ⟨⟨q, hq, fun e a b => u2 e a (by omega)⟩, fun x hx hy => (t1 x hy).trans (s2 x hx hy)⟩, v258_131 ⟨1, N3, u1, by decide, fun z => absurd z (by decide), fun _ => rfl⟩⟩
    | succ f ih =>
      intro m hm h1 N2 s2 h2
      obtain ⟨N3, t1, t2, t3⟩ := sp257 (E := E) (N := N2) (A := adj P.toGeo) (m := m) (n := nP P.toGeo) (by omega) (by omega) (by rw [s2 59 (by decide) (by decide), hl.1, hnP]; rfl) h2
      have s3 : s7172 N N3 := fun x hx hy => (t1 x hy).trans (s2 x hx hy)
      cases hq : srP (adj P.toGeo) m (nP P.toGeo) 0 (fun _ => 0) with
      | none =>
        have e : fwN (adj P.toGeo) (nP P.toGeo) (f + 1) m = fwN (adj P.toGeo) (nP P.toGeo) f (m + 1) := by rw [fwN]; exact if_pos hq
        rw [e]
        obtain ⟨N', k1, k2⟩ := ih (m + 1) (by omega) (by omega) N3 s3 (by rw [t1 71 (by decide)]; exact h2)
        refine ⟨N', k1, v258_131 ⟨0, N3, t3 hq, by decide, fun _ => ?_, fun z => absurd rfl z⟩⟩
        rw [show ((m + 1 : Nat) : Int) = (m : Int) + 1 from rfl] at k2
        exact k2
      | some q =>
        have e : fwN (adj P.toGeo) (nP P.toGeo) (f + 1) m = m := by rw [fwN]; exact if_neg (by rw [hq]; exact fun z => by cases z)
        rw [e]
        obtain ⟨u1, u2⟩ := t2 q hq
        exact ⟨N3, ⟨⟨q, hq, fun e a b => u2 e a (by omega)⟩, s3⟩, v258_131 ⟨1, N3, u1, by decide, fun z => absurd z (by decide), fun _ => rfl⟩⟩
  -- who meets whom
  have mid := loopZ (a := 0) (n := P.toGeo.w * P.toGeo.h) (Q := fun f => ∀ N1, s7172 N N1 → mtI (adj2 P.toGeo f 0) (N1 71) → ∃ N', ((∃ q, srP (adj P.toGeo) (fwZ (adj P.toGeo) (nP P.toGeo)) (nP P.toGeo) 0 (fun _ => 0) = some q ∧ ∀ e, 0 ≤ e → e < totC P.toGeo → N' 72 e = q e) ∧ s7172 N N') ∧ Ev 3 258 23 [some (.ref 59), some (.int (J f)), none, none, none, none] [] (hs E (jm N1)) (some (.int (J (fwZ (adj P.toGeo) (nP P.toGeo) : Nat))), hs E (jm N'))) (by omega) ?_ ?_
  · -- nobody yet
    have first := loopZ (a := 0) (n := 100) (Q := fun k => ∀ N1, s7172 N N1 → (∀ j, 0 ≤ j → j < k → N1 71 j = 0) → ∃ N', ((∃ q, srP (adj P.toGeo) (fwZ (adj P.toGeo) (nP P.toGeo)) (nP P.toGeo) 0 (fun _ => 0) = some q ∧ ∀ e, 0 ≤ e → e < totC P.toGeo → N' 72 e = q e) ∧ s7172 N N') ∧ Ev 3 258 2 [some (.ref 59), some (.int (J k)), none, none, none, none] [] (hs E (jm N1)) (some (.int (J (fwZ (adj P.toGeo) (nP P.toGeo) : Nat))), hs E (jm N'))) (by decide) ?_ ?_
    · obtain ⟨N', ⟨⟨q, hq, k1⟩, k2⟩, k3⟩ := first N (fun _ _ _ => rfl) (fun j a b => absurd b (by omega))
      refine ⟨N', c258 (v258_0 k3), fun e a b => ?_, k2⟩
      rw [col_eq hq]
      exact k1 e a b
    · intro N1 s1 h1
      obtain ⟨N', k1, k2⟩ := mid N1 s1 (fun a b a1 a2 b1 b2 => by rw [h1 _ (by omega) (by omega), bZ_f adj2_0])
      exact ⟨N', k1, v258_2 ⟨by decide, fun _ => k2, fun z => absurd (Int.le_refl _) z⟩⟩
    · intro k k1 k2 ih N1 s1 h1
      obtain ⟨N', p1, p2⟩ := ih (upZ N1 71 (updZ (N1 71) k 0)) (fun q q1 q2 => by rw [upZ_n q1]; exact s1 q q1 q2) (fun j j1 j2 => by
        show updZ (N1 71) k 0 j = 0
        by_cases q : j = k
        · rw [q, updZ_s]
        · rw [updZ_n q]
          exact h1 j j1 (by omega))
      exact ⟨N', p1, v258_2 ⟨by omega, fun z => absurd z (by omega), fun _ => ⟨⟨k1, k2⟩, p2⟩⟩⟩
  · intro N1 s1 h1
    obtain ⟨N', k1, k2⟩ := last 9 1 rfl (Nat.le_refl _) N1 s1 (fun a b a1 a2 b1 b2 => (h1 a b a1 a2 b1 b2).trans (bZ_congr (adj2_end hG)))
    refine ⟨N', k1, v258_23 ?_⟩
    rw [rF (s7172_ref s1 hR)]
    exact ⟨by omega, by omega, fun _ => k2, fun z => absurd (Int.le_refl _) z⟩
  · intro f f1 f2 ih N1 s1 h1
    have hF : isF P.toGeo f := ⟨f1, f2⟩
    have sides := loopZ (a := 0) (n := 2) (Q := fun s => ∀ N1, s7172 N N1 → mtI (adj2 P.toGeo f s) (N1 71) → ∃ N', ((∃ q, srP (adj P.toGeo) (fwZ (adj P.toGeo) (nP P.toGeo)) (nP P.toGeo) 0 (fun _ => 0) = some q ∧ ∀ e, 0 ≤ e → e < totC P.toGeo → N' 72 e = q e) ∧ s7172 N N') ∧ Ev 3 258 33 [some (.ref 59), some (.int (J f)), some (.int (J s)), none, none, none] [] (hs E (jm N1)) (some (.int (J (fwZ (adj P.toGeo) (nP P.toGeo) : Nat))), hs E (jm N'))) (by decide) ?_ ?_
    · obtain ⟨N', k1, k2⟩ := sides N1 s1 h1
      refine ⟨N', k1, v258_23 ?_⟩
      rw [rF (s7172_ref s1 hR)]
      exact ⟨by omega, by omega, fun z => absurd z (by omega), fun _ => k2⟩
    · intro N2 s2 g2
      obtain ⟨N', k1, k2⟩ := ih N2 s2 (fun a b a1 a2 b1 b2 => (g2 a b a1 a2 b1 b2).trans (bZ_congr adj2_next.symm))
      exact ⟨N', k1, v258_33 ⟨by decide, fun _ => k2, fun z => absurd (Int.le_refl _) z⟩⟩
    · intro s w1 w2 ih2 N2 s2 g2
      have hR2 := s7172_ref s2 hR
      obtain ⟨d1, d2⟩ := G245_b hI hR2 hF ⟨w1, w2⟩
      have e69 : ∀ x, isF P.toGeo x → N2 69 x = cellZ P.toGeo x := by
        intro x hx
        rw [s2 69 (by decide) (by decide)]
        exact h69 x hx
      have hl2 : lsI P.toGeo (P.toGeo.w * P.toGeo.h) N2 := by
        unfold lsI
        rw [s2 59 (by decide) (by decide), s2 70 (by decide) (by decide)]
        exact hl
      have go : (∀ a b, ¬ adjS P.toGeo f s a b) → ∃ N', ((∃ q, srP (adj P.toGeo) (fwZ (adj P.toGeo) (nP P.toGeo)) (nP P.toGeo) 0 (fun _ => 0) = some q ∧ ∀ e, 0 ≤ e → e < totC P.toGeo → N' 72 e = q e) ∧ s7172 N N') ∧ Ev 3 258 33 [some (.ref 59), some (.int (J f)), some (.int (J (s + 1))), none, none, none] [] (hs E (jm N2)) (some (.int (J (fwZ (adj P.toGeo) (nP P.toGeo) : Nat))), hs E (jm N')) := by
        intro hn
        refine ih2 N2 s2 (fun a b a1 a2 b1 b2 => (g2 a b a1 a2 b1 b2).trans (bZ_congr ?_))
        rw [adj2_s w2]
        exact ⟨Or.inl, fun z => z.elim id (fun z => z.elim (fun z => absurd z (hn a b)) (fun z => absurd z (hn b a)))⟩
      by_cases hbn : besZ P.toGeo f s = -1
      · obtain ⟨N', k1, k2⟩ := go (fun a b z => z.2.2.1 hbn)
        refine ⟨N', k1, v258_33 ?_⟩
        rw [d1]
        exact ⟨by omega, fun z => absurd z (by omega), fun _ => ⟨d2, by omega, fun _ => k2, fun z => absurd hbn z⟩⟩
      · obtain ⟨b1, b2, b3⟩ := bes_spec hG hF (way := s) (by omega) hbn
        have t1 := b1.1
        have t2 := b1.2
        have r1 := cell_R hG hF
        have r2 := cell_R hG b1
        by_cases hce : cellZ P.toGeo f = cellZ P.toGeo (besZ P.toGeo f s)
        · obtain ⟨N', k1, k2⟩ := go (fun a b z => z.2.2.2.1 hce)
          refine ⟨N', k1, v258_33 ?_⟩
          rw [d1, e69 _ b1, e69 _ hF]
          exact ⟨by omega, fun z => absurd z (by omega), fun _ => ⟨d2, by omega, fun z => absurd z hbn, fun _ => ⟨by omega, by omega, by omega, by omega, fun _ => k2, fun z => absurd hce z⟩⟩⟩
        · have p1 := plc_F hG hF
          have p2 := plc_F hG b1
          have c1' : isC P.toGeo (cellZ P.toGeo f) := ⟨(cell_ex hF).1, cell_self hG hF⟩
          have c2' : isC P.toGeo (cellZ P.toGeo (besZ P.toGeo f s)) := ⟨(cell_ex b1).1, cell_self hG b1⟩
          have hS : adjS P.toGeo f s (plc P.toGeo (cellZ P.toGeo f)) (plc P.toGeo (cellZ P.toGeo (besZ P.toGeo f s))) := ⟨hF, by omega, hbn, hce, rfl, rfl⟩
          have hq9 := ih2 (upZ N2 71 (updZ (updZ (N2 71) (10 * plc P.toGeo (cellZ P.toGeo f) + plc P.toGeo (cellZ P.toGeo (besZ P.toGeo f s))) 1) (10 * plc P.toGeo (cellZ P.toGeo (besZ P.toGeo f s)) + plc P.toGeo (cellZ P.toGeo f)) 1)) (fun q q1 q2 => by rw [upZ_n q1]; exact s2 q q1 q2) ?_
          · obtain ⟨N', k1, k2⟩ := hq9
            refine ⟨N', k1, v258_33 ?_⟩
            rw [d1, e69 _ b1, e69 _ hF]
            exact ⟨by omega, fun z => absurd z (by omega), fun _ => ⟨d2, by omega, fun z => absurd z hbn, fun _ => ⟨by omega, by omega, by omega, by omega, fun z => absurd z hce, fun _ => ⟨_, sp254 hI hl2 c1', _, sp254 hI hl2 c2', by omega, by omega, k2⟩⟩⟩⟩
          · intro a b a1 a2 b1' b2'
            show updZ (updZ (N2 71) _ 1) _ 1 (10 * a + b) = _
            by_cases q1 : a = plc P.toGeo (cellZ P.toGeo (besZ P.toGeo f s)) ∧ b = plc P.toGeo (cellZ P.toGeo f)
            · rw [q1.1, q1.2, updZ_s, bZ_t]
              rw [adj2_s w2]
              exact Or.inr (Or.inr hS)
            · rw [updZ_n (by omega)]
              by_cases q2 : a = plc P.toGeo (cellZ P.toGeo f) ∧ b = plc P.toGeo (cellZ P.toGeo (besZ P.toGeo f s))
              · rw [q2.1, q2.2, updZ_s, bZ_t]
                rw [adj2_s w2]
                exact Or.inr (Or.inl hS)
              · rw [updZ_n (by omega), g2 a b a1 a2 b1' b2']
                refine bZ_congr ?_
                rw [adj2_s w2]
                refine ⟨Or.inl, fun z => z.elim id (fun z => ?_)⟩
                rcases z with z | z
                · exact absurd ⟨z.2.2.2.2.1.symm, z.2.2.2.2.2.symm⟩ q2
                · exact absurd ⟨z.2.2.2.2.2.symm, z.2.2.2.2.1.symm⟩ q1
theorem op_paints (hI : GInv P N) : Both E N 175 259 [] := by
  have hK := hI.ok
  have htb := tot_bd hK.geo
  have e3 : G3 N = totC P.toGeo := hI.cls.cells.total
  by_cases ht : totC P.toGeo ≤ 10
  · refine both_q (r := .int (J (fwZ (adj P.toGeo) (nP P.toGeo) : Nat))) hI ?_ ?_
    · obtain ⟨N1, r1, p1, p2, s1⟩ := sp88 (E := E) hK hI.cls ht
      refine ⟨N1, c175 (v175_0 ?_), fun a ha => s1 a (by unfold clsC at ha; rw [decide_eq_true_eq] at ha; omega)⟩
      rw [e3]
      exact ⟨by omega, fun z => absurd z (by omega), fun _ => ⟨_, N1, r1, rfl⟩⟩
    · intro N hR
      obtain ⟨N1, r1, l1, k1, R1, s1⟩ := sp255 (E := E) hK hR
      obtain ⟨N2, r2, p2, s2⟩ := sp258 (E := E) hK R1 l1 k1 ht
      refine ⟨N2, c259 (v259_0 ⟨N1, r1, ?_⟩), s7172_ref s2 R1, fun a ha => (s2 a (by omega) (by omega)).trans (s1 a ha)⟩
      rw [l1.1]
      have : plc P.toGeo (P.toGeo.w * P.toGeo.h) = totC P.toGeo := rfl
      rw [this]
      exact ⟨by omega, fun _ => ⟨_, N2, r2, rfl⟩, fun z => absurd ht z⟩
  · refine both_q (r := .int (J (-103))) hI (QC.same (c175 (v175_0 ?_))) ?_
    · rw [e3]
      exact ⟨by omega, fun _ => rfl, fun z => absurd (by omega) z⟩
    · intro N hR
      obtain ⟨N1, r1, l1, k1, R1, s1⟩ := sp255 (E := E) hK hR
      refine ⟨N1, c259 (v259_0 ⟨N1, r1, ?_⟩), R1, s1⟩
      rw [l1.1]
      have : plc P.toGeo (P.toGeo.w * P.toGeo.h) = totC P.toGeo := rfl
      rw [this]
      exact ⟨by omega, fun z => absurd z ht, fun _ => rfl⟩
theorem op_paint {x1 : Int} (hI : GInv P N) (h1 : R x1) : Both E N 176 260 [.int (J x1)] := by
  have hK := hI.ok
  have htb := tot_bd hK.geo
  have e3 : G3 N = totC P.toGeo := hI.cls.cells.total
  obtain ⟨a1, a2⟩ := cHas hK.geo hI.cls.cells h1
  by_cases hc : isC P.toGeo x1
  · have c1' := hc.1.1
    have c2' := hc.1.2
    have hfb := fld_bd hK.geo
    have hlt := plc_lt c1' hc.2 c2'
    have hpb := plc_bd (G := P.toGeo) c1'
    by_cases ht : totC P.toGeo ≤ 10
    · refine both_q (r := .int (J (colP (adj P.toGeo) (nP P.toGeo) (plc P.toGeo x1)))) hI ?_ ?_
      · obtain ⟨N1, r1, p1, p2, s1⟩ := sp88 (E := E) hK hI.cls ht
        have h89 : Rn 89 [.ref 36, .int (J x1)] (hs E (jm N)) (some (.int (J (colP (adj P.toGeo) (nP P.toGeo) (plc P.toGeo x1))))) (hs E (jm N1)) := by
          refine c89 (v89_0 ⟨_, N1, r1, by omega, ?_⟩)
          rw [p1 x1 hc, p2 _ hpb.1 hlt]
          exact ⟨by unfold totC at ht; omega, rfl⟩
        refine ⟨N1, c176 (v176_0 ?_), fun a ha => s1 a (by unfold clsC at ha; rw [decide_eq_true_eq] at ha; omega)⟩
        rw [a1, bZ_t hc, e3]
        exact ⟨a2, by decide, fun z => absurd z (by decide), fun _ => ⟨by omega, fun z => absurd z (by omega), fun _ => ⟨_, N1, h89, rfl⟩⟩⟩
      · intro N hR
        have h248 := sp248 (E := E) hK hR h1
        rw [bZ_t hc] at h248
        obtain ⟨N1, r1, l1, k1, R1, s1⟩ := sp255 (E := E) hK (rfN_ok (P := P) hR)
        obtain ⟨N2, r2, p2, s2⟩ := sp258 (E := E) hK R1 l1 k1 ht
        have l2 : lsI P.toGeo (P.toGeo.w * P.toGeo.h) N2 := by
          unfold lsI
          rw [s2 59 (by decide) (by decide), s2 70 (by decide) (by decide)]
          exact l1
        refine ⟨N2, c260 (v260_0 ⟨_, _, h248, by decide, fun z => absurd z (by decide), fun _ => ⟨N1, r1, ?_⟩⟩), s7172_ref s2 R1, fun a ha => (s2 a (by omega) (by omega)).trans ((s1 a ha).trans (rfN_cls a ha))⟩
        rw [l1.1]
        have : plc P.toGeo (P.toGeo.w * P.toGeo.h) = totC P.toGeo := rfl
        rw [this]
        refine ⟨by omega, fun _ => ⟨_, N2, r2, _, sp254 hK l2 hc, by unfold totC at ht; omega, ?_⟩, fun z => absurd ht z⟩
        rw [p2 _ hpb.1 hlt]
    · refine both_q (r := .int (J (-103))) hI (QC.same (c176 (v176_0 ?_))) ?_
      · rw [a1, bZ_t hc, e3]
        exact ⟨a2, by decide, fun z => absurd z (by decide), fun _ => ⟨by omega, fun _ => rfl, fun z => absurd (by omega) z⟩⟩
      · intro N hR
        have h248 := sp248 (E := E) hK hR h1
        rw [bZ_t hc] at h248
        obtain ⟨N1, r1, l1, k1, R1, s1⟩ := sp255 (E := E) hK (rfN_ok (P := P) hR)
        refine ⟨N1, c260 (v260_0 ⟨_, _, h248, by decide, fun z => absurd z (by decide), fun _ => ⟨N1, r1, ?_⟩⟩), R1, fun a ha => (s1 a ha).trans (rfN_cls a ha)⟩
        rw [l1.1]
        have : plc P.toGeo (P.toGeo.w * P.toGeo.h) = totC P.toGeo := rfl
        rw [this]
        exact ⟨by omega, fun z => absurd z ht, fun _ => rfl⟩
  · refine both_q (r := .int (J (-101))) hI (QC.same (c176 (v176_0 ?_))) ?_
    · rw [a1, bZ_f hc]
      exact ⟨a2, by decide, fun _ => rfl, fun z => absurd rfl z⟩
    · intro N hR
      have h248 := sp248 (E := E) hK hR h1
      rw [bZ_f hc] at h248
      exact ⟨_, c260 (v260_0 ⟨_, _, h248, by decide, fun _ => rfl, fun z => absurd rfl z⟩), rfN_ok hR, rfN_cls⟩
end PNR
