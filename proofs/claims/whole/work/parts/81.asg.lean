/-! wires cut from rods: what a way to cut is -/
section ASG
variable {n : Int} {ln : Int → Int}
noncomputable def smP (n : Int) (ln : Int → Int) (T : Int → Prop) : Int := sumZ n (fun w => bZ (T w) * ln w)
theorem sm_congr {S T : Int → Prop} (h : ∀ w, 0 ≤ w → w < n → (S w ↔ T w)) : smP n ln S = smP n ln T := sumZ_congr fun w a b => by rw [bZ_congr (h w a b)]
def asP (n : Int) (ln : Int → Int) : List Int → (Int → Prop) → Int → Prop
  | [], S, v => (∀ w, 0 ≤ w → w < n → ¬ S w) ∧ v = 0
  | r :: rs, S, v => asP n ln rs S v ∨ ∃ T : Int → Prop, (∃ w, 0 ≤ w ∧ w < n ∧ T w) ∧ (∀ w, 0 ≤ w → w < n → T w → S w) ∧ smP n ln T ≤ r ∧ asP n ln rs (fun w => S w ∧ ¬ T w) (v - 1000 - r)
theorem as_congr : ∀ {rs : List Int} {S S' : Int → Prop} {v : Int}, (∀ w, 0 ≤ w → w < n → (S w ↔ S' w)) → asP n ln rs S v → asP n ln rs S' v := by
  intro rs
  induction rs with
  | nil =>
    intro S S' v h ha
    exact ⟨fun w a b z => ha.1 w a b ((h w a b).mpr z), ha.2⟩
  | cons r rs ih =>
    intro S S' v h ha
    rcases ha with ha | ⟨T, t1, t2, t3, t4⟩
    · exact Or.inl (ih h ha)
    · refine Or.inr ⟨T, t1, fun w a b z => (h w a b).mp (t2 w a b z), t3, ih (fun w a b => ?_) t4⟩
      rw [h w a b]
theorem as_left {rs : List Int} {S : Int → Prop} {v r : Int} (h : asP n ln rs S v) : asP n ln (r :: rs) S v := Or.inl h
theorem as_rep {l : Int} {rs : List Int} {S : Int → Prop} {v : Int} : ∀ (d c : Nat), asP n ln (List.replicate c l ++ rs) S v → asP n ln (List.replicate (c + d) l ++ rs) S v := by
  intro d
  induction d with
  | zero => intro c h; exact h
  | succ d ih =>
    intro c h
    have := ih c h
    rw [show c + (d + 1) = (c + d) + 1 from rfl, List.replicate_succ]
    exact as_left this
/-- the table of costs says the least of each set -/
def dpI (n : Int) (ln : Int → Int) (rs : List Int) (C : Int → Int) : Prop := ∀ s, 0 ≤ s → s < 2 ^ n.toNat → (0 ≤ C s ∧ C s ≤ 1000000) ∧ (C s < 1000000 → asP n ln rs (mk s) (C s)) ∧ ∀ v, asP n ln rs (mk s) v → C s ≤ v
/-- a part that a rod is long enough for -/
def okp (n : Int) (ln : Int → Int) (l s p : Int) : Prop := 0 < p ∧ p ≤ s ∧ sub s p ∧ smP n ln (mk p) ≤ l
/-- the new cost of a set -/
def stR (n : Int) (ln : Int → Int) (l : Int) (C : Int → Int) (s c : Int) : Prop := c ≤ C s ∧ (c = C s ∨ ∃ p, okp n ln l s p ∧ c = C (zxor s p) + 1000 + l) ∧ ∀ p, okp n ln l s p → c ≤ C (zxor s p) + 1000 + l
theorem p2_256 {n : Int} (hn : 0 ≤ n ∧ n ≤ 8) : 1 ≤ (2 : Int) ^ n.toNat ∧ (2 : Int) ^ n.toNat ≤ 256 := by
  obtain ⟨a, rfl⟩ := fin_of (n := 9) (x := n) (by omega)
  have : ∀ x : Fin 9, 1 ≤ (2 : Int) ^ ((x.val : Int)).toNat ∧ (2 : Int) ^ ((x.val : Int)).toNat ≤ 256 := by decide
  exact this a
theorem mk_out {n s w : Int} (hn : 0 ≤ n ∧ n ≤ 8) (hs : 0 ≤ s ∧ s < 2 ^ n.toNat) (hw : n ≤ w ∧ w < 8) : ¬ mk s w := by
  intro z
  have := (dbl (j := n) (s := s) (w := w) (by omega) hs (by omega)).2 hw.1
  unfold mk at z
  omega
/-- of a part of wires, its number -/
theorem part_no {n s : Int} {T : Int → Prop} (hn : 0 ≤ n ∧ n ≤ 8) (hs : 0 ≤ s ∧ s < 2 ^ n.toNat) (hT : ∃ w, 0 ≤ w ∧ w < n ∧ T w) (hsub : ∀ w, 0 ≤ w → w < n → T w → mk s w) : ∃ p, (0 < p ∧ p ≤ s) ∧ sub s p ∧ ∀ w, 0 ≤ w → w < n → (mk p w ↔ T w) := by
  have h2 := p2_256 hn
  obtain ⟨p, h1, h3, h4⟩ := mask_ex (T := T) hn
  have hp0 : ¬ p = 0 := by
    intro z
    obtain ⟨w, w1, w2, w3⟩ := hT
    have := (h3 w w1 w2).mpr w3
    unfold mk at this
    rw [z, bit00] at this
    exact absurd this (by decide)
  have hsb : sub s p := sub_of hs.1 ⟨h1.1, by omega⟩ (fun w w1 w2 hm => by
    by_cases q : w < n
    · exact hsub w w1 q ((h3 w w1 q).mp hm)
    · exact absurd hm (h4 w (by omega) w2))
  refine ⟨p, ⟨by omega, ?_⟩, hsb, h3⟩
  have : p.toNat ≤ s.toNat := by
    unfold sub at hsb
    rw [← hsb]
    exact Nat.and_le_right
  omega
theorem dp_step {l : Int} {rs : List Int} {C C' : Int → Int} (hn : 0 ≤ n ∧ n ≤ 8) (hl : 0 ≤ l) (h : dpI n ln rs C) (h0 : C' 0 = C 0) (hst : ∀ s, 0 < s → s < 2 ^ n.toNat → stR n ln l C s (C' s)) : dpI n ln (l :: rs) C' := by
  have h2 := p2_256 hn
  intro s s1 s2
  by_cases hs0 : s = 0
  · subst hs0
    rw [h0]
    obtain ⟨a1, a2, a3⟩ := h 0 s1 s2
    refine ⟨a1, fun z => as_left (a2 z), fun v hv => ?_⟩
    rcases hv with hv | ⟨T, ⟨w, w1, w2, w3⟩, t2, t3, t4⟩
    · exact a3 v hv
    · have := t2 w w1 w2 w3
      unfold mk at this
      rw [bit00] at this
      exact absurd this (by decide)
  · obtain ⟨b1, b2, b3⟩ := hst s (by omega) s2
    obtain ⟨a1, a2, a3⟩ := h s s1 s2
    have hxs : ∀ p, okp n ln l s p → (0 ≤ zxor s p ∧ zxor s p < s) ∧ ∀ w, 0 ≤ w → (mk (zxor s p) w ↔ mk s w ∧ ¬ mk p w) := fun p hp => set_less (by omega) ⟨hp.1, by have := hp.2.1; omega⟩ hp.2.2.1
    refine ⟨⟨?_, by omega⟩, fun z => ?_, fun v hv => ?_⟩
    · rcases b2 with e | ⟨p, hp, e⟩
      · omega
      · have := (h (zxor s p) (hxs p hp).1.1 (by have := (hxs p hp).1.2; omega)).1
        omega
    · rcases b2 with e | ⟨p, hp, e⟩
      · rw [e] at z ⊢
        exact as_left (a2 z)
      · obtain ⟨x1, x2⟩ := hxs p hp
        obtain ⟨c1, c2, c3⟩ := h (zxor s p) x1.1 (by omega)
        refine Or.inr ⟨mk p, ?_, fun w w1 w2 hm => sub_mk hp.2.2.1 s1 (by have := hp.1; omega) w1 hm, hp.2.2.2, ?_⟩
        · -- a part that isn't empty has a wire
          apply Classical.byContradiction
          intro hne
          have hz : sub 0 p := sub_of (Int.le_refl _) ⟨by have := hp.1; omega, by have := hp.2.1; omega⟩ (fun w w1 w2 hm => by
            by_cases q : w < n
            · exact absurd ⟨w, w1, q, hm⟩ hne
            · exact absurd (sub_mk hp.2.2.1 s1 (by have := hp.1; omega) w1 hm) (mk_out hn ⟨s1, s2⟩ ⟨by omega, w2⟩))
          unfold sub at hz
          rw [show (0 : Int).toNat = 0 from rfl, Nat.and_zero] at hz
          have := hp.1
          omega
        · rw [e, show C (zxor s p) + 1000 + l - 1000 - l = C (zxor s p) by omega]
          exact as_congr (fun w w1 _ => x2 w w1) (c2 (by omega))
    · rcases hv with hv | ⟨T, t1, t2, t3, t4⟩
      · have := a3 v hv
        omega
      · obtain ⟨p, p1, p2, p3⟩ := part_no hn ⟨s1, s2⟩ t1 t2
        have hp : okp n ln l s p := ⟨p1.1, p1.2, p2, by rw [sm_congr p3]; exact t3⟩
        obtain ⟨x1, x2⟩ := hxs p hp
        have := (h (zxor s p) x1.1 (by omega)).2.2 (v - 1000 - l) (as_congr (fun w w1 w2 => by rw [x2 w w1, p3 w w1 w2]) t4)
        have := b3 p hp
        omega
/-- where a rod brought nothing, more of its kind bring nothing -/
theorem dp_more {l : Int} {rs : List Int} {C : Int → Int} (hn : 0 ≤ n ∧ n ≤ 8) (h : dpI n ln rs C) (hcl : ∀ s, 0 < s → s < 2 ^ n.toNat → ∀ p, okp n ln l s p → C s ≤ C (zxor s p) + 1000 + l) : ∀ d : Nat, dpI n ln (List.replicate d l ++ rs) C := by
  have h2 := p2_256 hn
  intro d
  induction d with
  | zero => exact h
  | succ d ih =>
    intro s s1 s2
    obtain ⟨a1, a2, a3⟩ := ih s s1 s2
    rw [List.replicate_succ]
    refine ⟨a1, fun z => as_left (a2 z), fun v hv => ?_⟩
    rcases hv with hv | ⟨T, t1, t2, t3, t4⟩
    · exact a3 v hv
    · obtain ⟨p, p1, p2, p3⟩ := part_no hn ⟨s1, s2⟩ t1 t2
      have hp : okp n ln l s p := ⟨p1.1, p1.2, p2, by rw [sm_congr p3]; exact t3⟩
      obtain ⟨x1, x2⟩ := set_less (s := s) (p := p) (by omega) (by omega) p2
      have := (ih (zxor s p) x1.1 (by omega)).2.2 (v - 1000 - l) (as_congr (fun w w1 w2 => by rw [x2 w w1, p3 w w1 w2]) t4)
      have := hcl s (by omega) s2 p hp
      omega
/-- all rods, kind by kind, eight of a kind at most -/
def rlN (rl rm : Int → Int) : Nat → List Int
  | 0 => []
  | k + 1 => List.replicate (min (rm (k : Int)) 8).toNat (rl (k : Int)) ++ rlN rl rm k
/-- groups of wires, each with a kind of rod -/
def fsb (G K : Int) (sg rl : Int → Int) (U : Int → Prop) (left f : Int → Int) : Prop := (∀ i, 0 ≤ i → i < G → U i → (0 ≤ f i ∧ f i < K) ∧ sg i ≤ rl (f i)) ∧ ∀ k, 0 ≤ k → k < K → sumZ G (fun i => bZ (U i ∧ f i = k)) ≤ left k
noncomputable def totF (G : Int) (rl : Int → Int) (U : Int → Prop) (f : Int → Int) : Int := sumZ G (fun i => bZ (U i) * rl (f i))
noncomputable def sgP (n : Int) (ln p : Int → Int) (i : Int) : Int := smP n ln (fun w => p w = i)
theorem fsb_as {G K : Int} {p f rl rm : Int → Int} (hG : 0 ≤ G ∧ G ≤ 8) (hK : 0 ≤ K) (hp : ∀ w, 0 ≤ w → w < n → 0 ≤ p w ∧ p w < G) (hu : ∀ i, 0 ≤ i → i < G → ∃ w, 0 ≤ w ∧ w < n ∧ p w = i) (h : fsb G K (sgP n ln p) rl (fun _ => True) rm f) :
    asP n ln (rlN rl rm K.toNat) (fun _ => True) (1000 * G + totF G rl (fun _ => True) f) := by
  have main : ∀ k : Nat, (k : Int) ≤ K → asP n ln (rlN rl rm k) (fun w => f (p w) < (k : Int)) (sumZ G (fun i => bZ (f i < (k : Int)) * (1000 + rl (f i)))) := by
    intro k
    induction k with
    | zero =>
      intro _
      refine ⟨fun w w1 w2 z => ?_, sumZ_zero fun i i1 i2 => ?_⟩
      · have := (h.1 _ (hp w w1 w2).1 (hp w w1 w2).2 trivial).1.1
        omega
      · have := (h.1 i i1 i2 trivial).1.1
        rw [bZ_f (by omega), Int.zero_mul]
    | succ k ih =>
      intro hk
      have base := ih (by omega)
      -- group after group of this kind
      have inner : ∀ g, 0 ≤ g → g ≤ G → asP n ln (List.replicate (sumZ g (fun i => bZ (f i = (k : Int)))).toNat (rl (k : Int)) ++ rlN rl rm k) (fun w => f (p w) < (k : Int) ∨ (f (p w) = (k : Int) ∧ p w < g)) (sumZ G (fun i => bZ (f i < (k : Int)) * (1000 + rl (f i))) + sumZ g (fun i => bZ (f i = (k : Int)) * (1000 + rl (f i)))) := by
        intro g g1
        refine indZ (P := fun g => g ≤ G → asP n ln (List.replicate (sumZ g (fun i => bZ (f i = (k : Int)))).toNat (rl (k : Int)) ++ rlN rl rm k) (fun w => f (p w) < (k : Int) ∨ (f (p w) = (k : Int) ∧ p w < g)) (sumZ G (fun i => bZ (f i < (k : Int)) * (1000 + rl (f i))) + sumZ g (fun i => bZ (f i = (k : Int)) * (1000 + rl (f i))))) ?_ ?_ g g1
        · intro _
          rw [sumZ_0, sumZ_0, Int.add_zero]
          refine as_congr (fun w w1 w2 => ?_) base
          have := (hp w w1 w2).1
          exact ⟨Or.inl, fun z => z.elim id (fun z => by omega)⟩
        · intro j j1 ihj hj
          have hc := ihj (by omega)
          have hcb := sumZ_bd' (g := fun i => bZ (f i = (k : Int))) (n := j) (B := 8) (c := 1) (fun _ _ _ => bZ_bd) j1 (by omega) (by decide)
          rw [sumZ_succ j1, sumZ_succ j1]
          by_cases q : f j = (k : Int)
          · rw [bZ_t q, Int.one_mul, show (sumZ j (fun i => bZ (f i = (k : Int))) + 1).toNat = (sumZ j (fun i => bZ (f i = (k : Int)))).toNat + 1 by omega, List.replicate_succ]
            obtain ⟨w0, u1, u2, u3⟩ := hu j j1 (by omega)
            refine Or.inr ⟨fun w => p w = j, ⟨w0, u1, u2, u3⟩, fun w w1 w2 z => Or.inr ⟨by rw [z]; exact q, by rw [z]; omega⟩, ?_, ?_⟩
            · have := (h.1 j j1 (by omega) trivial).2
              rw [q] at this
              exact this
            · rw [q, show ∀ a b c : Int, a + (b + (1000 + c)) - 1000 - c = a + b from fun a b c => by omega]
              refine as_congr (fun w w1 w2 => ?_) hc
              constructor
              · rintro (z | z)
                · exact ⟨Or.inl z, fun e => by rw [e, q] at z; omega⟩
                · exact ⟨Or.inr ⟨z.1, by omega⟩, fun e => by omega⟩
              · rintro ⟨z | z, e⟩
                · exact Or.inl z
                · exact Or.inr ⟨z.1, by omega⟩
          · rw [bZ_f q, Int.zero_mul, Int.add_zero, Int.add_zero]
            refine as_congr (fun w w1 w2 => ?_) hc
            constructor
            · rintro (z | z)
              · exact Or.inl z
              · exact Or.inr ⟨z.1, by omega⟩
            · rintro (z | z)
              · exact Or.inl z
              · refine Or.inr ⟨z.1, ?_⟩
                by_cases e : p w = j
                · rw [e] at z
                  exact absurd z.1 q
                · omega
      have hall := inner G hG.1 (Int.le_refl _)
      have hcap := h.2 (k : Int) (by omega) (by omega)
      rw [sumZ_congr (g := fun i => bZ (f i = (k : Int))) (fun i _ _ => bZ_congr ⟨fun z => z.2, fun z => ⟨trivial, z⟩⟩)] at hcap
      have hcb := sumZ_bd' (g := fun i => bZ (f i = (k : Int))) (n := G) (B := 8) (c := 1) (fun _ _ _ => bZ_bd) hG.1 hG.2 (by decide)
      have hw := as_rep ((min (rm (k : Int)) 8).toNat - (sumZ G (fun i => bZ (f i = (k : Int)))).toNat) _ hall
      rw [show (sumZ G (fun i => bZ (f i = (k : Int)))).toNat + ((min (rm (k : Int)) 8).toNat - (sumZ G (fun i => bZ (f i = (k : Int)))).toNat) = (min (rm (k : Int)) 8).toNat by omega] at hw
      rw [rlN]
      have ev : sumZ G (fun i => bZ (f i < (k : Int)) * (1000 + rl (f i))) + sumZ G (fun i => bZ (f i = (k : Int)) * (1000 + rl (f i))) = sumZ G (fun i => bZ (f i < ((k + 1 : Nat) : Int)) * (1000 + rl (f i))) := by
        rw [← sumZ_add]
        refine sumZ_congr fun i _ _ => ?_
        rw [← Int.add_mul]
        congr 1
        by_cases a : f i < (k : Int)
        · rw [bZ_t a, bZ_f (by omega), bZ_t (by omega)]
          rfl
        · by_cases b : f i = (k : Int)
          · rw [bZ_f a, bZ_t b, bZ_t (by omega)]
            rfl
          · rw [bZ_f a, bZ_f b, bZ_f (by omega)]
            rfl
      rw [ev] at hw
      refine as_congr (fun w w1 w2 => ?_) hw
      have := (hp w w1 w2).2
      omega
  have hm := main K.toNat (by omega)
  rw [Int.toNat_of_nonneg hK] at hm
  have ev : sumZ G (fun i => bZ (f i < K) * (1000 + rl (f i))) = 1000 * G + totF G rl (fun _ => True) f := by
    unfold totF
    have h1 : sumZ G (fun _ => (1 : Int)) = G := indZ (P := fun n => sumZ n (fun _ => (1 : Int)) = n) rfl (fun n n1 ih => by rw [sumZ_succ n1, ih]) G hG.1
    rw [show 1000 * G = 1000 * sumZ G (fun _ => (1 : Int)) by rw [h1], ← sumZ_mul, ← sumZ_add]
    refine sumZ_congr fun i i1 i2 => ?_
    rw [bZ_t (h.1 i i1 i2 trivial).1.2, bZ_t trivial]
    omega
  rw [ev] at hm
  exact as_congr (fun w w1 w2 => ⟨fun _ => trivial, fun _ => (h.1 _ (hp w w1 w2).1 (hp w w1 w2).2 trivial).1.2⟩) hm
end ASG
