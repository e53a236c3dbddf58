/-! what a firing does to the layers -/
section FI1
variable {E : gw_N} {N : NM} {P : Pic}
/-- a layer's state and thickness behind a firing, and whether it ripens -/
def ripZ (B : Pal) (t c s : Int) : Prop := s = 0 ∧ B.heat c ≤ t
noncomputable def newT (B : Pal) (t c s th : Int) : Int := if s = 0 ∧ B.heat c ≤ t then th - th * B.shr c / 10 else th
noncomputable def rawS (B : Pal) (t c s : Int) : Int := if s = 0 ∧ B.heat c ≤ t then 1 else s
noncomputable def newS (B : Pal) (t c s : Int) : Int := if rawS B t c s = 1 ∧ B.heat c + 50 < t then 2 else rawS B t c s
def fdone (A : Gla) (f k i : Int) : Prop := 0 ≤ i ∧ (i / 12 < f ∨ (i / 12 = f ∧ i % 12 < k)) ∧ i % 12 < A.lay (i / 12)
noncomputable def firT (B : Pal) (A : Gla) (t f k : Int) : Int → Int := fun i => @ite Int (fdone A f k i) (Classical.propDecidable _) (newT B t (A.col i) (A.sta i) (A.thk i)) (A.thk i)
noncomputable def firS (B : Pal) (A : Gla) (t f k : Int) : Int → Int := fun i => @ite Int (fdone A f k i) (Classical.propDecidable _) (newS B t (A.col i) (A.sta i)) (A.sta i)
noncomputable def firC (B : Pal) (A : Gla) (t f k : Int) : Int := sumZ f (fun g => sumZ (A.lay g) (fun j => bZ (ripZ B t (A.col (12 * g + j)) (A.sta (12 * g + j))))) + sumZ k (fun j => bZ (ripZ B t (A.col (12 * f + j)) (A.sta (12 * f + j))))
variable {A : Gla} {B : Pal}
theorem fdone_at {f k : Int} (hk : 0 ≤ k ∧ k < 12) : ¬ fdone A f k (12 * f + k) := by
  intro h
  have := h.2.1
  omega
theorem fdone_succ {f k i : Int} (hf : 0 ≤ f) (hk : 0 ≤ k ∧ k < A.lay f) (hl : A.lay f ≤ 12) : fdone A f (k + 1) i ↔ fdone A f k i ∨ i = 12 * f + k := by
  unfold fdone
  constructor
  · rintro ⟨h1, h2, h3⟩
    by_cases e : i = 12 * f + k
    · exact Or.inr e
    · exact Or.inl ⟨h1, by omega, h3⟩
  · rintro (⟨h1, h2, h3⟩ | h)
    · exact ⟨h1, by omega, h3⟩
    · have e1 : i / 12 = f := by omega
      have e2 : i % 12 = k := by omega
      rw [e1, e2]
      exact ⟨by omega, Or.inr ⟨rfl, by omega⟩, hk.2⟩
theorem fdone_next {f i : Int} (hl : A.lay f ≤ 12) : fdone A f (A.lay f) i ↔ fdone A (f + 1) 0 i := by
  unfold fdone
  constructor
  · rintro ⟨h1, h2, h3⟩
    exact ⟨h1, by omega, h3⟩
  · rintro ⟨h1, h2, h3⟩
    refine ⟨h1, ?_, h3⟩
    by_cases e : i / 12 = f
    · rw [e] at h3
      exact Or.inr ⟨e, h3⟩
    · exact Or.inl (by omega)
theorem firT_at {t f k : Int} (hk : 0 ≤ k ∧ k < 12) : firT B A t f k (12 * f + k) = A.thk (12 * f + k) := if_neg (fdone_at hk)
theorem firS_at {t f k : Int} (hk : 0 ≤ k ∧ k < 12) : firS B A t f k (12 * f + k) = A.sta (12 * f + k) := if_neg (fdone_at hk)
theorem firT_add {t f k : Int} (hf : 0 ≤ f) (hk : 0 ≤ k ∧ k < A.lay f) (hl : A.lay f ≤ 12) : updZ (firT B A t f k) (12 * f + k) (newT B t (A.col (12 * f + k)) (A.sta (12 * f + k)) (A.thk (12 * f + k))) = firT B A t f (k + 1) := by
  funext i
  unfold updZ firT
  by_cases e : i = 12 * f + k
  · rw [if_pos e, if_pos ((fdone_succ hf hk hl).mpr (Or.inr e)), e]
  · rw [if_neg e]
    by_cases q : fdone A f k i
    · rw [if_pos q, if_pos ((fdone_succ hf hk hl).mpr (Or.inl q))]
    · rw [if_neg q, if_neg (fun z => ((fdone_succ hf hk hl).mp z).elim q e)]
theorem firS_add {t f k : Int} (hf : 0 ≤ f) (hk : 0 ≤ k ∧ k < A.lay f) (hl : A.lay f ≤ 12) : updZ (firS B A t f k) (12 * f + k) (newS B t (A.col (12 * f + k)) (A.sta (12 * f + k))) = firS B A t f (k + 1) := by
  funext i
  unfold updZ firS
  by_cases e : i = 12 * f + k
  · rw [if_pos e, if_pos ((fdone_succ hf hk hl).mpr (Or.inr e)), e]
  · rw [if_neg e]
    by_cases q : fdone A f k i
    · rw [if_pos q, if_pos ((fdone_succ hf hk hl).mpr (Or.inl q))]
    · rw [if_neg q, if_neg (fun z => ((fdone_succ hf hk hl).mp z).elim q e)]
theorem firT_next {t f : Int} (hl : A.lay f ≤ 12) : firT B A t f (A.lay f) = firT B A t (f + 1) 0 := by
  funext i
  unfold firT
  by_cases q : fdone A f (A.lay f) i
  · rw [if_pos q, if_pos ((fdone_next hl).mp q)]
  · rw [if_neg q, if_neg (fun z => q ((fdone_next hl).mpr z))]
theorem firS_next {t f : Int} (hl : A.lay f ≤ 12) : firS B A t f (A.lay f) = firS B A t (f + 1) 0 := by
  funext i
  unfold firS
  by_cases q : fdone A f (A.lay f) i
  · rw [if_pos q, if_pos ((fdone_next hl).mp q)]
  · rw [if_neg q, if_neg (fun z => q ((fdone_next hl).mpr z))]
theorem fir_0 {t : Int} : firT B A t 0 0 = A.thk ∧ firS B A t 0 0 = A.sta := by
  refine ⟨funext fun i => if_neg ?_, funext fun i => if_neg ?_⟩ <;> (intro h; have h1 := h.1; have h2 := h.2.1; omega)
theorem firC_next {t f : Int} (hf : 0 ≤ f) : firC B A t f (A.lay f) = firC B A t (f + 1) 0 := by
  unfold firC
  rw [sumZ_succ hf, sumZ_0, Int.add_zero]
noncomputable def firG (B : Pal) (A : Gla) (t f k : Int) : Gla := Gla.mk A.fires A.lay A.col (firT B A t f k) (firS B A t f k)
theorem newT_bd {t c s th : Int} (hs : 0 ≤ B.shr c ∧ B.shr c ≤ 9) (ht : 0 ≤ th ∧ th ≤ 99) : 0 ≤ newT B t c s th ∧ newT B t c s th ≤ 99 ∧ (1 ≤ th → 1 ≤ newT B t c s th) := by
  have hm := mul_bd ht hs
  have hm2 : th * B.shr c ≤ th * 9 := Int.mul_le_mul_of_nonneg_left hs.2 ht.1
  unfold newT
  split <;> omega
theorem newS_bd {t c s : Int} (hs : 0 ≤ s ∧ s ≤ 2) : 0 ≤ newS B t c s ∧ newS B t c s ≤ 2 := by
  unfold newS rawS
  split <;> split <;> omega
theorem firG_R {t f k : Int} (hA : GlaR A) (hB : PalR B) : GlaR (firG B A t f k) := by
  refine GlaR.mk hA.lay hA.col ?_ ?_ ?_
  · intro i i1 i2
    have h1 := hA.col i i1 i2
    have h := newT_bd (B := B) (t := t) (s := A.sta i) (hB.shr _ h1.1 h1.2) (hA.thk i i1 i2)
    have h2 := hA.thk i i1 i2
    show 0 ≤ firT B A t f k i ∧ firT B A t f k i ≤ 99
    unfold firT
    split <;> omega
  · intro i i1 i2
    have h := newS_bd (B := B) (t := t) (c := A.col i) (hA.sta i i1 i2)
    have h2 := hA.sta i i1 i2
    show 0 ≤ firS B A t f k i ∧ firS B A t f k i ≤ 2
    unfold firS
    split <;> omega
  · intro g j g1 g2 j1 j2
    replace j2 : j < A.lay g := j2
    have hl := hA.lay g g1 g2
    have h0 := hA.thk1 g j g1 g2 j1 j2
    have h1 := hA.col (12 * g + j) (by omega) (by omega)
    have h := newT_bd (B := B) (t := t) (s := A.sta (12 * g + j)) (hB.shr _ h1.1 h1.2) (hA.thk (12 * g + j) (by omega) (by omega))
    show 1 ≤ firT B A t f k (12 * g + j)
    unfold firT
    split <;> omega
/-- thickness and state laid over a memory -/
def fN (a b : Nat) (N : NM) (T S : Int → Int) : NM := upZ (upZ N b S) a T
theorem sp20 {T S : Int → Int} {i t : Int} (hB : PalR B) (hp : PalOK B N) (hi : 0 ≤ i ∧ i < 768) (hc : 0 ≤ N 46 i ∧ N 46 i < 8) (hsS : 0 ≤ S i ∧ S i ≤ 2) (ht : R t) (hT : 0 ≤ T i ∧ T i ≤ 99) :
    Rn 20 [.ref 44, .int (J i), .int (J t)] (hs E (jm (fN 47 48 N T S))) (some (.int (J (bZ (ripZ B t (N 46 i) (S i)))))) (hs E (jm (fN 47 48 N (updZ T i (newT B t (N 46 i) (S i) (T i))) (updZ S i (rawS B t (N 46 i) (S i)))))) := by
  have hh := hB.heat _ hc.1 hc.2
  have hsh := hB.shr _ hc.1 hc.2
  have hm := mul_bd hT hsh
  have e99 : G99 (fN 47 48 N T S) (N 46 i) = B.heat (N 46 i) := by
    show N 41 (3 * N 46 i + 0) = _
    rw [Int.add_zero]
    exact hp.heat _ hc.1 hc.2
  have e102 : ∀ S', G102 (upZ (fN 47 48 N T S) 48 S') (N 46 i) (T i) = T i - T i * B.shr (N 46 i) / 10 := by
    intro S'
    show T i - Int.tdiv (T i * N 41 (3 * N 46 i + 1)) 10 = _
    rw [hp.shr _ hc.1 hc.2, Int.tdiv_eq_ediv_of_nonneg hm.1]
  have q102 : ∀ S', Q102 (upZ (fN 47 48 N T S) 48 S') (N 46 i) (T i) := by
    intro S'
    show (0 ≤ 3 * N 46 i + 1 ∧ 3 * N 46 i + 1 < 24) ∧ (R (T i * N 41 (3 * N 46 i + 1))) ∧ True
    rw [hp.shr _ hc.1 hc.2]
    exact ⟨by omega, by omega, trivial⟩
  refine c20 (v20_0 ?_)
  rw [show (fN 47 48 N T S) 48 = S from rfl, show (fN 47 48 N T S) 46 = N 46 from rfl, show (fN 47 48 N T S) 47 = T from rfl, e99, e102]
  refine ⟨hi, by omega, fun q => ⟨⟨by omega, trivial⟩, by omega, ht, fun q2 => ⟨q102 _, ?_⟩, fun q2 => ?_⟩, fun q => ?_⟩
  · unfold newT rawS
    rw [bZ_t (show ripZ B t (N 46 i) (S i) from ⟨q, q2⟩), if_pos ⟨q, q2⟩, if_pos ⟨q, q2⟩]
    rw [show upZ (upZ (fN 47 48 N T S) 48 (updZ S i 1)) 47 (updZ T i (T i - T i * B.shr (N 46 i) / 10)) = fN 47 48 N (updZ T i (T i - T i * B.shr (N 46 i) / 10)) (updZ S i 1) from up2_up2]
  · unfold newT rawS
    rw [bZ_f (show ¬ ripZ B t (N 46 i) (S i) from fun z => q2 z.2), if_neg (fun z => q2 z.2), if_neg (fun z => q2 z.2), updZ_id, updZ_id]
  · unfold newT rawS
    rw [bZ_f (show ¬ ripZ B t (N 46 i) (S i) from fun z => q z.1), if_neg (fun z => q z.1), if_neg (fun z => q z.1), updZ_id, updZ_id]
theorem sp21 {T S : Int → Int} {i t : Int} (hB : PalR B) (hp : PalOK B N) (hi : 0 ≤ i ∧ i < 768) (hc : 0 ≤ N 46 i ∧ N 46 i < 8) (hsS : 0 ≤ S i ∧ S i ≤ 2) (ht : R t) :
    Rn 21 [.ref 44, .int (J i), .int (J t)] (hs E (jm (fN 47 48 N T S))) none (hs E (jm (fN 47 48 N T (updZ S i (if S i = 1 ∧ B.heat (N 46 i) + 50 < t then 2 else S i))))) := by
  have hh := hB.heat _ hc.1 hc.2
  have e100 : G100 (fN 47 48 N T S) (N 46 i) = B.heat (N 46 i) + 50 := by
    show N 41 (3 * N 46 i + 0) + 50 = _
    rw [Int.add_zero, hp.heat _ hc.1 hc.2]
  refine c21 (v21_0 ?_)
  rw [show (fN 47 48 N T S) 48 = S from rfl, show (fN 47 48 N T S) 46 = N 46 from rfl, e100]
  refine ⟨hi, by omega, fun q => ⟨⟨⟨by omega, trivial⟩, trivial⟩, ht, by omega, fun q2 => ?_, fun q2 => ?_⟩, fun q => ?_⟩
  · rw [if_neg (by omega), updZ_id]
  · rw [if_pos (by omega)]
    rw [show upZ (fN 47 48 N T S) 48 (updZ S i 2) = fN 47 48 N T (updZ S i 2) from up2_up1 (by decide)]
  · rw [if_neg (by omega), updZ_id]
end FI1
