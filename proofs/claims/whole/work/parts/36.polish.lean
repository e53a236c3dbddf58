/-! what is taken from an upmost layer; polish -/
section POL
variable {E : gw_N} {N : NM} {P : Pic} {A : Gla}
def tkB (A : Gla) (f m : Int) : Int := min m (A.thk (topZ A f))
def tkF (A : Gla) (f m : Int) : Gla :=
  Gla.mk A.fires (if A.thk (topZ A f) - tkB A f m = 0 then updZ A.lay f (A.lay f - 1) else A.lay) A.col (updZ A.thk (topZ A f) (A.thk (topZ A f) - tkB A f m)) A.sta
def clsG (N : NM) (A : Gla) : NM := upZ (upZ N 47 A.thk) 45 A.lay
def refG (N : NM) (A : Gla) : NM := upZ (upZ N 79 A.thk) 77 A.lay
theorem up2_up2 {N : NM} {a b : Nat} {f0 f1 g0 g1 : Int → Int} : upZ (upZ (upZ (upZ N b f1) a f0) b g1) a g0 = upZ (upZ N b g1) a g0 := by
  funext z
  unfold upZ
  (repeat' split) <;> first | rfl | (exfalso; omega)
theorem up2_up1 {N : NM} {a b : Nat} {f0 f1 g1 : Int → Int} (h : ¬ a = b) : upZ (upZ (upZ N b f1) a f0) b g1 = upZ (upZ N b g1) a f0 := by
  funext z
  unfold upZ
  (repeat' split) <;> first | rfl | (exfalso; omega)
theorem topA (hA : GlaR A) {f : Int} (hf : 0 ≤ f ∧ f < 64) (hl : 0 < A.lay f) : 0 ≤ topZ A f ∧ topZ A f < 768 := by
  have h := hA.lay f hf.1 hf.2
  unfold topZ
  omega
theorem topT (hA : GlaR A) {f : Int} (hf : 0 ≤ f ∧ f < 64) (hl : 0 < A.lay f) : 1 ≤ A.thk (topZ A f) ∧ A.thk (topZ A f) ≤ 99 := by
  have h := topA hA hf hl
  have h1 := hA.thk1 f (A.lay f - 1) hf.1 hf.2 (by omega) (by omega)
  have h2 := hA.thk _ h.1 h.2
  rw [show 12 * f + (A.lay f - 1) = topZ A f by unfold topZ; omega] at h1
  omega
theorem sp24 {f m : Int} (hA : GlaR A) (hf : 0 ≤ f ∧ f < 64) (hl : 0 < A.lay f) (hm : 0 ≤ m) (hmR : R m) :
    Rn 24 [.ref 44, .int (J f), .int (J m)] (hs E (jm (clsG N A))) (some (.int (J (tkB A f m)))) (hs E (jm (clsG N (tkF A f m)))) := by
  have ht := topA hA hf hl
  have hk := topT hA hf hl
  have hly := hA.lay f hf.1 hf.2
  have e15 : G15 (clsG N A) f = topZ A f := if_neg (show ¬ A.lay f ≤ 0 by omega)
  have e312 : G312 (clsG N A) m (A.thk (topZ A f)) = tkB A f m := by unfold G312 tkB; split <;> omega
  have hB : 0 ≤ tkB A f m ∧ tkB A f m ≤ A.thk (topZ A f) := by unfold tkB; omega
  refine c24 (v24_0 ?_)
  rw [e15, show (clsG N A) 47 = A.thk from rfl, show (clsG N A) 45 = A.lay from rfl, e312, updZ_s]
  unfold Q15 Q312
  rw [show (clsG N A) 45 = A.lay from rfl]
  (repeat' (first | omega | exact True.intro | exact absurd True.intro ‹¬ True› | apply And.intro | intro _))
  · have e : clsG N (tkF A f m) = upZ (upZ (clsG N A) 47 (updZ A.thk (topZ A f) (A.thk (topZ A f) - tkB A f m))) 45 (updZ A.lay f (A.lay f - 1)) := by
      show upZ (upZ N 47 (updZ A.thk (topZ A f) (A.thk (topZ A f) - tkB A f m))) 45 (if A.thk (topZ A f) - tkB A f m = 0 then updZ A.lay f (A.lay f - 1) else A.lay) = _
      rw [if_pos ‹_›]
      exact up2_up2.symm
    rw [e]
  · have e : clsG N (tkF A f m) = upZ (clsG N A) 47 (updZ A.thk (topZ A f) (A.thk (topZ A f) - tkB A f m)) := by
      show upZ (upZ N 47 (updZ A.thk (topZ A f) (A.thk (topZ A f) - tkB A f m))) 45 (if A.thk (topZ A f) - tkB A f m = 0 then updZ A.lay f (A.lay f - 1) else A.lay) = _
      rw [if_neg ‹_›]
      exact (up2_up1 (by decide)).symm
    rw [e]
theorem sp272 {f m : Int} (hA : GlaR A) (hf : 0 ≤ f ∧ f < 64) (hl : 0 < A.lay f) (hm : 0 ≤ m) (hmR : R m) :
    Rn 272 [.ref 59, .int (J f), .int (J m)] (hs E (jm (refG N A))) (some (.int (J (tkB A f m)))) (hs E (jm (refG N (tkF A f m)))) := by
  have ht := topA hA hf hl
  have hk := topT hA hf hl
  have hly := hA.lay f hf.1 hf.2
  have e (L : Int → Int) (hL : L = if A.thk (topZ A f) - tkB A f m = 0 then updZ A.lay f (A.lay f - 1) else A.lay) : refG N (tkF A f m) = upZ (upZ (refG N A) 79 (updZ A.thk (topZ A f) (A.thk (topZ A f) - tkB A f m))) 77 L := by
    subst hL
    exact up2_up2.symm
  refine c272 (v272_0 ?_)
  rw [show (refG N A) 77 = A.lay from rfl, show (refG N A) 79 = A.thk from rfl, show 12 * f + A.lay f - 1 = topZ A f from rfl, updZ_s, updZ_s]
  by_cases q : A.thk (topZ A f) ≤ m
  · have eB : tkB A f m = A.thk (topZ A f) := by unfold tkB; omega
    have e1 := e (updZ A.lay f (A.lay f - 1)) (by rw [if_pos (by omega)])
    rw [e1, eB]
    ((repeat' (first | omega | exact True.intro | exact absurd True.intro ‹¬ True› | apply And.intro | intro _)) <;> rfl)
  · have eB : tkB A f m = m := by unfold tkB; omega
    have e1 := e A.lay (by rw [if_neg (by omega)])
    rw [e1, eB, Int.sub_zero, updZ_id]
    ((repeat' (first | omega | exact True.intro | exact absurd True.intro ‹¬ True› | apply And.intro | intro _)) <;> rfl)
theorem tkF_R (hA : GlaR A) {f m : Int} (hf : 0 ≤ f ∧ f < 64) (hl : 0 < A.lay f) (hm : 0 ≤ m) : GlaR (tkF A f m) := by
  have ht := topA hA hf hl
  have hk := topT hA hf hl
  have hly := hA.lay f hf.1 hf.2
  have hB : 0 ≤ tkB A f m ∧ tkB A f m ≤ A.thk (topZ A f) := by unfold tkB; omega
  refine GlaR.mk ?_ hA.col ?_ hA.sta ?_
  · intro g g1 g2
    have h := hA.lay g g1 g2
    show 0 ≤ (if A.thk (topZ A f) - tkB A f m = 0 then updZ A.lay f (A.lay f - 1) else A.lay) g ∧ (if A.thk (topZ A f) - tkB A f m = 0 then updZ A.lay f (A.lay f - 1) else A.lay) g ≤ 12
    by_cases q : A.thk (topZ A f) - tkB A f m = 0
    · rw [if_pos q]; unfold updZ; split <;> omega
    · rw [if_neg q]; exact h
  · intro i i1 i2
    have h := hA.thk i i1 i2
    show 0 ≤ updZ A.thk (topZ A f) (A.thk (topZ A f) - tkB A f m) i ∧ updZ A.thk (topZ A f) (A.thk (topZ A f) - tkB A f m) i ≤ 99
    unfold updZ
    split <;> omega
  · intro g k g1 g2 k1 k2
    replace k2 : k < (if A.thk (topZ A f) - tkB A f m = 0 then updZ A.lay f (A.lay f - 1) else A.lay) g := k2
    have hg := hA.lay g g1 g2
    show 1 ≤ updZ A.thk (topZ A f) (A.thk (topZ A f) - tkB A f m) (12 * g + k)
    by_cases q : A.thk (topZ A f) - tkB A f m = 0
    · rw [if_pos q] at k2
      unfold updZ at k2 ⊢
      by_cases e : g = f
      · rw [if_pos e] at k2
        rw [if_neg (by unfold topZ; omega)]
        exact hA.thk1 g k g1 g2 k1 (by rw [e]; omega)
      · rw [if_neg e] at k2
        rw [if_neg (by unfold topZ; omega)]
        exact hA.thk1 g k g1 g2 k1 k2
    · rw [if_neg q] at k2
      unfold updZ
      by_cases e : 12 * g + k = topZ A f
      · rw [if_pos e]; omega
      · rw [if_neg e]
        exact hA.thk1 g k g1 g2 k1 k2
theorem sumZ_ext {n m : Int} {f g : Int → Int} (e : n = m) (h : ∀ k, 0 ≤ k → k < n → f k = g k) : sumZ n f = sumZ m g := by
  subst e
  exact sumZ_congr h
theorem tkF_high (hA : GlaR A) {f m : Int} (hf : 0 ≤ f ∧ f < 64) (hl : 0 < A.lay f) (hm : 0 ≤ m) : highZ (tkF A f m) f = highZ A f - tkB A f m := by
  have ht := topA hA hf hl
  have hk := topT hA hf hl
  have h0 : highZ A f = sumZ (A.lay f - 1) (fun k => A.thk (12 * f + k)) + A.thk (topZ A f) := by
    have h := sumZ_succ (g := fun k => A.thk (12 * f + k)) (k := A.lay f - 1) (by omega)
    rw [show A.lay f - 1 + 1 = A.lay f by omega] at h
    unfold highZ
    rw [h, show 12 * f + (A.lay f - 1) = topZ A f by unfold topZ; omega]
  by_cases q : A.thk (topZ A f) - tkB A f m = 0
  · have h1 : highZ (tkF A f m) f = sumZ (A.lay f - 1) (fun k => A.thk (12 * f + k)) := by
      refine sumZ_ext ?_ ?_
      · show (if A.thk (topZ A f) - tkB A f m = 0 then updZ A.lay f (A.lay f - 1) else A.lay) f = _
        rw [if_pos q, updZ_s]
      · intro k k1 k2
        replace k2 : k < (if A.thk (topZ A f) - tkB A f m = 0 then updZ A.lay f (A.lay f - 1) else A.lay) f := k2
        rw [if_pos q, updZ_s] at k2
        show updZ A.thk (topZ A f) _ (12 * f + k) = _
        rw [updZ_n (by unfold topZ; omega)]
    omega
  · have h1 : highZ (tkF A f m) f = sumZ (A.lay f - 1 + 1) (fun k => updZ A.thk (topZ A f) (A.thk (topZ A f) - tkB A f m) (12 * f + k)) := by
      refine sumZ_ext ?_ (fun k _ _ => rfl)
      show (if A.thk (topZ A f) - tkB A f m = 0 then updZ A.lay f (A.lay f - 1) else A.lay) f = _
      rw [if_neg q]; omega
    rw [sumZ_succ (by omega), show 12 * f + (A.lay f - 1) = topZ A f by unfold topZ; omega, updZ_s] at h1
    rw [sumZ_congr (g := fun k => A.thk (12 * f + k)) (fun k k1 k2 => updZ_n (by unfold topZ; omega))] at h1
    omega
theorem tkF_oth {f g m : Int} (hf : 0 ≤ f ∧ f < 64) (hA : GlaR A) (hl : 0 < A.lay f) (hg : 0 ≤ g ∧ g < 64) (h : ¬ g = f) : (tkF A f m).lay g = A.lay g ∧ highZ (tkF A f m) g = highZ A g := by
  have e : (tkF A f m).lay g = A.lay g := by
    show (if A.thk (topZ A f) - tkB A f m = 0 then updZ A.lay f (A.lay f - 1) else A.lay) g = _
    split
    · exact updZ_n h
    · rfl
  have h1 := hA.lay f hf.1 hf.2
  have h2 := hA.lay g hg.1 hg.2
  refine ⟨e, sumZ_ext e (fun k k1 k2 => ?_)⟩
  rw [e] at k2
  show updZ A.thk (topZ A f) _ (12 * g + k) = _
  exact updZ_n (by unfold topZ; omega)
theorem high_pos (hA : GlaR A) {f : Int} (hf : 0 ≤ f ∧ f < 64) (h : 0 < highZ A f) : 0 < A.lay f := by
  apply Classical.byContradiction
  intro q
  unfold highZ at h
  rw [sumZ_neg (by omega)] at h
  omega
end POL
