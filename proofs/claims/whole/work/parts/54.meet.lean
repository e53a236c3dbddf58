/-! edges that meet at a point, on both sides -/
section MEE
variable {E : gw_N} {N : NM} {P : Pic} {G : Geo}
theorem cCov {x y way : Int} (hG : GeoR G) (hg : GridOK G N) (hcv : ∀ e, 0 ≤ e → e < 178 → N 23 e = covC G e) (hp : isPt G x y) (hw : 0 ≤ way ∧ way < 4) : G74 N x y way = bZ (covW G x y way) ∧ Q74 N x y way := by
  have h8 := hG.w
  have h9 := hG.h
  have hp' := hp
  unfold isPt at hp'
  have hsb : (-1 ≤ G53 N way ∧ G53 N way ≤ 1) ∧ (-1 ≤ G54 N way ∧ G54 N way ≤ 1) := by
    unfold G53 G54
    constructor <;> ((repeat' split) <;> omega)
  obtain ⟨a1, a2⟩ := cPt hG hg (a := x + G53 N way) (b := y + G54 N way) (by omega) (by omega)
  have q53 : Q53 N way := by unfold Q53; (repeat' (first | omega | exact True.intro | exact absurd True.intro ‹¬ True› | apply And.intro | intro _))
  have q54 : Q54 N way := by unfold Q54; (repeat' (first | omega | exact True.intro | exact absurd True.intro ‹¬ True› | apply And.intro | intro _))
  have q52 : Q52 N x y way := by unfold Q52; (repeat' (first | omega | exact True.intro | exact absurd True.intro ‹¬ True› | apply And.intro | intro _))
  have m1 := bZ_01 (p := isPt G (x + G53 N way) (y + G54 N way))
  -- the edge's number, and that it is one
  have key : ∃ e, G52 N x y way = e ∧ (isPt G (x + G53 N way) (y + G54 N way) → (0 ≤ e ∧ e < 178) ∧ (covW G x y way ↔ 0 < covC G e)) ∧ (covW G x y way → isPt G (x + G53 N way) (y + G54 N way)) := by
    unfold G52 G51 G48 covW isE isPt
    obtain a | a | a | a : way = 0 ∨ way = 1 ∨ way = 2 ∨ way = 3 := by omega
    · subst a
      have e1 : G53 N 0 = 1 := rfl
      have e2 : G54 N 0 = 0 := rfl
      rw [e1, e2]
      refine ⟨10 * y + x, ?_, fun z => ⟨by omega, ?_⟩, fun z => by omega⟩
      · show 89 * 0 + (10 * y + x) = 10 * y + x
        omega
      · exact ⟨fun w => by omega, fun w => Or.inl ⟨rfl, Or.inl ⟨rfl, by omega⟩, w⟩⟩
    · subst a
      have e1 : G53 N 1 = 0 := rfl
      have e2 : G54 N 1 = 1 := rfl
      rw [e1, e2]
      refine ⟨89 + 10 * y + x, ?_, fun z => ⟨by omega, ?_⟩, fun z => by omega⟩
      · show 89 * 1 + (10 * y + x) = 89 + 10 * y + x
        omega
      · exact ⟨fun w => by omega, fun w => Or.inr (Or.inl ⟨rfl, Or.inr ⟨rfl, by omega⟩, w⟩)⟩
    · subst a
      have e1 : G53 N 2 = -1 := rfl
      have e2 : G54 N 2 = 0 := rfl
      rw [e1, e2]
      refine ⟨10 * y + (x - 1), ?_, fun z => ⟨by omega, ?_⟩, fun z => by omega⟩
      · show 89 * 0 + (10 * y + (x - 1)) = 10 * y + (x - 1)
        omega
      · exact ⟨fun w => by omega, fun w => Or.inr (Or.inr (Or.inl ⟨rfl, Or.inl ⟨rfl, by omega⟩, w⟩))⟩
    · subst a
      have e1 : G53 N 3 = 0 := rfl
      have e2 : G54 N 3 = -1 := rfl
      rw [e1, e2]
      refine ⟨89 + 10 * (y - 1) + x, ?_, fun z => ⟨by omega, ?_⟩, fun z => by omega⟩
      · show 89 * 1 + (10 * (y - 1) + x) = 89 + 10 * (y - 1) + x
        omega
      · exact ⟨fun w => by omega, fun w => Or.inr (Or.inr (Or.inr ⟨rfl, Or.inr ⟨rfl, by omega⟩, w⟩))⟩
  obtain ⟨e, ke, k1, k2⟩ := key
  have hcb := cov_bd hG (e := e)
  unfold G74 Q74
  rw [a1, ke]
  by_cases q : isPt G (x + G53 N way) (y + G54 N way)
  · obtain ⟨r1, r2⟩ := k1 q
    rw [bZ_t q, hcv e r1.1 r1.2, if_neg (by decide)]
    refine ⟨?_, q53, q54, a2, by decide, fun z => absurd z (by decide), fun _ => ⟨q52, r1, by omega, fun _ => trivial, fun _ => trivial⟩⟩
    by_cases w : 0 < covC G e
    · rw [bZ_t (r2.mpr w), if_neg (by omega)]
    · rw [bZ_f (fun z => w (r2.mp z)), if_pos (by omega)]
  · rw [bZ_f q, if_pos rfl, bZ_f (fun z => q (k2 z))]
    exact ⟨rfl, q53, q54, a2, by decide, fun _ => trivial, fun z => absurd rfl z⟩
end MEE
