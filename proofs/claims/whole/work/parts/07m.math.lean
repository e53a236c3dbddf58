/-! Math.abs, max, min: their runs by the interpreter (wip/gen/math.py) -/
theorem gw_mathC : (List.range 320).all (fun y => match gw_mi y with | some Y => (!(Y.2.1.cls == "java/lang/Math")) || (y == 310 || y == 311 || y == 312) | none => true) = true := by decide +kernel
theorem gw_math {y : Nat} {Y : gw_M} (hY : gw_mi y = some Y) (hc : Y.2.1.cls = "java/lang/Math") : y = 310 ∨ y = 311 ∨ y = 312 := by
  have hlt : y < 320 := by
    apply Classical.byContradiction
    intro hn
    unfold gw_mi at hY
    have h20 : gw_ML[y / 16]? = none := List.getElem?_eq_none_iff.mpr (by show 20 ≤ y / 16; omega)
    rw [h20] at hY
    cases hY
  have h := List.all_eq_true.mp gw_mathC y (List.mem_range.mpr hlt)
  rw [hY] at h
  simp only [hc, beq_self_eq_true, Bool.not_true, Bool.false_or, Bool.or_eq_true, beq_iff_eq] at h
  omega
theorem gw_le_refl (L : gw_L) : gw_le L L := ⟨rfl, fun _ _ h => h⟩
theorem gw_le_trans {A B C : gw_L} (h1 : gw_le A B) (h2 : gw_le B C) : gw_le A C := ⟨h1.1.trans h2.1, fun i v h => h2.2 i v (h1.2 i v h)⟩
theorem gw_ldi_of {L : gw_L} {i : Nat} {k : Int32 → Option gw_S} {s' : gw_S} (h : gw_ldi L i k = some s') : ∃ x, L[i]? = some (some (.int x)) ∧ k x = some s' := by
  unfold gw_ldi at h
  split at h
  · rename_i x e
    exact ⟨x, e, h⟩
  · cases h
def gw_iv311 (L0 : gw_L) (pc : Nat) (st : List Value) : Prop := (pc = 0 ∧ st = []) ∨
  (pc = 1 ∧ ∃ x, L0[0]? = some (some (.int x)) ∧ st = [.int x]) ∨
  (pc = 2 ∧ ∃ x y, L0[0]? = some (some (.int x)) ∧ L0[1]? = some (some (.int y)) ∧ st = [.int y, .int x]) ∨
  (pc = 5 ∧ ∃ x y, L0[0]? = some (some (.int x)) ∧ L0[1]? = some (some (.int y)) ∧ st = [] ∧ ¬ x < y) ∨
  (pc = 9 ∧ ∃ x y, L0[0]? = some (some (.int x)) ∧ L0[1]? = some (some (.int y)) ∧ st = [] ∧ x < y) ∨
  ((pc = 6 ∨ pc = 10) ∧ ∃ x y, L0[0]? = some (some (.int x)) ∧ L0[1]? = some (some (.int y)) ∧ st = [.int (if x < y then y else x)])
theorem gw_run311 {L0 : gw_L} : ∀ (n b pc : Nat) (L : gw_L) (st : List Value) (h : gw_H) (r : Option Value) (hq : gw_H), gw_le L L0 → gw_Go n b 311 pc L st h (r, hq) → gw_iv311 L0 pc st → ∃ x y, L0[0]? = some (some (.int x)) ∧ L0[1]? = some (some (.int y)) ∧ r = some (.int (if x < y then y else x)) ∧ hq = h := by
  intro n
  induction n with
  | zero => intro b pc L st h r hq _ hg; exact hg.elim
  | succ n ih =>
    intro b pc L st h r hq hL hg hI
    rcases hg with ⟨L2, h1, h2⟩ | ⟨s', h1, h2⟩ | ⟨r', h1, h2⟩ | ⟨y, vs, rest, r', h3, hc, hg3, hg4⟩
    · exact ih b pc L2 st h r hq (gw_le_trans h1 hL) h2 hI
    · rcases hI with ⟨rfl, rfl⟩ | ⟨rfl, x, e1, rfl⟩ | ⟨rfl, x, y, e1, e2, rfl⟩ | ⟨rfl, x, y, e1, e2, rfl, hn⟩ | ⟨rfl, x, y, e1, e2, rfl, hn⟩ | ⟨rfl | rfl, x, y, e1, e2, rfl⟩
      · replace h1 : gw_ldi L 0 (fun x => some (1, L, [.int x], h)) = some s' := h1
        obtain ⟨x, k1, k2⟩ := gw_ldi_of h1
        cases k2
        exact ih _ _ _ _ _ _ _ hL h2 (Or.inr (Or.inl ⟨rfl, x, hL.2 _ _ k1, rfl⟩))
      · replace h1 : gw_ldi L 1 (fun y => some (2, L, [.int y, .int x], h)) = some s' := h1
        obtain ⟨y, k1, k2⟩ := gw_ldi_of h1
        cases k2
        exact ih _ _ _ _ _ _ _ hL h2 (Or.inr (Or.inr (Or.inl ⟨rfl, x, y, e1, hL.2 _ _ k1, rfl⟩)))
      · replace h1 : some (if x < y then 9 else 5, L, ([] : List Value), h) = some s' := h1
        cases h1
        by_cases hn : x < y
        · dsimp only at h2
          rw [if_pos hn] at h2
          exact ih _ _ _ _ _ _ _ hL h2 (Or.inr (Or.inr (Or.inr (Or.inr (Or.inl ⟨rfl, x, y, e1, e2, rfl, hn⟩)))))
        · dsimp only at h2
          rw [if_neg hn] at h2
          exact ih _ _ _ _ _ _ _ hL h2 (Or.inr (Or.inr (Or.inr (Or.inl ⟨rfl, x, y, e1, e2, rfl, hn⟩))))
      · replace h1 : gw_ldi L 0 (fun x => some (6, L, [.int x], h)) = some s' := h1
        obtain ⟨x', k1, k2⟩ := gw_ldi_of h1
        cases k2
        have e : x' = x := by
          have := (hL.2 _ _ k1).symm.trans e1
          cases this
          rfl
        exact ih _ _ _ _ _ _ _ hL h2 (Or.inr (Or.inr (Or.inr (Or.inr (Or.inr ⟨Or.inl rfl, x, y, e1, e2, by rw [if_neg hn, e]⟩)))))
      · replace h1 : gw_ldi L 1 (fun x => some (10, L, [.int x], h)) = some s' := h1
        obtain ⟨x', k1, k2⟩ := gw_ldi_of h1
        cases k2
        have e : x' = y := by
          have := (hL.2 _ _ k1).symm.trans e2
          cases this
          rfl
        exact ih _ _ _ _ _ _ _ hL h2 (Or.inr (Or.inr (Or.inr (Or.inr (Or.inr ⟨Or.inr rfl, x, y, e1, e2, by rw [if_pos hn, e]⟩)))))
      · replace h1 : some (10, L, [Value.int (if x < y then y else x)], h) = some s' := h1
        cases h1
        exact ih _ _ _ _ _ _ _ hL h2 (Or.inr (Or.inr (Or.inr (Or.inr (Or.inr ⟨Or.inr rfl, x, y, e1, e2, rfl⟩)))))
      · replace h1 : (none : Option gw_S) = some s' := h1
        cases h1
    · rcases hI with ⟨rfl, rfl⟩ | ⟨rfl, x, e1, rfl⟩ | ⟨rfl, x, y, e1, e2, rfl⟩ | ⟨rfl, x, y, e1, e2, rfl, hn⟩ | ⟨rfl, x, y, e1, e2, rfl, hn⟩ | ⟨rfl | rfl, x, y, e1, e2, rfl⟩
      · replace h1 : (none : Option (Option Value)) = some r' := h1
        cases h1
      · replace h1 : (none : Option (Option Value)) = some r' := h1
        cases h1
      · replace h1 : (none : Option (Option Value)) = some r' := h1
        cases h1
      · replace h1 : (none : Option (Option Value)) = some r' := h1
        cases h1
      · replace h1 : (none : Option (Option Value)) = some r' := h1
        cases h1
      · replace h1 : (none : Option (Option Value)) = some r' := h1
        cases h1
      · replace h1 : some (some (Value.int (if x < y then y else x))) = some r' := h1
        cases h1
        cases h2
        exact ⟨x, y, e1, e2, rfl, rfl⟩
    · have hn : ∀ pc : Nat, (pc = 0 ∨ pc = 1 ∨ pc = 2 ∨ pc = 5 ∨ pc = 6 ∨ pc = 9 ∨ pc = 10) → ∀ st, gw_call b 311 pc st h = none := by
        rintro pc (rfl | rfl | rfl | rfl | rfl | rfl | rfl) st <;> rfl
      have hpc : pc = 0 ∨ pc = 1 ∨ pc = 2 ∨ pc = 5 ∨ pc = 6 ∨ pc = 9 ∨ pc = 10 := by
        rcases hI with ⟨e, _⟩ | ⟨e, _⟩ | ⟨e, _⟩ | ⟨e, _⟩ | ⟨e, _⟩ | ⟨e, _⟩ <;> omega
      rw [hn pc hpc st] at hc
      cases hc
theorem gw_ent311 {u v : Value} {x y : Int32} (h1 : (gw_ent 311 [u, v])[0]? = some (some (.int x))) (h2 : (gw_ent 311 [u, v])[1]? = some (some (.int y))) : u = .int x ∧ v = .int y := by
  have e1 : u = .int x := by
    cases u <;> cases h1 <;> rfl
  subst e1
  refine ⟨rfl, ?_⟩
  cases v <;> cases h2 <;> rfl
def gw_iv312 (L0 : gw_L) (pc : Nat) (st : List Value) : Prop := (pc = 0 ∧ st = []) ∨
  (pc = 1 ∧ ∃ x, L0[0]? = some (some (.int x)) ∧ st = [.int x]) ∨
  (pc = 2 ∧ ∃ x y, L0[0]? = some (some (.int x)) ∧ L0[1]? = some (some (.int y)) ∧ st = [.int y, .int x]) ∨
  (pc = 5 ∧ ∃ x y, L0[0]? = some (some (.int x)) ∧ L0[1]? = some (some (.int y)) ∧ st = [] ∧ ¬ y < x) ∨
  (pc = 9 ∧ ∃ x y, L0[0]? = some (some (.int x)) ∧ L0[1]? = some (some (.int y)) ∧ st = [] ∧ y < x) ∨
  ((pc = 6 ∨ pc = 10) ∧ ∃ x y, L0[0]? = some (some (.int x)) ∧ L0[1]? = some (some (.int y)) ∧ st = [.int (if y < x then y else x)])
theorem gw_run312 {L0 : gw_L} : ∀ (n b pc : Nat) (L : gw_L) (st : List Value) (h : gw_H) (r : Option Value) (hq : gw_H), gw_le L L0 → gw_Go n b 312 pc L st h (r, hq) → gw_iv312 L0 pc st → ∃ x y, L0[0]? = some (some (.int x)) ∧ L0[1]? = some (some (.int y)) ∧ r = some (.int (if y < x then y else x)) ∧ hq = h := by
  intro n
  induction n with
  | zero => intro b pc L st h r hq _ hg; exact hg.elim
  | succ n ih =>
    intro b pc L st h r hq hL hg hI
    rcases hg with ⟨L2, h1, h2⟩ | ⟨s', h1, h2⟩ | ⟨r', h1, h2⟩ | ⟨y, vs, rest, r', h3, hc, hg3, hg4⟩
    · exact ih b pc L2 st h r hq (gw_le_trans h1 hL) h2 hI
    · rcases hI with ⟨rfl, rfl⟩ | ⟨rfl, x, e1, rfl⟩ | ⟨rfl, x, y, e1, e2, rfl⟩ | ⟨rfl, x, y, e1, e2, rfl, hn⟩ | ⟨rfl, x, y, e1, e2, rfl, hn⟩ | ⟨rfl | rfl, x, y, e1, e2, rfl⟩
      · replace h1 : gw_ldi L 0 (fun x => some (1, L, [.int x], h)) = some s' := h1
        obtain ⟨x, k1, k2⟩ := gw_ldi_of h1
        cases k2
        exact ih _ _ _ _ _ _ _ hL h2 (Or.inr (Or.inl ⟨rfl, x, hL.2 _ _ k1, rfl⟩))
      · replace h1 : gw_ldi L 1 (fun y => some (2, L, [.int y, .int x], h)) = some s' := h1
        obtain ⟨y, k1, k2⟩ := gw_ldi_of h1
        cases k2
        exact ih _ _ _ _ _ _ _ hL h2 (Or.inr (Or.inr (Or.inl ⟨rfl, x, y, e1, hL.2 _ _ k1, rfl⟩)))
      · replace h1 : some (if y < x then 9 else 5, L, ([] : List Value), h) = some s' := h1
        cases h1
        by_cases hn : y < x
        · dsimp only at h2
          rw [if_pos hn] at h2
          exact ih _ _ _ _ _ _ _ hL h2 (Or.inr (Or.inr (Or.inr (Or.inr (Or.inl ⟨rfl, x, y, e1, e2, rfl, hn⟩)))))
        · dsimp only at h2
          rw [if_neg hn] at h2
          exact ih _ _ _ _ _ _ _ hL h2 (Or.inr (Or.inr (Or.inr (Or.inl ⟨rfl, x, y, e1, e2, rfl, hn⟩))))
      · replace h1 : gw_ldi L 0 (fun x => some (6, L, [.int x], h)) = some s' := h1
        obtain ⟨x', k1, k2⟩ := gw_ldi_of h1
        cases k2
        have e : x' = x := by
          have := (hL.2 _ _ k1).symm.trans e1
          cases this
          rfl
        exact ih _ _ _ _ _ _ _ hL h2 (Or.inr (Or.inr (Or.inr (Or.inr (Or.inr ⟨Or.inl rfl, x, y, e1, e2, by rw [if_neg hn, e]⟩)))))
      · replace h1 : gw_ldi L 1 (fun x => some (10, L, [.int x], h)) = some s' := h1
        obtain ⟨x', k1, k2⟩ := gw_ldi_of h1
        cases k2
        have e : x' = y := by
          have := (hL.2 _ _ k1).symm.trans e2
          cases this
          rfl
        exact ih _ _ _ _ _ _ _ hL h2 (Or.inr (Or.inr (Or.inr (Or.inr (Or.inr ⟨Or.inr rfl, x, y, e1, e2, by rw [if_pos hn, e]⟩)))))
      · replace h1 : some (10, L, [Value.int (if y < x then y else x)], h) = some s' := h1
        cases h1
        exact ih _ _ _ _ _ _ _ hL h2 (Or.inr (Or.inr (Or.inr (Or.inr (Or.inr ⟨Or.inr rfl, x, y, e1, e2, rfl⟩)))))
      · replace h1 : (none : Option gw_S) = some s' := h1
        cases h1
    · rcases hI with ⟨rfl, rfl⟩ | ⟨rfl, x, e1, rfl⟩ | ⟨rfl, x, y, e1, e2, rfl⟩ | ⟨rfl, x, y, e1, e2, rfl, hn⟩ | ⟨rfl, x, y, e1, e2, rfl, hn⟩ | ⟨rfl | rfl, x, y, e1, e2, rfl⟩
      · replace h1 : (none : Option (Option Value)) = some r' := h1
        cases h1
      · replace h1 : (none : Option (Option Value)) = some r' := h1
        cases h1
      · replace h1 : (none : Option (Option Value)) = some r' := h1
        cases h1
      · replace h1 : (none : Option (Option Value)) = some r' := h1
        cases h1
      · replace h1 : (none : Option (Option Value)) = some r' := h1
        cases h1
      · replace h1 : (none : Option (Option Value)) = some r' := h1
        cases h1
      · replace h1 : some (some (Value.int (if y < x then y else x))) = some r' := h1
        cases h1
        cases h2
        exact ⟨x, y, e1, e2, rfl, rfl⟩
    · have hn : ∀ pc : Nat, (pc = 0 ∨ pc = 1 ∨ pc = 2 ∨ pc = 5 ∨ pc = 6 ∨ pc = 9 ∨ pc = 10) → ∀ st, gw_call b 312 pc st h = none := by
        rintro pc (rfl | rfl | rfl | rfl | rfl | rfl | rfl) st <;> rfl
      have hpc : pc = 0 ∨ pc = 1 ∨ pc = 2 ∨ pc = 5 ∨ pc = 6 ∨ pc = 9 ∨ pc = 10 := by
        rcases hI with ⟨e, _⟩ | ⟨e, _⟩ | ⟨e, _⟩ | ⟨e, _⟩ | ⟨e, _⟩ | ⟨e, _⟩ <;> omega
      rw [hn pc hpc st] at hc
      cases hc
theorem gw_ent312 {u v : Value} {x y : Int32} (h1 : (gw_ent 312 [u, v])[0]? = some (some (.int x))) (h2 : (gw_ent 312 [u, v])[1]? = some (some (.int y))) : u = .int x ∧ v = .int y := by
  have e1 : u = .int x := by
    cases u <;> cases h1 <;> rfl
  subst e1
  refine ⟨rfl, ?_⟩
  cases v <;> cases h2 <;> rfl
def gw_iv310 (L0 : gw_L) (pc : Nat) (st : List Value) : Prop := (pc = 0 ∧ st = []) ∨
  (pc = 1 ∧ ∃ x, L0[0]? = some (some (.int x)) ∧ st = [.int x]) ∨
  (pc = 4 ∧ ∃ x, L0[0]? = some (some (.int x)) ∧ st = [] ∧ ¬ 0 ≤ x) ∨
  (pc = 5 ∧ ∃ x, L0[0]? = some (some (.int x)) ∧ st = [.int x] ∧ ¬ 0 ≤ x) ∨
  (pc = 9 ∧ ∃ x, L0[0]? = some (some (.int x)) ∧ st = [] ∧ 0 ≤ x) ∨
  ((pc = 6 ∨ pc = 10) ∧ ∃ x, L0[0]? = some (some (.int x)) ∧ st = [.int (if 0 ≤ x then x else 0 - x)])
theorem gw_run310 {L0 : gw_L} : ∀ (n b pc : Nat) (L : gw_L) (st : List Value) (h : gw_H) (r : Option Value) (hq : gw_H), gw_le L L0 → gw_Go n b 310 pc L st h (r, hq) → gw_iv310 L0 pc st → ∃ x, L0[0]? = some (some (.int x)) ∧ r = some (.int (if 0 ≤ x then x else 0 - x)) ∧ hq = h := by
  intro n
  induction n with
  | zero => intro b pc L st h r hq _ hg; exact hg.elim
  | succ n ih =>
    intro b pc L st h r hq hL hg hI
    rcases hg with ⟨L2, h1, h2⟩ | ⟨s', h1, h2⟩ | ⟨r', h1, h2⟩ | ⟨y, vs, rest, r', h3, hc, hg3, hg4⟩
    · exact ih b pc L2 st h r hq (gw_le_trans h1 hL) h2 hI
    · rcases hI with ⟨rfl, rfl⟩ | ⟨rfl, x, e1, rfl⟩ | ⟨rfl, x, e1, rfl, hn⟩ | ⟨rfl, x, e1, rfl, hn⟩ | ⟨rfl, x, e1, rfl, hn⟩ | ⟨rfl | rfl, x, e1, rfl⟩
      · replace h1 : gw_ldi L 0 (fun x => some (1, L, [.int x], h)) = some s' := h1
        obtain ⟨x, k1, k2⟩ := gw_ldi_of h1
        cases k2
        exact ih _ _ _ _ _ _ _ hL h2 (Or.inr (Or.inl ⟨rfl, x, hL.2 _ _ k1, rfl⟩))
      · replace h1 : some (if 0 ≤ x then 9 else 4, L, ([] : List Value), h) = some s' := h1
        cases h1
        by_cases hn : 0 ≤ x
        · dsimp only at h2
          rw [if_pos hn] at h2
          exact ih _ _ _ _ _ _ _ hL h2 (Or.inr (Or.inr (Or.inr (Or.inr (Or.inl ⟨rfl, x, e1, rfl, hn⟩)))))
        · dsimp only at h2
          rw [if_neg hn] at h2
          exact ih _ _ _ _ _ _ _ hL h2 (Or.inr (Or.inr (Or.inl ⟨rfl, x, e1, rfl, hn⟩)))
      · replace h1 : gw_ldi L 0 (fun x => some (5, L, [.int x], h)) = some s' := h1
        obtain ⟨x', k1, k2⟩ := gw_ldi_of h1
        cases k2
        have e : x' = x := by
          have := (hL.2 _ _ k1).symm.trans e1
          cases this
          rfl
        exact ih _ _ _ _ _ _ _ hL h2 (Or.inr (Or.inr (Or.inr (Or.inl ⟨rfl, x, e1, by rw [e], hn⟩))))
      · replace h1 : some (6, L, [Value.int (-x)], h) = some s' := h1
        cases h1
        exact ih _ _ _ _ _ _ _ hL h2 (Or.inr (Or.inr (Or.inr (Or.inr (Or.inr ⟨Or.inl rfl, x, e1, by rw [if_neg hn, Int32.zero_sub]⟩)))))
      · replace h1 : gw_ldi L 0 (fun x => some (10, L, [.int x], h)) = some s' := h1
        obtain ⟨x', k1, k2⟩ := gw_ldi_of h1
        cases k2
        have e : x' = x := by
          have := (hL.2 _ _ k1).symm.trans e1
          cases this
          rfl
        exact ih _ _ _ _ _ _ _ hL h2 (Or.inr (Or.inr (Or.inr (Or.inr (Or.inr ⟨Or.inr rfl, x, e1, by rw [if_pos hn, e]⟩)))))
      · replace h1 : some (10, L, [Value.int (if 0 ≤ x then x else 0 - x)], h) = some s' := h1
        cases h1
        exact ih _ _ _ _ _ _ _ hL h2 (Or.inr (Or.inr (Or.inr (Or.inr (Or.inr ⟨Or.inr rfl, x, e1, rfl⟩)))))
      · replace h1 : (none : Option gw_S) = some s' := h1
        cases h1
    · rcases hI with ⟨rfl, rfl⟩ | ⟨rfl, x, e1, rfl⟩ | ⟨rfl, x, e1, rfl, hn⟩ | ⟨rfl, x, e1, rfl, hn⟩ | ⟨rfl, x, e1, rfl, hn⟩ | ⟨rfl | rfl, x, e1, rfl⟩
      · replace h1 : (none : Option (Option Value)) = some r' := h1
        cases h1
      · replace h1 : (none : Option (Option Value)) = some r' := h1
        cases h1
      · replace h1 : (none : Option (Option Value)) = some r' := h1
        cases h1
      · replace h1 : (none : Option (Option Value)) = some r' := h1
        cases h1
      · replace h1 : (none : Option (Option Value)) = some r' := h1
        cases h1
      · replace h1 : (none : Option (Option Value)) = some r' := h1
        cases h1
      · replace h1 : some (some (Value.int (if 0 ≤ x then x else 0 - x))) = some r' := h1
        cases h1
        cases h2
        exact ⟨x, e1, rfl, rfl⟩
    · have hn : ∀ pc : Nat, (pc = 0 ∨ pc = 1 ∨ pc = 4 ∨ pc = 5 ∨ pc = 6 ∨ pc = 9 ∨ pc = 10) → ∀ st, gw_call b 310 pc st h = none := by
        rintro pc (rfl | rfl | rfl | rfl | rfl | rfl | rfl) st <;> rfl
      have hpc : pc = 0 ∨ pc = 1 ∨ pc = 4 ∨ pc = 5 ∨ pc = 6 ∨ pc = 9 ∨ pc = 10 := by
        rcases hI with ⟨e, _⟩ | ⟨e, _⟩ | ⟨e, _⟩ | ⟨e, _⟩ | ⟨e, _⟩ | ⟨e, _⟩ <;> omega
      rw [hn pc hpc st] at hc
      cases hc
theorem gw_ent310 {u : Value} {x : Int32} (h1 : (gw_ent 310 [u])[0]? = some (some (.int x))) : u = .int x := by
  cases u <;> cases h1 <;> rfl
