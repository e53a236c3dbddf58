/-! sums, counts and loops over the integers -/
def sumN (g : Int → Int) : Nat → Int
  | 0 => 0
  | n + 1 => sumN g n + g (n : Int)
def sumZ (n : Int) (g : Int → Int) : Int := sumN g n.toNat
theorem sumZ_0 {g : Int → Int} : sumZ 0 g = 0 := rfl
theorem sumZ_neg {g : Int → Int} {n : Int} (h : n ≤ 0) : sumZ n g = 0 := by
  unfold sumZ
  rw [Int.toNat_of_nonpos h]; rfl
theorem sumZ_succ {g : Int → Int} {k : Int} (h : 0 ≤ k) : sumZ (k + 1) g = sumZ k g + g k := by
  unfold sumZ
  have e : (k + 1).toNat = k.toNat + 1 := by omega
  rw [e]
  show sumN g k.toNat + g (k.toNat : Int) = _
  rw [Int.toNat_of_nonneg h]
theorem indZ {P : Int → Prop} (h0 : P 0) (hs : ∀ k, 0 ≤ k → P k → P (k + 1)) : ∀ n, 0 ≤ n → P n := by
  intro n hn
  obtain ⟨m, rfl⟩ := Int.eq_ofNat_of_zero_le hn
  clear hn
  induction m with
  | zero => exact h0
  | succ m ih => exact hs m (by omega) ih
theorem sumZ_congr {f g : Int → Int} {n : Int} (h : ∀ k, 0 ≤ k → k < n → f k = g k) : sumZ n f = sumZ n g := by
  by_cases hn : 0 ≤ n
  · refine indZ (P := fun m => m ≤ n → sumZ m f = sumZ m g) (fun _ => rfl) ?_ n hn (Int.le_refl _)
    intro k hk ih hle
    rw [sumZ_succ hk, sumZ_succ hk, ih (by omega), h k hk (by omega)]
  · rw [sumZ_neg (by omega), sumZ_neg (by omega)]
theorem sumZ_bd {g : Int → Int} {n c : Int} (h : ∀ k, 0 ≤ k → k < n → 0 ≤ g k ∧ g k ≤ c) (hn : 0 ≤ n) : 0 ≤ sumZ n g ∧ sumZ n g ≤ n * c := by
  refine indZ (P := fun m => m ≤ n → 0 ≤ sumZ m g ∧ sumZ m g ≤ m * c) (fun _ => by rw [sumZ_0]; omega) ?_ n hn (Int.le_refl _)
  intro k hk ih hle
  rw [sumZ_succ hk]
  have h1 := ih (by omega)
  have h2 := h k hk (by omega)
  have h3 : (k + 1) * c = k * c + c := by rw [Int.add_mul, Int.one_mul]
  omega
theorem sumZ_bd' {g : Int → Int} {n B c : Int} (h : ∀ k, 0 ≤ k → k < n → 0 ≤ g k ∧ g k ≤ c) (hn : 0 ≤ n) (hB : n ≤ B) (hc : 0 ≤ c) : 0 ≤ sumZ n g ∧ sumZ n g ≤ B * c := by
  have h1 := sumZ_bd h hn
  have h2 : n * c ≤ B * c := Int.mul_le_mul_of_nonneg_right hB hc
  omega
theorem sumZ_zero {g : Int → Int} {n : Int} (h : ∀ k, 0 ≤ k → k < n → g k = 0) : sumZ n g = 0 := by
  by_cases hn : 0 ≤ n
  · have := sumZ_bd (g := g) (c := 0) (fun k h1 h2 => by rw [h k h1 h2]; omega) hn
    omega
  · exact sumZ_neg (by omega)
theorem sumZ_add {f g : Int → Int} {n : Int} : sumZ n (fun k => f k + g k) = sumZ n f + sumZ n g := by
  by_cases hn : 0 ≤ n
  · refine indZ (P := fun m => sumZ m (fun k => f k + g k) = sumZ m f + sumZ m g) rfl ?_ n hn
    intro k hk ih
    rw [sumZ_succ hk, sumZ_succ hk, sumZ_succ hk, ih]; omega
  · rw [sumZ_neg (by omega), sumZ_neg (by omega), sumZ_neg (by omega)]; rfl
theorem sumZ_swap {n m : Int} {g : Int → Int → Int} : sumZ n (fun i => sumZ m (fun j => g i j)) = sumZ m (fun j => sumZ n (fun i => g i j)) := by
  by_cases hn : 0 ≤ n
  · refine indZ (P := fun n => sumZ n (fun i => sumZ m (fun j => g i j)) = sumZ m (fun j => sumZ n (fun i => g i j))) ?_ ?_ n hn
    · rw [sumZ_0]; exact (sumZ_zero fun k _ _ => sumZ_0).symm
    · intro k hk ih
      rw [sumZ_succ hk, ih, ← sumZ_add]
      exact sumZ_congr fun j _ _ => (sumZ_succ hk).symm
  · rw [sumZ_neg (by omega)]
    exact (sumZ_zero fun k _ _ => sumZ_neg (by omega)).symm
theorem sumZ_split {a b : Int} {g : Int → Int} (ha : 0 ≤ a) (hb : 0 ≤ b) : sumZ (a + b) g = sumZ a g + sumZ b (fun k => g (a + k)) := by
  refine indZ (P := fun b => sumZ (a + b) g = sumZ a g + sumZ b (fun k => g (a + k))) ?_ ?_ b hb
  · rw [sumZ_0]; simp
  · intro k hk ih
    rw [← Int.add_assoc, sumZ_succ (by omega), sumZ_succ hk, ih]; omega
theorem sumZ_rect {a b : Int} {g : Int → Int} (ha : 0 ≤ a) (hb : 0 ≤ b) : sumZ (b * a) g = sumZ a (fun y => sumZ b (fun x => g (b * y + x))) := by
  refine indZ (P := fun a => sumZ (b * a) g = sumZ a (fun y => sumZ b (fun x => g (b * y + x)))) ?_ ?_ a ha
  · rw [Int.mul_zero]; rfl
  · intro k hk ih
    rw [Int.mul_add, Int.mul_one, sumZ_split (Int.mul_nonneg hb hk) hb, ih, sumZ_succ hk]
noncomputable def bZ (p : Prop) : Int := @ite Int p (Classical.propDecidable p) 1 0
theorem bZ_t {p : Prop} (h : p) : bZ p = 1 := if_pos h
theorem bZ_f {p : Prop} (h : ¬ p) : bZ p = 0 := if_neg h
theorem bZ_01 {p : Prop} : bZ p = 0 ∨ bZ p = 1 := by
  by_cases h : p
  · exact Or.inr (bZ_t h)
  · exact Or.inl (bZ_f h)
theorem bZ_bd {p : Prop} : 0 ≤ bZ p ∧ bZ p ≤ 1 := by rcases bZ_01 (p := p) with h | h <;> omega
theorem bZ_congr {p q : Prop} (h : p ↔ q) : bZ p = bZ q := by
  by_cases hp : p
  · rw [bZ_t hp, bZ_t (h.mp hp)]
  · rw [bZ_f hp, bZ_f (fun hq => hp (h.mpr hq))]
theorem bZ_1 {p : Prop} : bZ p = 1 ↔ p := by
  by_cases hp : p
  · rw [bZ_t hp]; exact ⟨fun _ => hp, fun _ => rfl⟩
  · rw [bZ_f hp]; exact ⟨fun h => absurd h (by decide), fun h => absurd h hp⟩
theorem bZ_0 {p : Prop} : bZ p = 0 ↔ ¬ p := by
  by_cases hp : p
  · rw [bZ_t hp]; exact ⟨fun h => absurd h (by decide), fun h => absurd hp h⟩
  · rw [bZ_f hp]; exact ⟨fun _ => hp, fun _ => rfl⟩
theorem bZ_ite {p : Prop} [Decidable p] : (if p then (1 : Int) else 0) = bZ p := by
  by_cases hp : p
  · rw [bZ_t hp, if_pos hp]
  · rw [bZ_f hp, if_neg hp]
theorem loopZ {a n : Int} {Q : Int → Prop} (h : a ≤ n) (hend : Q n) (hstep : ∀ k, a ≤ k → k < n → Q (k + 1) → Q k) : Q a := by
  have key : ∀ j, 0 ≤ j → j ≤ n - a → Q (n - j) := by
    intro j hj
    refine indZ (P := fun j => j ≤ n - a → Q (n - j)) (fun _ => by rw [Int.sub_zero]; exact hend) ?_ j hj
    intro k hk ih hle
    refine hstep (n - (k + 1)) (by omega) (by omega) ?_
    rw [show n - (k + 1) + 1 = n - k by omega]
    exact ih (by omega)
  have := key (n - a) (by omega) (Int.le_refl _)
  rwa [show n - (n - a) = a by omega] at this
/-- a loop whose going on is shown by a measure -/
theorem loopM {α : Type} {Q : α → Prop} (m : α → Nat) (hstep : ∀ s, (∀ s', m s' < m s → Q s') → Q s) : ∀ s, Q s := by
  intro s
  generalize hn : m s = n
  induction n using Nat.strongRecOn generalizing s with
  | ind n ih => exact hstep s (fun s' h => ih (m s') (by omega) s' rfl)
theorem exZ_succ {k : Int} {p : Int → Prop} (hk : 0 ≤ k) : (∃ j, 0 ≤ j ∧ j < k + 1 ∧ p j) ↔ (∃ j, 0 ≤ j ∧ j < k ∧ p j) ∨ p k := by
  constructor
  · rintro ⟨j, h1, h2, h3⟩
    by_cases e : j = k
    · subst e; exact Or.inr h3
    · exact Or.inl ⟨j, h1, by omega, h3⟩
  · rintro (⟨j, h1, h2, h3⟩ | h)
    · exact ⟨j, h1, by omega, h3⟩
    · exact ⟨k, hk, by omega, h⟩
theorem exZ_0 {p : Int → Prop} : ¬ ∃ j, 0 ≤ j ∧ j < 0 ∧ p j := by rintro ⟨j, h1, h2, _⟩; omega
theorem allZ_succ {k : Int} {p : Int → Prop} (hk : 0 ≤ k) : (∀ j, 0 ≤ j → j < k + 1 → p j) ↔ (∀ j, 0 ≤ j → j < k → p j) ∧ p k := by
  constructor
  · intro h
    exact ⟨fun j h1 h2 => h j h1 (by omega), h k hk (by omega)⟩
  · rintro ⟨h, hp⟩ j h1 h2
    by_cases e : j = k
    · subst e; exact hp
    · exact h j h1 (by omega)
theorem upZ_s {N : NM} {a : Nat} {g : Int → Int} : upZ N a g a = g := if_pos rfl
theorem upZ_n {N : NM} {a b : Nat} {g : Int → Int} (h : b ≠ a) : upZ N a g b = N b := if_neg h
theorem upZ_up {N : NM} {a : Nat} {g g' : Int → Int} : upZ (upZ N a g) a g' = upZ N a g' := by
  funext q; unfold upZ; split <;> rfl
theorem upZ_cm {N : NM} {a c : Nat} {g g' : Int → Int} (h : a ≠ c) : upZ (upZ N a g) c g' = upZ (upZ N c g') a g := by
  funext q; unfold upZ
  by_cases h1 : q = a
  · subst h1; rw [if_neg h, if_pos rfl, if_pos rfl]
  · rw [if_neg h1, if_neg h1]
theorem upZ_id {N : NM} {a : Nat} : upZ N a (N a) = N := by
  funext q; unfold upZ; split
  · rename_i h; rw [h]
  · rfl
theorem updZ_s {f : Int → Int} {i v : Int} : updZ f i v i = v := if_pos rfl
theorem updZ_n {f : Int → Int} {i j v : Int} (h : ¬ j = i) : updZ f i v j = f j := if_neg h
theorem updZ_id {f : Int → Int} {i : Int} : updZ f i (f i) = f := by
  funext j; unfold updZ; split
  · rename_i h; rw [h]
  · rfl
