/-! sets as numbers -/
section BTS
theorem J_nat {a : Nat} (h : a < 2147483648) : (J (a : Int)).toBitVec.toNat = a := by
  have e : (J (a : Int)).toBitVec = BitVec.ofNat 32 a := by
    show (Int32.ofInt (a : Int)).toBitVec = _
    rw [show (Int32.ofInt (a : Int)).toBitVec = BitVec.ofInt 32 (a : Int) from rfl, BitVec.ofInt_natCast]
  rw [e, BitVec.toNat_ofNat]
  exact Nat.mod_eq_of_lt (by omega)
theorem zand_nat {a b : Nat} (ha : a < 2147483648) (hb : b < 2147483648) : zand (a : Int) (b : Int) = ((a &&& b : Nat) : Int) := by
  unfold zand
  have e : (J (a : Int) &&& J (b : Int)).toBitVec.toNat = a &&& b := by
    rw [Int32.toBitVec_and, BitVec.toNat_and, J_nat ha, J_nat hb]
  have hle : a &&& b ≤ a := Nat.and_le_left
  show (J (a : Int) &&& J (b : Int)).toBitVec.toInt = _
  rw [BitVec.toInt_eq_toNat_of_lt (by rw [e]; omega), e]
theorem zxor_nat {a b : Nat} (ha : a < 256) (hb : b < 256) : zxor (a : Int) (b : Int) = ((a ^^^ b : Nat) : Int) := by
  unfold zxor
  have e : (J (a : Int) ^^^ J (b : Int)).toBitVec.toNat = a ^^^ b := by
    rw [Int32.toBitVec_xor, BitVec.toNat_xor, J_nat (by omega), J_nat (by omega)]
  have hlt : a ^^^ b < 2 ^ 8 := Nat.xor_lt_two_pow (by omega) (by omega)
  show (J (a : Int) ^^^ J (b : Int)).toBitVec.toInt = _
  rw [BitVec.toInt_eq_toNat_of_lt (by rw [e]; omega), e]
theorem bit_nat {a i : Nat} : bitZ (a : Int) (i : Int) = 1 ↔ a.testBit i = true := by
  unfold bitZ
  rw [Nat.testBit_eq_decide_div_mod_eq, decide_eq_true_eq, Int.toNat_natCast]
  constructor
  · intro h
    have : (((a / 2 ^ i % 2 : Nat)) : Int) = 1 := by push_cast; exact h
    omega
  · intro h
    have : (((a / 2 ^ i % 2 : Nat)) : Int) = 1 := by omega
    push_cast at this
    exact this
/-- the next smaller part of a set -/
theorem sub_next : ∀ (n s p q : Nat), s < 2 ^ n → p &&& s = p → q &&& s = q → q < p → q ≤ (p - 1) &&& s := by
  intro n
  induction n with
  | zero =>
    intro s p q hs hp hq hlt
    have : s = 0 := by omega
    subst this
    rw [Nat.and_zero] at hp
    omega
  | succ n ih =>
    intro s p q hs hp hq hlt
    have hs2 : s / 2 < 2 ^ n := by
      rw [Nat.pow_succ] at hs
      omega
    have hp2 : p / 2 &&& s / 2 = p / 2 := by rw [← Nat.and_div_two, hp]
    have hq2 : q / 2 &&& s / 2 = q / 2 := by rw [← Nat.and_div_two, hq]
    have hqb : q % 2 = 1 → s % 2 = 1 := by
      intro h
      rw [← hq] at h
      exact (Nat.and_mod_two_eq_one.mp h).2
    have hy := Nat.and_div_two (a := p - 1) (b := s)
    by_cases hpo : p % 2 = 1
    · have e1 : (p - 1) / 2 = p / 2 := by omega
      rw [e1, hp2] at hy
      omega
    · have e1 : (p - 1) / 2 = p / 2 - 1 := by omega
      rw [e1] at hy
      have h1 := ih (s / 2) (p / 2) (q / 2) hs2 hp2 hq2 (by omega)
      have hm : q % 2 = 1 → ((p - 1) &&& s) % 2 = 1 := fun h => Nat.and_mod_two_eq_one.mpr ⟨by omega, hqb h⟩
      by_cases hqo : q % 2 = 1
      · have := hm hqo
        omega
      · omega
theorem xor_sub : ∀ (n s p : Nat), s < 2 ^ n → p &&& s = p → (s ^^^ p) + p = s := by
  intro n
  induction n with
  | zero =>
    intro s p hs hp
    have : s = 0 := by omega
    subst this
    rw [Nat.and_zero] at hp
    subst hp
    rfl
  | succ n ih =>
    intro s p hs hp
    have hs2 : s / 2 < 2 ^ n := by
      rw [Nat.pow_succ] at hs
      omega
    have hp2 : p / 2 &&& s / 2 = p / 2 := by rw [← Nat.and_div_two, hp]
    have h1 := ih (s / 2) (p / 2) hs2 hp2
    have hy := Nat.xor_div_two (a := s) (b := p)
    have hpb : p % 2 = 1 → s % 2 = 1 := by
      intro h
      rw [← hp] at h
      exact (Nat.and_mod_two_eq_one.mp h).2
    have hx := Nat.xor_mod_two_eq_one (a := s) (b := p)
    by_cases a : s % 2 = 1
    · by_cases b : p % 2 = 1
      · have : ¬ (s ^^^ p) % 2 = 1 := fun z => hx.mp z ⟨fun _ => b, fun _ => a⟩
        omega
      · have : (s ^^^ p) % 2 = 1 := hx.mpr (fun z => b (z.mp a))
        omega
    · have b : ¬ p % 2 = 1 := fun z => a (hpb z)
      have : ¬ (s ^^^ p) % 2 = 1 := fun z => hx.mp z ⟨fun z => absurd z a, fun z => absurd z b⟩
      omega
/-- a wire is in a set -/
def mk (s w : Int) : Prop := bitZ s w = 1
/-- a part of a set -/
def sub (s p : Int) : Prop := p.toNat &&& s.toNat = p.toNat
theorem mk_nat {s w : Int} (h : 0 ≤ s) (hw : 0 ≤ w) : mk s w ↔ s.toNat.testBit w.toNat = true := by
  obtain ⟨a, rfl⟩ := Int.eq_ofNat_of_zero_le h
  obtain ⟨i, rfl⟩ := Int.eq_ofNat_of_zero_le hw
  exact bit_nat
theorem sub_mk {s p w : Int} (h : sub s p) (hs : 0 ≤ s) (hp : 0 ≤ p) (hw : 0 ≤ w) (hm : mk p w) : mk s w := by
  rw [mk_nat hp hw] at hm
  rw [mk_nat hs hw]
  unfold sub at h
  rw [← h, Nat.testBit_and] at hm
  exact (Bool.and_eq_true _ _ ▸ hm).2
theorem sub_of {s p : Int} (hs : 0 ≤ s) (hp : 0 ≤ p ∧ p < 256) (h : ∀ w, 0 ≤ w → w < 8 → mk p w → mk s w) : sub s p := by
  unfold sub
  apply Nat.eq_of_testBit_eq
  intro i
  rw [Nat.testBit_and]
  by_cases hi : i < 8
  · have h1 := h (i : Int) (by omega) (by omega)
    rw [mk_nat hp.1 (by omega), mk_nat hs (by omega), Int.toNat_natCast] at h1
    cases hb : p.toNat.testBit i with
    | false => rfl
    | true => rw [h1 hb]; rfl
  · have : p.toNat.testBit i = false := Nat.testBit_lt_two_pow (Nat.lt_of_lt_of_le (show p.toNat < 2 ^ 8 by omega) (Nat.pow_le_pow_right (by decide) (by omega)))
    rw [this]
    rfl
theorem set_next {s p : Int} (hs : 0 ≤ s ∧ s < 256) (hp : 0 < p ∧ p < 256) (h : sub s p) : (0 ≤ zand (p - 1) s ∧ zand (p - 1) s < p) ∧ sub s (zand (p - 1) s) ∧ ∀ q, 0 ≤ q → sub s q → q < p → q ≤ zand (p - 1) s := by
  have e : zand (p - 1) s = (((p.toNat - 1) &&& s.toNat : Nat) : Int) := by
    have := zand_nat (a := p.toNat - 1) (b := s.toNat) (by omega) (by omega)
    rw [show ((p.toNat - 1 : Nat) : Int) = p - 1 by omega, show ((s.toNat : Nat) : Int) = s by omega] at this
    exact this
  have hle : (p.toNat - 1) &&& s.toNat ≤ p.toNat - 1 := Nat.and_le_left
  rw [e]
  refine ⟨⟨by omega, by omega⟩, ?_, fun q q1 q2 q3 => ?_⟩
  · unfold sub
    rw [Int.toNat_natCast, Nat.and_assoc, Nat.and_self]
  · have := sub_next 8 s.toNat p.toNat q.toNat (by omega) h q2 (by omega)
    omega
theorem set_less {s p : Int} (hs : 0 ≤ s ∧ s < 256) (hp : 0 < p ∧ p < 256) (h : sub s p) : (0 ≤ zxor s p ∧ zxor s p < s) ∧ ∀ w, 0 ≤ w → (mk (zxor s p) w ↔ mk s w ∧ ¬ mk p w) := by
  have e : zxor s p = ((s.toNat ^^^ p.toNat : Nat) : Int) := by
    have := zxor_nat (a := s.toNat) (b := p.toNat) (by omega) (by omega)
    rw [show ((s.toNat : Nat) : Int) = s by omega, show ((p.toNat : Nat) : Int) = p by omega] at this
    exact this
  have hx := xor_sub 8 s.toNat p.toNat (by omega) h
  refine ⟨by rw [e]; omega, fun w hw => ?_⟩
  have hsub := sub_mk h hs.1 (by omega) hw
  rw [mk_nat hs.1 hw, mk_nat (by omega) hw] at hsub
  rw [mk_nat (by rw [e]; omega) hw, mk_nat hs.1 hw, mk_nat (by omega) hw, e, Int.toNat_natCast, Nat.testBit_xor]
  cases ha : s.toNat.testBit w.toNat with
  | false =>
    cases hb : p.toNat.testBit w.toNat with
    | false => simp
    | true => rw [hsub hb] at ha; cases ha
  | true =>
    cases hb : p.toNat.testBit w.toNat with
    | false => simp
    | true => simp
theorem dbl_all : ∀ j : Fin 8, ∀ s : Fin 256, (s.val : Int) < 2 ^ j.val → ∀ w : Fin 8, bitZ (2 ^ j.val + (s.val : Int)) (w.val : Int) = (if w = j then 1 else bitZ (s.val : Int) (w.val : Int)) ∧ (j ≤ w → bitZ (s.val : Int) (w.val : Int) = 0) := by decide +kernel
theorem dbl {j s w : Int} (hj : 0 ≤ j ∧ j < 8) (hs : 0 ≤ s ∧ s < 2 ^ j.toNat) (hw : 0 ≤ w ∧ w < 8) : bitZ (2 ^ j.toNat + s) w = (if w = j then 1 else bitZ s w) ∧ (j ≤ w → bitZ s w = 0) := by
  obtain ⟨a, rfl⟩ := fin_of (n := 8) hj
  obtain ⟨c, rfl⟩ := fin_of (n := 8) hw
  have h256 : s < 256 := by
    have : (2 : Int) ^ ((a.val : Int)).toNat ≤ 256 := by
      have : ∀ x : Fin 8, (2 : Int) ^ ((x.val : Int)).toNat ≤ 256 := by decide
      exact this a
    omega
  obtain ⟨b, rfl⟩ := fin_of (n := 256) ⟨hs.1, h256⟩
  have hs2 := hs.2
  rw [Int.toNat_natCast] at hs2 ⊢
  obtain ⟨h1, h2⟩ := dbl_all a b hs2 c
  refine ⟨?_, fun h => h2 (by show a.val ≤ c.val; omega)⟩
  rw [h1]
  by_cases e : c = a
  · rw [if_pos e, if_pos (by rw [e])]
  · rw [if_neg e, if_neg (by intro h; exact e (Fin.ext (by omega)))]
theorem mask_ex {T : Int → Prop} {n : Int} (hn : 0 ≤ n ∧ n ≤ 8) : ∃ p, (0 ≤ p ∧ p < 2 ^ n.toNat) ∧ (∀ w, 0 ≤ w → w < n → (mk p w ↔ T w)) ∧ ∀ w, n ≤ w → w < 8 → ¬ mk p w := by
  refine indZ (P := fun n => n ≤ 8 → ∃ p, (0 ≤ p ∧ p < 2 ^ n.toNat) ∧ (∀ w, 0 ≤ w → w < n → (mk p w ↔ T w)) ∧ ∀ w, n ≤ w → w < 8 → ¬ mk p w) ?_ ?_ n hn.1 hn.2
  · intro _
    refine ⟨0, by decide, fun w a b => by omega, fun w _ _ z => ?_⟩
    unfold mk at z
    rw [bit00] at z
    exact absurd z (by decide)
  · intro k k1 ih hk
    obtain ⟨p, h1, h2, h3⟩ := ih (by omega)
    have e : (2 : Int) ^ (k + 1).toNat = 2 * 2 ^ k.toNat := by
      rw [show (k + 1).toNat = k.toNat + 1 by omega, Int.pow_succ]
      omega
    by_cases hT : T k
    · refine ⟨2 ^ k.toNat + p, by rw [e]; omega, fun w w1 w2 => ?_, fun w w1 w2 => ?_⟩
      · have := (dbl (j := k) (s := p) (w := w) (by omega) h1 (by omega)).1
        unfold mk
        rw [this]
        by_cases q : w = k
        · rw [if_pos q, q]
          exact ⟨fun _ => hT, fun _ => rfl⟩
        · rw [if_neg q]
          exact h2 w w1 (by omega)
      · have := (dbl (j := k) (s := p) (w := w) (by omega) h1 (by omega)).1
        unfold mk
        rw [this, if_neg (by omega)]
        exact h3 w (by omega) w2
    · refine ⟨p, by rw [e]; omega, fun w w1 w2 => ?_, fun w w1 w2 => h3 w (by omega) w2⟩
      by_cases q : w = k
      · rw [q]
        exact ⟨fun z => absurd z (h3 k (Int.le_refl _) (by omega)), fun z => absurd z hT⟩
      · exact h2 w w1 (by omega)
theorem full_all : ∀ n : Fin 9, ∀ w : Fin 8, bitZ (2 ^ n.val - 1) (w.val : Int) = if w.val < n.val then 1 else 0 := by decide +kernel
theorem full_mk {n w : Int} (hn : 0 ≤ n ∧ n ≤ 8) (hw : 0 ≤ w ∧ w < 8) : mk (2 ^ n.toNat - 1) w ↔ w < n := by
  obtain ⟨a, rfl⟩ := fin_of (n := 9) (x := n) (by omega)
  obtain ⟨c, rfl⟩ := fin_of (n := 8) hw
  unfold mk
  rw [Int.toNat_natCast, full_all a c]
  by_cases q : c.val < a.val
  · rw [if_pos q]
    exact ⟨fun _ => by omega, fun _ => rfl⟩
  · rw [if_neg q]
    exact ⟨fun z => absurd z (by decide), fun z => absurd z (by omega)⟩
end BTS
