/-! letters: bytes of a long -/
section LET
variable {E : gw_N} {N : NM} {P : Pic}
def byt (w : Int64) (k : Int) : Int := (Int64.toInt32 ((lushrZ w (J (8 * k))) &&& 255)).toInt
theorem byt_bd {x : Int64} : 0 ≤ (Int64.toInt32 (x &&& 255)).toInt ∧ (Int64.toInt32 (x &&& 255)).toInt ≤ 255 := by
  have h1 : (x &&& 255).toBitVec.toNat = x.toBitVec.toNat % 256 := by
    show (x.toBitVec &&& (255 : Int64).toBitVec).toNat = _
    rw [BitVec.toNat_and]
    exact Nat.and_two_pow_sub_one_eq_mod x.toBitVec.toNat 8
  have h2 : (Int64.toInt32 (x &&& 255)).toBitVec.toNat = x.toBitVec.toNat % 256 := by
    show ((x &&& 255).toBitVec.signExtend 32).toNat = _
    rw [BitVec.signExtend_eq_setWidth_of_le _ (by decide), BitVec.toNat_setWidth, h1]
    omega
  have h3 : (Int64.toInt32 (x &&& 255)).toInt = ((x.toBitVec.toNat % 256 : Nat) : Int) := by
    show (Int64.toInt32 (x &&& 255)).toBitVec.toInt = _
    rw [BitVec.toInt_eq_toNat_of_lt (by rw [h2]; omega), h2]
  omega
theorem lsh_0 {w : Int64} : lushrZ w (J 0) = w := by
  unfold lushrZ
  have : ((J 0).toInt64.toUInt64 &&& Int64.toUInt64 63) = 0 := by decide
  rw [this]
  simp
theorem lsh_k : ∀ k : Fin 8, ((J (8 * (k.val : Int))).toInt64.toUInt64 &&& Int64.toUInt64 63).toNat = 8 * k.val := by decide +kernel
theorem lsh_8 : ((J 8).toInt64.toUInt64 &&& Int64.toUInt64 63).toNat = 8 := by decide +kernel
theorem lsh_next {w : Int64} {k : Int} (hk : 0 ≤ k ∧ k < 7) : lushrZ (lushrZ w (J (8 * k))) (J 8) = lushrZ w (J (8 * (k + 1))) := by
  obtain ⟨i, rfl⟩ := fin_of (n := 7) hk
  have e1 := lsh_k ⟨i.val, by omega⟩
  have e2 := lsh_k ⟨i.val + 1, by omega⟩
  have e3 : (((i.val + 1 : Nat) : Int)) = (i.val : Int) + 1 := by omega
  simp only [e3] at e2
  unfold lushrZ
  have hi : i.val < 7 := i.isLt
  have key : ((w.toUInt64 >>> ((J (8 * (i.val : Int))).toInt64.toUInt64 &&& Int64.toUInt64 63)).toInt64.toUInt64 >>> ((J 8).toInt64.toUInt64 &&& Int64.toUInt64 63)) = w.toUInt64 >>> ((J (8 * ((i.val : Int) + 1))).toInt64.toUInt64 &&& Int64.toUInt64 63) := by
    apply UInt64.toNat_inj.mp
    rw [UInt64.toUInt64_toInt64, UInt64.toNat_shiftRight, UInt64.toNat_shiftRight, UInt64.toNat_shiftRight, lsh_8, e1, e2, ← Nat.shiftRight_add]
    congr 1
    show 8 * i.val % 64 + 8 % 64 = 8 * (i.val + 1) % 64
    omega
  rw [key]
noncomputable def lmZ (w : Int64) (k : Int) : Int := sumZ k (fun j => bZ (0 < byt w j))
def lgZ (w : Int64) (k : Int) : Prop := ∀ j, 0 ≤ j → j < k → byt w j ≤ 126 ∧ (byt w j = 0 ∨ lmZ w j = j)
theorem byt_R {w : Int64} {k : Int} : 0 ≤ byt w k ∧ byt w k ≤ 255 := byt_bd
theorem lm_bd {w : Int64} {k : Int} (hk : 0 ≤ k) : 0 ≤ lmZ w k ∧ lmZ w k ≤ k := by
  have := sumZ_bd (g := fun j => bZ (0 < byt w j)) (n := k) (c := 1) (fun _ _ _ => bZ_bd) hk
  unfold lmZ
  omega
theorem lm_succ {w : Int64} {k : Int} (hk : 0 ≤ k) : lmZ w (k + 1) = lmZ w k + bZ (0 < byt w k) := sumZ_succ hk
theorem lg_succ {w : Int64} {k : Int} (hk : 0 ≤ k) : lgZ w (k + 1) ↔ lgZ w k ∧ (byt w k ≤ 126 ∧ (byt w k = 0 ∨ lmZ w k = k)) := allZ_succ (p := fun j => byt w j ≤ 126 ∧ (byt w j = 0 ∨ lmZ w j = j)) hk
noncomputable def letR (w : Int64) : Int := @ite Int (lgZ w 8) (Classical.propDecidable _) (lmZ w 8) (-1)
theorem sp81 {w : Int64} : Rn 81 [.long w] (hs E (jm N)) (some (.int (J (letR w)))) (hs E (jm N)) := by
  refine c81 (v81_0 ?_)
  refine loopZ (a := 0) (n := 8) (Q := fun k => lgZ w k → Ev 2 81 4 [some (.long w), none, some (.int (J (lmZ w k))), some (.int (J k)), none] [] (hs E (jm N)) (_, _)) (by decide) ?_ ?_ (fun j h1 h2 => absurd h2 (by omega))
  · intro h
    refine v81_4 ?_
    rw [show letR w = lmZ w 8 from if_pos h]
    exact ⟨by decide, fun _ => rfl, fun z => absurd (Int.le_refl _) z⟩
  · intro k k1 k2 ih h
    have hb := byt_R (w := w) (k := k)
    have hm := lm_bd (w := w) k1
    have e82 : G82 N w k = byt w k := rfl
    refine v81_4 ?_
    rw [e82]
    have bad : ¬ (byt w k ≤ 126 ∧ (byt w k = 0 ∨ lmZ w k = k)) → letR w = -1 := fun q => if_neg (fun z => q (z k k1 (by omega)))
    have go0 : byt w k = 0 → Ev 2 81 4 [some (.long w), none, some (.int (J (lmZ w k))), some (.int (J (k + 1))), none] [] (hs E (jm N)) (some (.int (J (letR w))), (hs E (jm N))) := by
      intro q
      have hn := ih ((lg_succ k1).mpr ⟨h, by omega, Or.inl q⟩)
      rw [lm_succ k1, bZ_f (show ¬ 0 < byt w k by omega), Int.add_zero] at hn
      exact hn
    have go1 : ¬ byt w k = 0 → byt w k ≤ 126 → lmZ w k = k → Ev 2 81 4 [some (.long w), none, some (.int (J (lmZ w k + 1))), some (.int (J (k + 1))), none] [] (hs E (jm N)) (some (.int (J (letR w))), (hs E (jm N))) := by
      intro q q2 q3
      have hn := ih ((lg_succ k1).mpr ⟨h, q2, Or.inr q3⟩)
      rw [lm_succ k1, bZ_t (show 0 < byt w k by omega)] at hn
      exact hn
    refine ⟨by omega, fun z => absurd z (by omega), fun _ => ⟨by omega, fun z => ?_, fun z => ⟨fun a => ⟨fun _ => go0 a, fun b => absurd a b⟩, fun a => ⟨by omega, fun b => ⟨fun c => absurd c a, fun _ => go1 a (by omega) (by omega)⟩, fun b => ?_⟩⟩⟩⟩
    · rw [bad (by omega)]
    · rw [bad (by omega)]
end LET
