/-! the layer over the integers: values J z, memory jm N -/
abbrev NM : Type := Nat → Int → Int
def J (x : Int) : Int32 := Int32.ofInt x
abbrev R (x : Int) : Prop := -2147483648 ≤ x ∧ x < 2147483648
def jf (f : Int → Int) : Nat → Int32 := fun i => J (f (i : Int))
def jm (N : NM) : Mem := fun a => jf (N a)
def upZ (N : NM) (a : Nat) (g : Int → Int) : NM := fun b => if b = a then g else N b
def updZ (f : Int → Int) (i v : Int) : Int → Int := fun j => if j = i then v else f j
theorem J_toInt (x : Int32) : J x.toInt = x := by unfold J; simp
theorem toInt_J {x : Int} (h : R x) : (J x).toInt = x := by
  unfold J
  rw [Int32.toInt_ofInt]
  have e : (Int32.size : Nat) = 4294967296 := rfl
  rw [e]
  exact Int.bmod_eq_of_le (by have := h.1; omega) (by have := h.2; omega)
theorem J_inj {x y : Int} (hx : R x) (hy : R y) (h : J x = J y) : x = y := by
  have := congrArg Int32.toInt h
  rwa [toInt_J hx, toInt_J hy] at this
theorem R_toInt (x : Int32) : R x.toInt := ⟨by have := Int32.le_toInt x; omega, by have := Int32.toInt_lt x; omega⟩
theorem Rb {x n : Int} (h : 0 ≤ x ∧ x < n) (hn : n ≤ 2147483648) : R x := ⟨by omega, by omega⟩
theorem add_J {a b : Int32} {x y : Int} (h1 : a = J x) (h2 : b = J y) : a + b = J (x + y) := by
  subst h1; subst h2; unfold J; exact (Int32.ofInt_add _ _).symm
theorem mul_J {a b : Int32} {x y : Int} (h1 : a = J x) (h2 : b = J y) : a * b = J (x * y) := by
  subst h1; subst h2; unfold J; exact (Int32.ofInt_mul _ _).symm
theorem neg_J {a : Int32} {x : Int} (h1 : a = J x) : -a = J (-x) := by
  subst h1; unfold J; exact (Int32.ofInt_neg _).symm
theorem sub_J {a b : Int32} {x y : Int} (h1 : a = J x) (h2 : b = J y) : a - b = J (x - y) := by
  subst h1; subst h2; unfold J; exact (Int32.ofInt_sub _ _).symm
theorem lt_J {a b : Int32} {x y : Int} (h1 : a = J x) (h2 : b = J y) (hx : R x) (hy : R y) : a < b ↔ x < y := by
  subst h1; subst h2; rw [Int32.lt_iff_toInt_lt, toInt_J hx, toInt_J hy]
theorem le_J {a b : Int32} {x y : Int} (h1 : a = J x) (h2 : b = J y) (hx : R x) (hy : R y) : a ≤ b ↔ x ≤ y := by
  subst h1; subst h2; rw [Int32.le_iff_toInt_le, toInt_J hx, toInt_J hy]
theorem eq_J {a b : Int32} {x y : Int} (h1 : a = J x) (h2 : b = J y) (hx : R x) (hy : R y) : a = b ↔ x = y := by
  subst h1; subst h2; exact ⟨J_inj hx hy, fun h => by rw [h]⟩
theorem div_J {a b : Int32} {x y : Int} (h1 : a = J x) (h2 : b = J y) (hx : R x) (hy : R y) (hp : 0 < y) : a / b = J (Int.tdiv x y) := by
  subst h1; subst h2
  rw [← J_toInt (J x / J y), Int32.toInt_div_of_ne_right (J x) (J y), toInt_J hx, toInt_J hy]
  intro h
  have := congrArg Int32.toInt h
  rw [toInt_J hy] at this
  have h2 : (-1 : Int32).toInt = -1 := by decide
  omega
theorem rem_J {a b : Int32} {x y : Int} (h1 : a = J x) (h2 : b = J y) (hx : R x) (hy : R y) (hp : 0 < y) : a - a / b * b = J (Int.tmod x y) := by
  rw [sub_J h1 (mul_J (div_J h1 h2 hx hy hp) h2)]
  congr 1
  have := Int.tmod_add_tdiv_mul x y
  omega
theorem opq_J {a b : Int32} (h : a = b) : a = J b.toInt := by rw [J_toInt]; exact h
def zand (x y : Int) : Int := (J x &&& J y).toInt
def zor (x y : Int) : Int := (J x ||| J y).toInt
def zxor (x y : Int) : Int := (J x ^^^ J y).toInt
def zshl (x y : Int) : Int := (J x <<< (J y &&& 31)).toInt
def zshr (x y : Int) : Int := (J x >>> (J y &&& 31)).toInt
theorem zand_J {a b : Int32} {x y : Int} (h1 : a = J x) (h2 : b = J y) : a &&& b = J (zand x y) := by subst h1; subst h2; unfold zand; rw [J_toInt]
theorem zor_J {a b : Int32} {x y : Int} (h1 : a = J x) (h2 : b = J y) : a ||| b = J (zor x y) := by subst h1; subst h2; unfold zor; rw [J_toInt]
theorem zxor_J {a b : Int32} {x y : Int} (h1 : a = J x) (h2 : b = J y) : a ^^^ b = J (zxor x y) := by subst h1; subst h2; unfold zxor; rw [J_toInt]
theorem zshl_J {a b : Int32} {x y : Int} (h1 : a = J x) (h2 : b = J y) : a <<< (b &&& 31) = J (zshl x y) := by subst h1; subst h2; unfold zshl; rw [J_toInt]
theorem zshr_J {a b : Int32} {x y : Int} (h1 : a = J x) (h2 : b = J y) : a >>> (b &&& 31) = J (zshr x y) := by subst h1; subst h2; unfold zshr; rw [J_toInt]
theorem and1_J {a : Int32} {x : Int} (h : a = J x) (hx : x = 0 ∨ x = 1) : a &&& 1 = J x := by
  subst h
  rcases hx with h | h <;> subst h <;> decide
theorem bb_J {a : Int32} {x : Int} (h : a = J x) (hx : x = 0 ∨ x = 1) : a &&& 1 = a := (and1_J h hx).trans h.symm
theorem nz_J {a : Int32} {x : Int} (h : a = J x) (hx : R x) (hp : 0 < x) : ¬ a = 0 := by
  intro h0
  have := (eq_J (y := 0) h (by decide : (0 : Int32) = J 0) hx (by decide)).mp h0
  omega
theorem clamp_J {a : Int32} {x : Int} (h : a = J x) (hx : R x) : a.toNatClampNeg = x.toNat := by
  subst h
  show (J x).toInt.toNat = _
  rw [toInt_J hx]
theorem inb_J {a : Int32} {x : Int} {n : Nat} (h : a = J x) (hb : 0 ≤ x ∧ x < (n : Int)) (hn : (n : Int) ≤ 2147483648) : inb a n := by
  have hR := Rb hb hn
  unfold inb
  rw [clamp_J h hR, lt_J h (by decide : (0 : Int32) = J 0) hR (by decide)]
  omega
theorem fld_J {f : Nat → Int32} {g : Int → Int} {k : Nat} (h : f = jf g) : f k = J (g (k : Int)) := by rw [h]; rfl
theorem rd_J {f : Nat → Int32} {g : Int → Int} {a : Int32} {x : Int} {n : Int} (h : f = jf g) (ha : a = J x) (hb : 0 ≤ x ∧ x < n) (hn : n ≤ 2147483648) : f a.toNatClampNeg = J (g x) := by
  rw [h, clamp_J ha (Rb hb hn)]
  show J (g ((x.toNat : Nat) : Int)) = _
  rw [Int.toNat_of_nonneg hb.1]
def rz (E : gw_N) (ad : Nat) (i : Int) : Int := ((gw_rcL E.1.1 E.1.2 ad).2 i.toNat).toInt
theorem rc_J {E : gw_N} {ad : Nat} {a : Int32} {x : Int} {n : Int} (ha : a = J x) (hb : 0 ≤ x ∧ x < n) (hn : n ≤ 2147483648) : (gw_rcL E.1.1 E.1.2 ad).2 a.toNatClampNeg = J (rz E ad x) := by
  unfold rz
  rw [J_toInt, clamp_J ha (Rb hb hn)]
theorem jf_base (N : NM) (a : Nat) : jm N a = jf (N a) := rfl
theorem jf_upd {f : Nat → Int32} {g : Int → Int} {a b : Int32} {x y n : Int} (h : f = jf g) (ha : a = J x) (hb : 0 ≤ x ∧ x < n) (hn : n ≤ 2147483648) (hv : b = J y) : upd f a.toNatClampNeg b = jf (updZ g x y) := by
  rw [h, hv, clamp_J ha (Rb hb hn)]
  funext i
  unfold upd jf updZ
  by_cases e : i = x.toNat
  · rw [if_pos e, if_pos (by omega)]
  · rw [if_neg e, if_neg (by omega)]
theorem jf_updk {f : Nat → Int32} {g : Int → Int} {k : Nat} {b : Int32} {y : Int} (h : f = jf g) (hv : b = J y) : upd f k b = jf (updZ g (k : Int) y) := by
  rw [h, hv]
  funext i
  unfold upd jf updZ
  by_cases e : i = k
  · rw [if_pos e, if_pos (by omega)]
  · rw [if_neg e, if_neg (by omega)]
theorem jm_up {M : Mem} {N : NM} {a : Nat} {f : Nat → Int32} {g : Int → Int} (h : M = jm N) (hf : f = jf g) : up M a f = jm (upZ N a g) := by
  rw [h, hf]
  funext q
  unfold up jm upZ
  split <;> rfl
theorem jof (n : Nat) : Int32.ofNat n = J (n : Int) := Int32.ofInt_eq_ofNat.symm
theorem cg2 {α β γ : Type} (f : α → β → γ) {a a' : α} {b b' : β} (h1 : a = a') (h2 : b = b') : f a b = f a' b' := by rw [h1, h2]
def lushrZ (a : Int64) (b : Int32) : Int64 := (a.toUInt64 >>> (b.toInt64.toUInt64 &&& Int64.toUInt64 63)).toInt64
theorem ite_J {c d : Prop} [Decidable c] [Decidable d] {a b : Int32} {x y : Int} (h : c ↔ d) (h1 : c → a = J x) (h2 : ¬ c → b = J y) : (if c then a else b) = J (if d then x else y) := by
  by_cases hc : c
  · rw [if_pos hc, if_pos (h.mp hc)]; exact h1 hc
  · rw [if_neg hc, if_neg (fun hd => hc (h.mpr hd))]; exact h2 hc
theorem ite_JL {c d : Prop} [Decidable c] [Decidable d] {a b : Int64} {x y : Int64} (h : c ↔ d) (h1 : c → a = x) (h2 : ¬ c → b = y) : (if c then a else b) = (if d then x else y) := by
  by_cases hc : c
  · rw [if_pos hc, if_pos (h.mp hc)]; exact h1 hc
  · rw [if_neg hc, if_neg (fun hd => hc (h.mpr hd))]; exact h2 hc
theorem cli {a b : Int32} {L L' : gw_L} (h : a = b) (hL : L = L') : (some (Value.int a) :: L : gw_L) = some (Value.int b) :: L' := by rw [h, hL]
theorem cll {a b : Int64} {L L' : gw_L} (h : a = b) (hL : L = L') : (some (Value.long a) :: L : gw_L) = some (Value.long b) :: L' := by rw [h, hL]
theorem clx {α : Type} {x : α} {L L' : List α} (hL : L = L') : x :: L = x :: L' := by rw [hL]
theorem cai {a b : Int32} {L L' : List Value} (h : a = b) (hL : L = L') : Value.int a :: L = Value.int b :: L' := by rw [h, hL]
theorem cal {a b : Int64} {L L' : List Value} (h : a = b) (hL : L = L') : Value.long a :: L = Value.long b :: L' := by rw [h, hL]
theorem Ev_to {b m pc : Nat} {L L' : gw_L} {st st' : List Value} {E : gw_N} {M M' : Mem} {res : Option Value × gw_H} (h1 : L = L') (h2 : st = st') (h3 : M = M') (H : Ev b m pc L' st' (hs E M') res) : Ev b m pc L st (hs E M) res := by
  subst h1; subst h2; subst h3; exact H
theorem Rn_to {m : Nat} {a a' : List Value} {E : gw_N} {M M' M1 M1' : Mem} {r : Option Value} (h1 : a = a') (h2 : M = M') (h3 : M1 = M1') (H : Rn m a' (hs E M') r (hs E M1')) : Rn m a (hs E M) r (hs E M1) := by
  subst h1; subst h2; subst h3; exact H
theorem rt_n {E : gw_N} {M M' : Mem} (h : M = M') : ((none, hs E M') : Option Value × gw_H) = (none, hs E M) := by rw [h]
theorem rt_i {E : gw_N} {M M' : Mem} {a b : Int32} (h1 : a = b) (h : M = M') : ((some (.int b), hs E M') : Option Value × gw_H) = (some (.int a), hs E M) := by rw [h, h1]
theorem rt_l {E : gw_N} {M M' : Mem} {a b : Int64} (h1 : a = b) (h : M = M') : ((some (.long b), hs E M') : Option Value × gw_H) = (some (.long a), hs E M) := by rw [h, h1]
theorem toInt64_le {x y : Int} (hx : R x) (hy : R y) : (Int32.toInt64 (J x)) ≤ Int32.toInt64 (J y) ↔ x ≤ y := by
  rw [Int64.le_iff_toInt_le, Int32.toInt_toInt64, Int32.toInt_toInt64, toInt_J hx, toInt_J hy]
theorem lg_cmp_lt0 (x y : Int64) : (lg_cmp x y).toInt < 0 ↔ ¬ y ≤ x := by
  unfold lg_cmp
  have h1 : (1 : Int32).toInt = 1 := by decide
  have h0 : (0 : Int32).toInt = 0 := by decide
  have hm : (-1 : Int32).toInt = -1 := by decide
  by_cases a : x > y
  · have a' := Int64.lt_iff_toInt_lt.mp a
    rw [if_pos a, h1, Int64.le_iff_toInt_le]; omega
  · have a' := mt Int64.lt_iff_toInt_lt.mpr a
    rw [if_neg a, Int64.le_iff_toInt_le]
    by_cases b : x = y
    · subst b
      rw [if_pos rfl, h0]; omega
    · rw [if_neg b, hm]
      have : ¬ x.toInt = y.toInt := fun h => b (Int64.toInt_inj.mp h)
      omega
theorem lg_cmp_gt0 (x y : Int64) : 0 < (lg_cmp x y).toInt ↔ ¬ x ≤ y := by
  unfold lg_cmp
  have h1 : (1 : Int32).toInt = 1 := by decide
  have h0 : (0 : Int32).toInt = 0 := by decide
  have hm : (-1 : Int32).toInt = -1 := by decide
  by_cases a : x > y
  · have a' := Int64.lt_iff_toInt_lt.mp a
    rw [if_pos a, h1, Int64.le_iff_toInt_le]; omega
  · have a' := mt Int64.lt_iff_toInt_lt.mpr a
    rw [if_neg a, Int64.le_iff_toInt_le]
    by_cases b : x = y
    · subst b
      rw [if_pos rfl, h0]; omega
    · rw [if_neg b, hm]
      omega
theorem in_J {M : Mem} {e0 e1 e2 : Int64} {x a b : Int} (h0 : e0 = Int32.toInt64 (J x)) (h1 : e1 = Int32.toInt64 (J a)) (h2 : e2 = Int32.toInt64 (J b)) (hx : R x) (ha : R a) (hb : R b) : F209 M e0 e1 e2 = J (if a ≤ x ∧ x ≤ b then (1 : Int) else 0) := by
  subst h0; subst h1; subst h2
  unfold F209
  have k0 : (0 : Int32) = J 0 := by decide
  have k1 : (1 : Int32) = J 1 := by decide
  have e1 : (lg_cmp (Int32.toInt64 (J x)) (Int32.toInt64 (J a)) < 0) ↔ ¬ a ≤ x := by
    rw [lt_J (J_toInt _).symm k0 (R_toInt _) (by decide), lg_cmp_lt0, toInt64_le ha hx]
  have e2 : (0 < lg_cmp (Int32.toInt64 (J x)) (Int32.toInt64 (J b))) ↔ ¬ x ≤ b := by
    rw [lt_J k0 (J_toInt _).symm (by decide) (R_toInt _), lg_cmp_gt0, toInt64_le hx hb]
  by_cases c1 : a ≤ x
  · rw [if_neg (fun h => e1.mp h c1)]
    by_cases c2 : x ≤ b
    · rw [if_neg (fun h => e2.mp h c2), if_pos ⟨c1, c2⟩]; exact k1
    · rw [if_pos (e2.mpr c2), if_neg (fun h => c2 h.2)]; exact k0
  · rw [if_pos (e1.mpr c1), if_neg (fun h => c1 h.1)]; exact k0
theorem R_in {c : Prop} [Decidable c] : R (if c then (1 : Int) else 0) := by split <;> decide
theorem jl_m1000001 : ((-1000001) : Int32) = J (-1000001) := by decide +kernel
theorem jl_m104 : ((-104) : Int32) = J (-104) := by decide +kernel
theorem jl_m103 : ((-103) : Int32) = J (-103) := by decide +kernel
theorem jl_m102 : ((-102) : Int32) = J (-102) := by decide +kernel
theorem jl_m101 : ((-101) : Int32) = J (-101) := by decide +kernel
theorem jl_m1 : ((-1) : Int32) = J (-1) := by decide +kernel
theorem jl_0 : (0 : Int32) = J 0 := by decide +kernel
theorem jl_1 : (1 : Int32) = J 1 := by decide +kernel
theorem jl_2 : (2 : Int32) = J 2 := by decide +kernel
theorem jl_3 : (3 : Int32) = J 3 := by decide +kernel
theorem jl_4 : (4 : Int32) = J 4 := by decide +kernel
theorem jl_5 : (5 : Int32) = J 5 := by decide +kernel
theorem jl_6 : (6 : Int32) = J 6 := by decide +kernel
theorem jl_7 : (7 : Int32) = J 7 := by decide +kernel
theorem jl_8 : (8 : Int32) = J 8 := by decide +kernel
theorem jl_9 : (9 : Int32) = J 9 := by decide +kernel
theorem jl_10 : (10 : Int32) = J 10 := by decide +kernel
theorem jl_12 : (12 : Int32) = J 12 := by decide +kernel
theorem jl_20 : (20 : Int32) = J 20 := by decide +kernel
theorem jl_24 : (24 : Int32) = J 24 := by decide +kernel
theorem jl_25 : (25 : Int32) = J 25 := by decide +kernel
theorem jl_30 : (30 : Int32) = J 30 := by decide +kernel
theorem jl_40 : (40 : Int32) = J 40 := by decide +kernel
theorem jl_50 : (50 : Int32) = J 50 := by decide +kernel
theorem jl_64 : (64 : Int32) = J 64 := by decide +kernel
theorem jl_81 : (81 : Int32) = J 81 := by decide +kernel
theorem jl_89 : (89 : Int32) = J 89 := by decide +kernel
theorem jl_99 : (99 : Int32) = J 99 := by decide +kernel
theorem jl_100 : (100 : Int32) = J 100 := by decide +kernel
theorem jl_108 : (108 : Int32) = J 108 := by decide +kernel
theorem jl_114 : (114 : Int32) = J 114 := by decide +kernel
theorem jl_117 : (117 : Int32) = J 117 := by decide +kernel
theorem jl_126 : (126 : Int32) = J 126 := by decide +kernel
theorem jl_162 : (162 : Int32) = J 162 := by decide +kernel
theorem jl_178 : (178 : Int32) = J 178 := by decide +kernel
theorem jl_255 : (255 : Int32) = J 255 := by decide +kernel
theorem jl_256 : (256 : Int32) = J 256 := by decide +kernel
theorem jl_999 : (999 : Int32) = J 999 := by decide +kernel
theorem jl_1000 : (1000 : Int32) = J 1000 := by decide +kernel
theorem jl_1000000 : (1000000 : Int32) = J 1000000 := by decide +kernel
theorem ll_m1000001 : ((-1000001) : Int64) = Int32.toInt64 (J (-1000001)) := by decide +kernel
theorem ll_m104 : ((-104) : Int64) = Int32.toInt64 (J (-104)) := by decide +kernel
theorem ll_m103 : ((-103) : Int64) = Int32.toInt64 (J (-103)) := by decide +kernel
theorem ll_m102 : ((-102) : Int64) = Int32.toInt64 (J (-102)) := by decide +kernel
theorem ll_m101 : ((-101) : Int64) = Int32.toInt64 (J (-101)) := by decide +kernel
theorem ll_m1 : ((-1) : Int64) = Int32.toInt64 (J (-1)) := by decide +kernel
theorem ll_0 : (0 : Int64) = Int32.toInt64 (J 0) := by decide +kernel
theorem ll_1 : (1 : Int64) = Int32.toInt64 (J 1) := by decide +kernel
theorem ll_2 : (2 : Int64) = Int32.toInt64 (J 2) := by decide +kernel
theorem ll_3 : (3 : Int64) = Int32.toInt64 (J 3) := by decide +kernel
theorem ll_4 : (4 : Int64) = Int32.toInt64 (J 4) := by decide +kernel
theorem ll_5 : (5 : Int64) = Int32.toInt64 (J 5) := by decide +kernel
theorem ll_6 : (6 : Int64) = Int32.toInt64 (J 6) := by decide +kernel
theorem ll_7 : (7 : Int64) = Int32.toInt64 (J 7) := by decide +kernel
theorem ll_8 : (8 : Int64) = Int32.toInt64 (J 8) := by decide +kernel
theorem ll_9 : (9 : Int64) = Int32.toInt64 (J 9) := by decide +kernel
theorem ll_10 : (10 : Int64) = Int32.toInt64 (J 10) := by decide +kernel
theorem ll_12 : (12 : Int64) = Int32.toInt64 (J 12) := by decide +kernel
theorem ll_20 : (20 : Int64) = Int32.toInt64 (J 20) := by decide +kernel
theorem ll_24 : (24 : Int64) = Int32.toInt64 (J 24) := by decide +kernel
theorem ll_25 : (25 : Int64) = Int32.toInt64 (J 25) := by decide +kernel
theorem ll_30 : (30 : Int64) = Int32.toInt64 (J 30) := by decide +kernel
theorem ll_40 : (40 : Int64) = Int32.toInt64 (J 40) := by decide +kernel
theorem ll_50 : (50 : Int64) = Int32.toInt64 (J 50) := by decide +kernel
theorem ll_64 : (64 : Int64) = Int32.toInt64 (J 64) := by decide +kernel
theorem ll_81 : (81 : Int64) = Int32.toInt64 (J 81) := by decide +kernel
theorem ll_89 : (89 : Int64) = Int32.toInt64 (J 89) := by decide +kernel
theorem ll_99 : (99 : Int64) = Int32.toInt64 (J 99) := by decide +kernel
theorem ll_100 : (100 : Int64) = Int32.toInt64 (J 100) := by decide +kernel
theorem ll_108 : (108 : Int64) = Int32.toInt64 (J 108) := by decide +kernel
theorem ll_114 : (114 : Int64) = Int32.toInt64 (J 114) := by decide +kernel
theorem ll_117 : (117 : Int64) = Int32.toInt64 (J 117) := by decide +kernel
theorem ll_126 : (126 : Int64) = Int32.toInt64 (J 126) := by decide +kernel
theorem ll_162 : (162 : Int64) = Int32.toInt64 (J 162) := by decide +kernel
theorem ll_178 : (178 : Int64) = Int32.toInt64 (J 178) := by decide +kernel
theorem ll_255 : (255 : Int64) = Int32.toInt64 (J 255) := by decide +kernel
theorem ll_256 : (256 : Int64) = Int32.toInt64 (J 256) := by decide +kernel
theorem ll_999 : (999 : Int64) = Int32.toInt64 (J 999) := by decide +kernel
theorem ll_1000 : (1000 : Int64) = Int32.toInt64 (J 1000) := by decide +kernel
theorem ll_1000000 : (1000000 : Int64) = Int32.toInt64 (J 1000000) := by decide +kernel
