/-! the memory: every cell's ints, by its number; the cells' forms are fixed -/
abbrev Mem : Type := Nat → Nat → Int32
abbrev gw_N : Type := (Nat × (Nat → Int32)) × Nat × Nat
abbrev gw_D : Type := (Nat × Nat) ⊕ (Nat × List (Option Nat))
def gw_shL : List gw_D := [.inl (0, 0), .inl (0, 0), .inl (0, 0), .inl (0, 0), .inl (0, 0), .inl (0, 0), .inl (0, 0), .inl (0, 0), .inr (11, [some 9, some 12, some 14, some 22, some 32, some 36, some 40, some 44, some 50, some 53, some 54]), .inr (2, [some 10, some 11, none, none]), .inl (0, 64), .inl (0, 64), .inr (4, [some 13, none]), .inl (0, 40), .inr (10, [some 15, some 16, some 17, some 18, some 19, some 20, some 21, none]), .inl (1, 30), .inl (1, 30), .inl (0, 30), .inl (0, 30), .inl (0, 30), .inl (0, 750), .inl (0, 720), .inr (3, [some 9, some 14, some 23, some 24, some 25, some 26, some 27, some 28, some 29, some 30, some 31]), .inl (0, 178), .inl (0, 178), .inl (0, 89), .inl (0, 178), .inl (0, 89), .inl (0, 30), .inl (0, 89), .inl (0, 89), .inl (0, 89), .inr (0, [some 9, some 22, some 33, some 34, some 35, none]), .inl (0, 64), .inl (0, 64), .inl (0, 64), .inr (5, [some 9, some 32, some 37, some 38, some 39]), .inl (0, 64), .inl (0, 10), .inl (0, 10), .inr (6, [some 41, some 42, some 43]), .inl (0, 24), .inl (0, 8), .inl (0, 3), .inr (1, [some 9, some 22, some 32, some 40, some 45, some 46, some 47, some 48, some 49, none]), .inl (0, 64), .inl (0, 768), .inl (0, 768), .inl (0, 768), .inl (0, 64), .inr (7, [some 40, some 51, some 52, none]), .inl (0, 8), .inl (0, 8), .inr (9, [some 9, some 40, some 44, none, none]), .inr (8, [some 55, some 56, some 57, some 58, none]), .inl (0, 8), .inl (0, 8), .inl (0, 256), .inl (0, 256), .inr (12, [none, none, some 60, none, none, some 61, some 62, some 63, some 64, some 65, some 66, some 67, some 68, some 69, some 70, none, some 71, some 72, some 73, some 74, some 75, some 76, none, none, none, some 77, some 78, some 79, some 80, none, some 81, some 82, some 83, none, none, none, none, some 84, some 85, some 86, none, some 87, some 88, some 89]), .inl (0, 40), .inl (0, 750), .inl (0, 750), .inl (0, 30), .inl (1, 30), .inl (1, 30), .inl (1, 30), .inl (0, 162), .inl (0, 81), .inl (0, 64), .inl (0, 64), .inl (1, 100), .inl (0, 10), .inl (0, 8), .inl (0, 8), .inl (0, 8), .inl (1, 64), .inl (0, 64), .inl (0, 768), .inl (0, 768), .inl (0, 768), .inl (0, 64), .inl (1, 64), .inl (0, 900), .inl (0, 8), .inl (0, 8), .inl (0, 8), .inl (0, 8), .inl (0, 8), .inl (0, 8)]
def gw_fv (f : Nat → Int32) : Nat → List (Option Nat) → List Value
  | _, [] => []
  | k, some t :: r => .ref t :: gw_fv f (k + 1) r
  | k, none :: r => .int (f k) :: gw_fv f (k + 1) r
def hpc (a : Nat) (f : Nat → Int32) : gw_C := match gw_shL[a]? with
  | some (.inl q) => .inl (q.1, q.2, f)
  | some (.inr q) => .inr (q.1, gw_fv f 0 q.2)
  | none => .inl (0, 0, f)
def hs (E : gw_N) (M : Mem) : gw_H := (fun a => if a < 8 then .inl (0, gw_rcL E.1.1 E.1.2 a) else hpc a (M a), E.2.1, E.2.2)
def up (M : Mem) (a : Nat) (g : Nat → Int32) : Mem := fun b => if b = a then g else M b
def inb (i : Int32) (n : Nat) : Prop := ¬ (i < 0 ∨ n ≤ i.toNatClampNeg)
theorem hs_set {E : gw_N} {M : Mem} {a : Nat} {g : Nat → Int32} (ha : 8 ≤ a) : gw_set (hs E M) a (hpc a g) = hs E (up M a g) := by
  unfold gw_set hs
  refine Prod.ext ?_ rfl
  funext q
  show (if q = a then hpc a g else (if q < 8 then _ else hpc q (M q))) = (if q < 8 then _ else hpc q (if q = a then g else M q))
  by_cases h : q = a
  · subst h
    rw [if_pos rfl, if_neg (by omega), if_pos rfl]
  · rw [if_neg h, if_neg h]
def gw_leb : gw_L → gw_L → Prop
  | [], [] => True
  | none :: a, _ :: b => gw_leb a b
  | some v :: a, w :: b => w = some v ∧ gw_leb a b
  | _, _ => False
theorem gw_leb_le {a : gw_L} : ∀ {b : gw_L}, gw_leb a b → gw_le a b := by
  induction a with
  | nil =>
    intro b h
    cases b with
    | nil => exact ⟨rfl, fun i v h => by cases h⟩
    | cons x y => exact h.elim
  | cons x a ih =>
    intro b h
    cases b with
    | nil => cases x <;> exact h.elim
    | cons y b =>
      cases x with
      | none =>
        obtain ⟨q1, q2⟩ := ih (b := b) h
        refine ⟨by simp [q1], fun i v hv => ?_⟩
        match i with
        | 0 => cases hv
        | i + 1 => exact q2 i v hv
      | some w =>
        obtain ⟨h1, h2⟩ := h
        obtain ⟨q1, q2⟩ := ih (b := b) h2
        refine ⟨by simp [q1], fun i v hv => ?_⟩
        match i with
        | 0 => cases hv; rw [h1]; rfl
        | i + 1 => exact q2 i v hv
section EVM
variable {b m pc : Nat} {L : gw_L} {st : List Value} {h : gw_H} {res : Option Value × gw_H} {E : gw_N} {M : Mem}
theorem Ev_ite {c : Prop} [Decidable c] {p q : Nat} (kt : c → Ev b m p L st h res) (kf : ¬ c → Ev b m q L st h res) : Ev b m (if c then p else q) L st h res := by
  by_cases hc : c
  · rw [if_pos hc]; exact kt hc
  · rw [if_neg hc]; exact kf hc
theorem Ev.rd {i : Int32} {n : Nat} {pc' : Nat} {L' : gw_L} {st' : List Value} {h' : gw_H} (hi : inb i n) (h1 : gw_stp m pc L st h = if i < 0 ∨ n ≤ i.toNatClampNeg then none else some (pc', L', st', h')) (k : Ev b m pc' L' st' h' res) : Ev b m pc L st h res := Ev.step (h1.trans (if_neg hi)) k
theorem Ev.dv {y : Int32} {pc' : Nat} {L' : gw_L} {st' : List Value} {h' : gw_H} (hy : ¬ y = 0) (h1 : gw_stp m pc L st h = if y = 0 then none else some (pc', L', st', h')) (k : Ev b m pc' L' st' h' res) : Ev b m pc L st h res := Ev.step (h1.trans (if_neg hy)) k
theorem Ev.mem {a : Nat} {g : Nat → Int32} {pc' : Nat} {L' : gw_L} {st' : List Value} (ha : 8 ≤ a) (h1 : gw_stp m pc L st (hs E M) = some (pc', L', st', gw_set (hs E M) a (hpc a g))) (k : Ev b m pc' L' st' (hs E (up M a g)) res) : Ev b m pc L st (hs E M) res := Ev.step h1 (by rw [hs_set ha]; exact k)
theorem Ev.wr {a : Nat} {g : Nat → Int32} {i : Int32} {n : Nat} {pc' : Nat} {L' : gw_L} {st' : List Value} (ha : 8 ≤ a) (hi : inb i n) (h1 : gw_stp m pc L st (hs E M) = if i < 0 ∨ n ≤ i.toNatClampNeg then none else some (pc', L', st', gw_set (hs E M) a (hpc a g))) (k : Ev b m pc' L' st' (hs E (up M a g)) res) : Ev b m pc L st (hs E M) res := Ev.mem ha (h1.trans (if_neg hi)) k
theorem Ev.sw {p : Nat} {pc' : Nat} {L' : gw_L} {st' : List Value} {h' : gw_H} (h1 : gw_stp m pc L st h = some (p, L', st', h')) (hp : p = pc') (k : Ev b m pc' L' st' h' res) : Ev b m pc L st h res := Ev.step h1 (by rw [hp]; exact k)
theorem Ev.mto {M' : Mem} (hM : M = M') (k : Ev b m pc L st (hs E M') res) : Ev b m pc L st (hs E M) res := hM ▸ k
end EVM
theorem gw_ts_df {pc : Nat} {d lo hi : Int} {offs : Array Int} {x : Int32} {t : Nat} (ht : ((pc : Int) + d).toNat = t) (h : ∀ k : Int, lo ≤ k → k ≤ hi → x ≠ Int32.ofInt k) : gw_tsw pc d lo hi offs x = t := by
  unfold gw_tsw
  rw [if_pos]
  · exact ht
  · apply Classical.byContradiction
    intro hn
    exact h x.toInt (by omega) (by omega) (by simp)
theorem gw_ls_ne {x : Int32} {v : Int32} {k : Int} (hv : v.toInt = k) (h : ¬ x = v) : ¬ k = x.toInt := fun e => h (Int32.toInt_inj.mp (by rw [hv, e]))
theorem gw_reteq {a b : Int32} {h : gw_H} (e : a = b) : ((some (Value.int a), h) : Option Value × gw_H) = (some (.int b), h) := by rw [e]
theorem gw_retl {a b : Int64} {h : gw_H} (e : a = b) : ((some (Value.long a), h) : Option Value × gw_H) = (some (.long b), h) := by rw [e]
theorem up_self {M : Mem} {a : Nat} {g : Nat → Int32} : up M a g a = g := if_pos rfl
theorem up_ne {M : Mem} {a c : Nat} {g : Nat → Int32} (h : c ≠ a) : up M a g c = M c := if_neg h
theorem up_up {M : Mem} {a : Nat} {g g' : Nat → Int32} : up (up M a g) a g' = up M a g' := by
  funext q
  unfold up
  split <;> rfl
theorem up_comm {M : Mem} {a c : Nat} {g g' : Nat → Int32} (h : a ≠ c) : up (up M a g) c g' = up (up M c g') a g := by
  funext q
  unfold up
  by_cases h1 : q = a
  · subst h1
    rw [if_neg h, if_pos rfl, if_pos rfl]
  · rw [if_neg h1, if_neg h1]
