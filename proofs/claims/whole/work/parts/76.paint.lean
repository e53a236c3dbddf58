/-! paints: places of cells, who meets whom, the search -/
section PNT
variable {E : gw_N} {N : NM} {P : Pic} {G : Geo}
theorem zbitK_all : ∀ v : Fin 1024, ∀ b : Fin 10, zand (zshr (v.val : Int) (b.val : Int)) 1 = bitZ (v.val : Int) (b.val : Int) := by decide +kernel
theorem zsetK_all : ∀ v : Fin 1024, ∀ b : Fin 10, (0 ≤ zor (v.val : Int) (zshl 1 (b.val : Int)) ∧ zor (v.val : Int) (zshl 1 (b.val : Int)) < 1024) ∧ ∀ c : Fin 10, bitZ (zor (v.val : Int) (zshl 1 (b.val : Int))) (c.val : Int) = if c = b then 1 else bitZ (v.val : Int) (c.val : Int) := by decide +kernel
theorem zbitK {v b : Int} (hv : 0 ≤ v ∧ v < 1024) (hb : 0 ≤ b ∧ b < 10) : zand (zshr v b) 1 = bitZ v b := by
  obtain ⟨i, rfl⟩ := fin_of (n := 1024) hv
  obtain ⟨j, rfl⟩ := fin_of (n := 10) hb
  exact zbitK_all i j
theorem zsetK {v b : Int} (hv : 0 ≤ v ∧ v < 1024) (hb : 0 ≤ b ∧ b < 10) : (0 ≤ zor v (zshl 1 b) ∧ zor v (zshl 1 b) < 1024) ∧ ∀ c, 0 ≤ c → c < 10 → bitZ (zor v (zshl 1 b)) c = if c = b then 1 else bitZ v c := by
  obtain ⟨i, rfl⟩ := fin_of (n := 1024) hv
  obtain ⟨j, rfl⟩ := fin_of (n := 10) hb
  refine ⟨(zsetK_all i j).1, fun c c1 c2 => ?_⟩
  obtain ⟨k, rfl⟩ := fin_of (n := 10) ⟨c1, c2⟩
  rw [(zsetK_all i j).2 k]
  by_cases e : k = j
  · rw [if_pos e, if_pos (by rw [e])]
  · rw [if_neg e, if_neg (by intro h; exact e (Fin.ext (by omega)))]
/-- how many cells stand before -/
noncomputable def plc (G : Geo) (c : Int) : Int := sumZ c (fun f => bZ (cellZ G f = f))
theorem plc_s {c : Int} (h : 0 ≤ c) : plc G (c + 1) = plc G c + bZ (cellZ G c = c) := sumZ_succ h
theorem plc_bd {c : Int} (h : 0 ≤ c) : 0 ≤ plc G c ∧ plc G c ≤ c := by
  have := sumZ_bd (g := fun f => bZ (cellZ G f = f)) (n := c) (c := 1) (fun _ _ _ => bZ_bd) h
  unfold plc
  omega
theorem plc_mono {c d : Int} (h : 0 ≤ c) (hcd : c ≤ d) : plc G c ≤ plc G d := by
  have hq := indZ (P := fun e => plc G c ≤ plc G (c + e)) (by rw [Int.add_zero]; exact Int.le_refl _) (fun k hk ih => by
    rw [← Int.add_assoc, plc_s (by omega)]
    have := bZ_bd (p := cellZ G (c + k) = c + k)
    omega) (d - c) (by omega)
  rwa [show c + (d - c) = d by omega] at hq
theorem plc_lt {c d : Int} (h : 0 ≤ c) (hc : cellZ G c = c) (hcd : c < d) : plc G c < plc G d := by
  have h1 := plc_mono (G := G) (c := c + 1) (d := d) (by omega) (by omega)
  rw [plc_s h, bZ_t hc] at h1
  omega
theorem plc_inj {c d : Int} (h1 : 0 ≤ c) (h2 : 0 ≤ d) (hc : cellZ G c = c) (hd : cellZ G d = d) (h : plc G c = plc G d) : c = d := by
  rcases Int.lt_trichotomy c d with q | q | q
  · have := plc_lt h1 hc q; omega
  · exact q
  · have := plc_lt h2 hd q; omega
theorem plc_ex {n k : Int} (hn : 0 ≤ n) (hk : 0 ≤ k ∧ k < plc G n) : ∃ c, 0 ≤ c ∧ c < n ∧ cellZ G c = c ∧ plc G c = k := by
  refine indZ (P := fun n => k < plc G n → ∃ c, 0 ≤ c ∧ c < n ∧ cellZ G c = c ∧ plc G c = k) (fun z => by have : plc G 0 = 0 := rfl; omega) ?_ n hn hk.2
  intro m m1 ih z
  by_cases q : k < plc G m
  · obtain ⟨c, c1, c2, c3⟩ := ih q
    exact ⟨c, c1, by omega, c3⟩
  · rw [plc_s m1] at z
    have b := bZ_01 (p := cellZ G m = m)
    refine ⟨m, m1, by omega, bZ_1.mp (by omega), by omega⟩
noncomputable def totC (G : Geo) : Int := plc G (G.w * G.h)
/-- a step from a field to a field of another cell, and the places of both -/
def adjS (G : Geo) (f way a b : Int) : Prop := isF G f ∧ (0 ≤ way ∧ way < 4) ∧ ¬ besZ G f way = -1 ∧ ¬ cellZ G f = cellZ G (besZ G f way) ∧ plc G (cellZ G f) = a ∧ plc G (cellZ G (besZ G f way)) = b
def adj (G : Geo) (a b : Int) : Prop := ∃ f way, adjS G f way a b
theorem adjS_back (hG : GeoR G) {f way a b : Int} (h : adjS G f way a b) : adjS G (besZ G f way) (wayB way) b a := by
  obtain ⟨h1, h2, h3, h4, h5, h6⟩ := h
  obtain ⟨k1, k2, k3⟩ := bes_spec hG h1 h2 h3
  refine ⟨k1, wayB_bd h2, ?_, ?_, h6, ?_⟩
  · rw [k2]
    have := h1.1
    omega
  · rw [k2]
    exact fun z => h4 z.symm
  · rw [k2]
    exact h5
theorem adj_symm (hG : GeoR G) {a b : Int} (h : adj G a b) : adj G b a := by
  obtain ⟨f, way, h⟩ := h
  exact ⟨_, _, adjS_back hG h⟩
theorem plc_F (hG : GeoR G) {f : Int} (h : isF G f) : 0 ≤ plc G (cellZ G f) ∧ plc G (cellZ G f) < totC G := by
  have h1 := (cell_ex h).1
  exact ⟨(plc_bd h1.1).1, plc_lt h1.1 (cell_self hG h) h1.2⟩
-- the search
def freeP (A : Int → Int → Prop) (k : Int) (p : Int → Int) (c : Int) : Prop := ∀ e, 0 ≤ e → e < k → A k e → ¬ p e = c
abbrev PO : Type := Option (Int → Int)
noncomputable def trP (F : Int → PO) (fr : Int → Prop) : Nat → Int → PO
  | 0, _ => none
  | r + 1, c => @ite PO (fr c ∧ ¬ F c = none) (Classical.propDecidable _) (F c) (trP F fr r (c + 1))
noncomputable def srP (A : Int → Int → Prop) (m : Nat) : Nat → Int → (Int → Int) → PO
  | 0, _, p => some p
  | d + 1, k, p => trP (fun c => srP A m d (k + 1) (updZ p k c)) (freeP A k p) m 0
theorem tr_t {F : Int → PO} {fr : Int → Prop} {r : Nat} {c : Int} {q : Int → Int} (h1 : fr c) (h2 : F c = some q) : trP F fr (r + 1) c = some q := by
  rw [trP, ← h2]
  refine if_pos ⟨h1, ?_⟩
  rw [h2]
  exact fun z => by cases z
theorem tr_f {F : Int → PO} {fr : Int → Prop} {r : Nat} {c : Int} (h1 : ¬ (fr c ∧ ¬ F c = none)) : trP F fr (r + 1) c = trP F fr r (c + 1) := by
  rw [trP]
  exact if_neg h1
theorem tr_some {F : Int → PO} {fr : Int → Prop} : ∀ {r : Nat} {c d : Int}, c ≤ d → d < c + r → fr d → (∀ x, fr x → ¬ F x = none) → ¬ trP F fr r c = none := by
  intro r
  induction r with
  | zero => intro c d h1 h2; omega
  | succ r ih =>
    intro c d h1 h2 hd hF
    by_cases hc : fr c
    · cases hq : F c with
      | none => exact absurd hq (hF c hc)
      | some q =>
        rw [tr_t hc hq]
        exact fun z => by cases z
    · rw [tr_f (fun z => hc z.1)]
      have : ¬ c = d := fun z => hc (by rw [z]; exact hd)
      exact ih (by omega) (by omega) hd hF
theorem used_bd {p : Int → Int} {m k : Int} (hm : 0 ≤ m) (hk : 0 ≤ k) : sumZ m (fun c => bZ (∃ e, 0 ≤ e ∧ e < k ∧ p e = c)) ≤ k := by
  refine indZ (P := fun k => sumZ m (fun c => bZ (∃ e, 0 ≤ e ∧ e < k ∧ p e = c)) ≤ k) ?_ ?_ k hk
  · rw [sumZ_zero (fun c _ _ => bZ_f exZ_0)]
    exact Int.le_refl _
  · intro j j1 ih
    have h1 : sumZ m (fun c => bZ (∃ e, 0 ≤ e ∧ e < j + 1 ∧ p e = c)) ≤ sumZ m (fun c => bZ (∃ e, 0 ≤ e ∧ e < j ∧ p e = c) + bZ (p j = c)) := by
      refine indZ (P := fun m => sumZ m (fun c => bZ (∃ e, 0 ≤ e ∧ e < j + 1 ∧ p e = c)) ≤ sumZ m (fun c => bZ (∃ e, 0 ≤ e ∧ e < j ∧ p e = c) + bZ (p j = c))) (Int.le_refl _) ?_ m hm
      intro i i1 ih2
      rw [sumZ_succ i1, sumZ_succ i1]
      have h3 : bZ (∃ e, 0 ≤ e ∧ e < j + 1 ∧ p e = i) ≤ bZ (∃ e, 0 ≤ e ∧ e < j ∧ p e = i) + bZ (p j = i) := by
        have b1 := bZ_bd (p := ∃ e, 0 ≤ e ∧ e < j ∧ p e = i)
        have b2 := bZ_bd (p := p j = i)
        by_cases z : ∃ e, 0 ≤ e ∧ e < j + 1 ∧ p e = i
        · rcases (exZ_succ (p := fun e => p e = i) j1).mp z with q | q
          · have := bZ_t q
            have := bZ_bd (p := ∃ e, 0 ≤ e ∧ e < j + 1 ∧ p e = i)
            omega
          · have := bZ_t q
            have := bZ_bd (p := ∃ e, 0 ≤ e ∧ e < j + 1 ∧ p e = i)
            omega
        · rw [bZ_f z]
          omega
      omega
    have h2 : sumZ m (fun c => bZ (p j = c)) ≤ 1 := by
      by_cases z : 0 ≤ p j ∧ p j < m
      · have := sumZ_one (f := fun _ => 1) z
        rw [sumZ_congr (g := fun c => bZ (p j = c)) (fun k _ _ => Int.mul_one _)] at this
        omega
      · rw [sumZ_zero]
        · decide
        · intro c c1 c2
          exact bZ_f (fun q => z (by omega))
    rw [sumZ_add] at h1
    omega
theorem sr_some {A : Int → Int → Prop} {m : Nat} : ∀ (d : Nat) (k : Int) (p : Int → Int), 0 ≤ k → k + d ≤ m → ¬ srP A m d k p = none := by
  intro d
  induction d with
  | zero => intro k p _ _ z; cases z
  | succ d ih =>
    intro k p hk hd
    have hx : ∃ c, 0 ≤ c ∧ c < (m : Int) ∧ freeP A k p c := by
      apply Classical.byContradiction
      intro hn
      have h1 := used_bd (p := p) (m := (m : Int)) (k := k) (by omega) hk
      have h2 : sumZ (m : Int) (fun c => bZ (∃ e, 0 ≤ e ∧ e < k ∧ p e = c)) = sumZ (m : Int) (fun _ => (1 : Int)) := by
        refine sumZ_congr fun c c1 c2 => bZ_t ?_
        apply Classical.byContradiction
        intro z
        exact hn ⟨c, c1, c2, fun e e1 e2 _ q => z ⟨e, e1, e2, q⟩⟩
      have h3 : sumZ (m : Int) (fun _ => (1 : Int)) = (m : Int) := indZ (P := fun n => sumZ n (fun _ => (1 : Int)) = n) rfl (fun n n1 ih3 => by rw [sumZ_succ n1, ih3]) (m : Int) (by omega)
      omega
    obtain ⟨c, c1, c2, c3⟩ := hx
    rw [srP]
    exact tr_some (d := c) c1 (by omega) c3 (fun x _ => ih (k + 1) _ (by omega) (by omega))
/-- the fewest paints from m on -/
noncomputable def fwN (A : Int → Int → Prop) (n : Nat) : Nat → Nat → Nat
  | 0, m => m
  | f + 1, m => @ite Nat (srP A m n 0 (fun _ => 0) = none) (Classical.propDecidable _) (fwN A n f (m + 1)) m
noncomputable def fwZ (A : Int → Int → Prop) (n : Nat) : Nat := fwN A n 9 1
end PNT
