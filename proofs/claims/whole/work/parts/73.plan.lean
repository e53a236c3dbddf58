/-! the plan of firings: the mathematics; the program -/
section PLN
variable {E : gw_N} {N : NM} {P : Pic}
def selN (P : Pic) (m : Int) : Nat → Int × Int
  | 0 => (0, 999)
  | k + 1 => if bitZ m (k : Int) = 1 ∧ P.toPal.heat (k : Int) < (selN P m k).2 then ((k : Int), P.toPal.heat (k : Int)) else selN P m k
def selZ (P : Pic) (m : Int) : Int := (selN P m 8).1
def isSel (P : Pic) (S : Int → Prop) (n c : Int) : Prop := 0 ≤ c ∧ c < n ∧ S c ∧ ∀ k, 0 ≤ k → k < n → S k → (P.toPal.heat c < P.toPal.heat k ∨ (P.toPal.heat c = P.toPal.heat k ∧ c ≤ k))
theorem selN_cs (hI : PicOK P) {m : Int} : ∀ k : Nat, k ≤ 8 → (selN P m k = (0, 999) ∧ ∀ j, 0 ≤ j → j < (k : Int) → ¬ bitZ m j = 1) ∨ (isSel P (fun j => bitZ m j = 1) k (selN P m k).1 ∧ (selN P m k).2 = P.toPal.heat (selN P m k).1) := by
  intro k
  induction k with
  | zero => intro _; exact Or.inl ⟨rfl, fun j a b => by omega⟩
  | succ k ih =>
    intro hk
    have hh := hI.pal.heat (k : Int) (by omega) (by omega)
    rw [selN]
    by_cases hb : bitZ m (k : Int) = 1
    · rcases ih (by omega) with ⟨e, hn⟩ | ⟨hs1, he⟩
      · rw [if_pos ⟨hb, by rw [e]; show P.toPal.heat (k : Int) < 999; omega⟩]
        refine Or.inr ⟨⟨by show (0 : Int) ≤ (k : Int); omega, by show (k : Int) < ((k + 1 : Nat) : Int); omega, hb, fun j j1 j2 hj => ?_⟩, rfl⟩
        by_cases q : j = (k : Int)
        · rw [q]; exact Or.inr ⟨rfl, Int.le_refl _⟩
        · exact absurd hj (hn j j1 (by omega))
      · by_cases hlt : P.toPal.heat (k : Int) < (selN P m k).2
        · rw [if_pos ⟨hb, hlt⟩]
          rw [he] at hlt
          refine Or.inr ⟨⟨by show (0 : Int) ≤ (k : Int); omega, by show (k : Int) < ((k + 1 : Nat) : Int); omega, hb, fun j j1 j2 hj => ?_⟩, rfl⟩
          show P.toPal.heat (k : Int) < P.toPal.heat j ∨ (P.toPal.heat (k : Int) = P.toPal.heat j ∧ (k : Int) ≤ j)
          by_cases q : j = (k : Int)
          · rw [q]; exact Or.inr ⟨rfl, Int.le_refl _⟩
          · have := hs1.2.2.2 j j1 (by omega) hj
            omega
        · rw [if_neg (fun z => hlt z.2)]
          rw [he] at hlt
          refine Or.inr ⟨⟨hs1.1, by have := hs1.2.1; omega, hs1.2.2.1, fun j j1 j2 hj => ?_⟩, he⟩
          by_cases q : j = (k : Int)
          · have h1 := hs1.2.1
            rw [q]
            omega
          · exact hs1.2.2.2 j j1 (by omega) hj
    · rw [if_neg (fun z => hb z.1)]
      rcases ih (by omega) with ⟨e, hn⟩ | ⟨hs1, he⟩
      · refine Or.inl ⟨e, fun j j1 j2 => ?_⟩
        by_cases q : j = (k : Int)
        · rw [q]; exact hb
        · exact hn j j1 (by omega)
      · refine Or.inr ⟨⟨hs1.1, by have := hs1.2.1; omega, hs1.2.2.1, fun j j1 j2 hj => ?_⟩, he⟩
        by_cases q : j = (k : Int)
        · rw [q] at hj
          exact absurd hj hb
        · exact hs1.2.2.2 j j1 (by omega) hj
theorem sel_eq {S : Int → Prop} {n c d : Int} (h1 : isSel P S n c) (h2 : isSel P S n d) : c = d := by
  have a := h1.2.2.2 d h2.1 h2.2.1 h2.2.2.1
  have b := h2.2.2.2 c h1.1 h1.2.1 h1.2.2.1
  omega
theorem bit0_all : ∀ v : Fin 256, (∀ b : Fin 8, ¬ bitZ (v.val : Int) (b.val : Int) = 1) → (v.val : Int) = 0 := by decide +kernel
theorem bit0 {m : Int} (hm : 0 ≤ m ∧ m < 256) (h : ∀ j, 0 ≤ j → j < 8 → ¬ bitZ m j = 1) : m = 0 := by
  obtain ⟨i, rfl⟩ := fin_of (n := 256) hm
  exact bit0_all i (fun b => h (b.val : Int) (by omega) (by have := b.isLt; omega))
theorem bit00 {j : Int} : bitZ 0 j = 0 := by
  unfold bitZ
  rw [Int.zero_ediv]
  rfl
theorem selZ_is (hI : PicOK P) {m : Int} (hm : 0 ≤ m ∧ m < 256) (h0 : ¬ m = 0) : isSel P (fun j => bitZ m j = 1) 8 (selZ P m) := by
  rcases selN_cs (m := m) hI 8 (Nat.le_refl _) with ⟨e, hn⟩ | ⟨h1, h2⟩
  · exact absurd (bit0 hm hn) h0
  · exact h1
abbrev PS : Type := Int × (Int → Int) × (Int → Int)
def lackZ (P : Pic) (c : Int) (s : PS) : Int := filZ P c - sumZ s.1 (fun j => if P.toPal.heat c ≤ s.2.1 j then s.2.2 j else 0)
def srvZ (P : Pic) (c : Int) (s : PS) : PS := if 0 < lackZ P c s then (s.1 + 1, updZ s.2.1 s.1 (P.toPal.heat c + 50), updZ s.2.2 s.1 (lackZ P c s)) else s
def clrZ (m c : Int) : Int := zand m (zxor (zshl 1 c) (-1))
def plN (P : Pic) : Nat → Int → PS → PS
  | 0, _, s => s
  | n + 1, m, s => if m = 0 then s else plN P n (clrZ m (selZ P m)) (srvZ P (selZ P m) s)
def plnZ (P : Pic) (m : Int) : PS := plN P 8 m ((0 : Int), (fun _ => (0 : Int)), (fun _ => (0 : Int)))
def wsP (P : Pic) (n m : Int) (s : PS) : Prop := (0 ≤ s.1 ∧ s.1 ≤ n) ∧ ∀ j, 0 ≤ j → j < s.1 → (1 ≤ s.2.2 j ∧ s.2.2 j ≤ 99) ∧ (0 ≤ s.2.1 j ∧ s.2.1 j ≤ 950) ∧ ∀ k, 0 ≤ k → k < 8 → bitZ m k = 1 → s.2.1 j ≤ P.toPal.heat k + 50
theorem lk_bd (hI : PicOK P) {n m c : Int} {s : PS} (h : wsP P n m s) (hn : n ≤ 8) (hc : 0 ≤ c ∧ c < 8) {i : Int} (hi : 0 ≤ i ∧ i ≤ s.1) : 0 ≤ sumZ i (fun j => if P.toPal.heat c ≤ s.2.1 j then s.2.2 j else 0) ∧ sumZ i (fun j => if P.toPal.heat c ≤ s.2.1 j then s.2.2 j else 0) ≤ 792 := by
  have h1 := h.1
  have := sumZ_bd' (g := fun j => if P.toPal.heat c ≤ s.2.1 j then s.2.2 j else 0) (n := i) (B := 8) (c := 99) (fun j j1 j2 => by
    have := (h.2 j j1 (by omega)).1
    show 0 ≤ (if P.toPal.heat c ≤ s.2.1 j then s.2.2 j else 0) ∧ (if P.toPal.heat c ≤ s.2.1 j then s.2.2 j else 0) ≤ 99
    split <;> omega) hi.1 (by omega) (by decide)
  omega
theorem ws_step (hI : PicOK P) {n m : Int} {s : PS} (h : wsP P n m s) (hn : n < 8) (hm : 0 ≤ m ∧ m < 256) (h0 : ¬ m = 0) : wsP P (n + 1) (clrZ m (selZ P m)) (srvZ P (selZ P m) s) ∧ (0 ≤ clrZ m (selZ P m) ∧ clrZ m (selZ P m) < 256) ∧ ∀ k, 0 ≤ k → k < 8 → bitZ (clrZ m (selZ P m)) k = if k = selZ P m then 0 else bitZ m k := by
  have hsel := selZ_is hI hm h0
  have hc : 0 ≤ selZ P m ∧ selZ P m < 8 := ⟨hsel.1, hsel.2.1⟩
  obtain ⟨z1, z2⟩ := zclr hm hc
  have hb : ∀ k, 0 ≤ k → k < 8 → bitZ (clrZ m (selZ P m)) k = 1 → bitZ m k = 1 := by
    intro k k1 k2 hk
    have := z2 k k1 k2
    unfold clrZ at hk
    rw [this] at hk
    split at hk
    · omega
    · exact hk
  refine ⟨?_, z1, z2⟩
  have h1 := h.1
  unfold srvZ
  by_cases hl : 0 < lackZ P (selZ P m) s
  · rw [if_pos hl]
    refine ⟨⟨by show 0 ≤ s.1 + 1; omega, by show s.1 + 1 ≤ n + 1; omega⟩, fun j j1 j2 => ?_⟩
    replace j2 : j < s.1 + 1 := j2
    show (1 ≤ updZ s.2.2 s.1 (lackZ P (selZ P m) s) j ∧ updZ s.2.2 s.1 (lackZ P (selZ P m) s) j ≤ 99) ∧ (0 ≤ updZ s.2.1 s.1 (P.toPal.heat (selZ P m) + 50) j ∧ updZ s.2.1 s.1 (P.toPal.heat (selZ P m) + 50) j ≤ 950) ∧ ∀ k, 0 ≤ k → k < 8 → bitZ (clrZ m (selZ P m)) k = 1 → updZ s.2.1 s.1 (P.toPal.heat (selZ P m) + 50) j ≤ P.toPal.heat k + 50
    by_cases q : j = s.1
    · rw [q, updZ_s, updZ_s]
      have hf := filZ_bd hI hc
      have hlb := lk_bd hI h (by omega) hc (i := s.1) ⟨h1.1, Int.le_refl _⟩
      have hh := hI.pal.heat _ hc.1 hc.2
      refine ⟨⟨by omega, by unfold lackZ; omega⟩, by omega, fun k k1 k2 hk => ?_⟩
      have := hsel.2.2.2 k k1 k2 (hb k k1 k2 hk)
      omega
    · rw [updZ_n q, updZ_n q]
      obtain ⟨a1, a2, a3⟩ := h.2 j j1 (by omega)
      exact ⟨a1, a2, fun k k1 k2 hk => a3 k k1 k2 (hb k k1 k2 hk)⟩
  · rw [if_neg hl]
    refine ⟨⟨h1.1, by omega⟩, fun j j1 j2 => ?_⟩
    obtain ⟨a1, a2, a3⟩ := h.2 j j1 j2
    exact ⟨a1, a2, fun k k1 k2 hk => a3 k k1 k2 (hb k k1 k2 hk)⟩
theorem pl_ws (hI : PicOK P) : ∀ (f : Nat) (n m : Int) (s : PS), wsP P n m s → 0 ≤ n → n + f ≤ 8 → (0 ≤ m ∧ m < 256) → ∃ m', wsP P 8 m' (plN P f m s) := by
  intro f
  induction f with
  | zero => intro n m s h _ hn _; exact ⟨m, ⟨h.1.1, by show s.1 ≤ 8; have := h.1; omega⟩, h.2⟩
  | succ f ih =>
    intro n m s h hn0 hn hm
    rw [plN]
    by_cases h0 : m = 0
    · rw [if_pos h0]
      exact ⟨m, ⟨h.1.1, by have := h.1; omega⟩, h.2⟩
    · rw [if_neg h0]
      obtain ⟨w1, w2, w3⟩ := ws_step hI h (by omega) hm h0
      exact ih (n + 1) _ _ w1 (by omega) (by omega) w2
theorem ws_0 {m : Int} : wsP P 0 m ((0 : Int), (fun _ => (0 : Int)), (fun _ => (0 : Int))) := ⟨⟨Int.le_refl _, Int.le_refl _⟩, fun j j1 j2 => absurd j2 (by show ¬ j < 0; omega)⟩
/-- the program's kinds -/
def psM (N : NM) (s : PS) : Prop := N 50 3 = s.1 ∧ ∀ j, 0 ≤ j → j < s.1 → N 51 j = s.2.1 j ∧ N 52 j = s.2.2 j
def sPln (N N' : NM) : Prop := ∀ a, (a < 50 ∨ 52 < a) → N' a = N a
theorem sPln_t {N N1 N2 : NM} (h1 : sPln N N1) (h2 : sPln N1 N2) : sPln N N2 := fun a ha => (h2 a ha).trans (h1 a ha)
theorem sp113 {m : Int} (hI : PicOK P) (hp : PalOK P.toPal N) (hm : 0 ≤ m ∧ m < 256) : Rn 113 [.ref 50, .int (J m)] (hs E (jm N)) (some (.int (J (selZ P m)))) (hs E (jm N)) := by
  refine c113 (v113_0 ?_)
  unfold selZ
  have h0 := loopZ (a := 0) (n := 8) (Q := fun k => Ev 2 113 9 [some (.ref 50), some (.int (J m)), some (.int (J ((selN P m k.toNat).1))), some (.int (J ((selN P m k.toNat).2))), some (.int (J k))] [] (hs E (jm N)) (some (.int (J (selN P m 8).1)), (hs E (jm N)))) (by decide) ?_ ?_
  · exact h0
  · exact v113_9 ⟨by decide, fun _ => rfl, fun z => absurd (Int.le_refl _) z⟩
  · intro k k1 k2 ih
    have hh := hI.pal.heat k k1 k2
    have e99 : G99 N k = P.toPal.heat k := by
      show N 41 (3 * k + 0) = _
      rw [Int.add_zero]
      exact hp.heat k k1 k2
    have hr : R (selN P m k.toNat).2 := by
      rcases selN_cs (m := m) hI k.toNat (by omega) with ⟨e, hn⟩ | ⟨a1, a2⟩
      · rw [e]; decide
      · have b1 := a1.1
        have b2 := a1.2.1
        have := hI.pal.heat _ b1 (by omega)
        omega
    have es : selN P m (k + 1).toNat = if bitZ m k = 1 ∧ P.toPal.heat k < (selN P m k.toNat).2 then (k, P.toPal.heat k) else selN P m k.toNat := by
      rw [show (k + 1).toNat = k.toNat + 1 by omega, selN, Int.toNat_of_nonneg k1]
    rw [es] at ih
    refine v113_9 ?_
    rw [zbit hm ⟨k1, k2⟩, e99]
    refine ⟨by omega, fun z => absurd z (by omega), fun _ => ⟨fun z => ⟨⟨by omega, trivial⟩, hr, by omega, fun w => ?_, fun w => ?_⟩, fun z => ?_⟩⟩
    · rw [if_neg (fun q => by have := q.2; omega)] at ih
      exact ih
    · rw [if_pos ⟨z, by omega⟩] at ih
      exact ih
    · rw [if_neg (fun q => z q.1)] at ih
      exact ih
theorem sp114 {n m c : Int} {s : PS} (hI : PicOK P) (hm : psM N s) (h : wsP P n m s) (hn : n < 8) (hc : 0 ≤ c ∧ c < 8) : ∃ N', Rn 114 [.ref 50, .int (J (P.toPal.heat c)), .int (J (filZ P c))] (hs E (jm N)) none (hs E (jm N')) ∧ psM N' (srvZ P c s) ∧ sPln N N' := by
  have hf := filZ_bd hI hc
  have hh := hI.pal.heat c hc.1 hc.2
  have h1 := h.1
  have hfull := lk_bd hI h (by omega) hc (i := s.1) ⟨h1.1, Int.le_refl _⟩
  have key : ∀ res, (∀ (_ : True), Ev 1 114 5 [some (.ref 50), some (.int (J (P.toPal.heat c))), none, some (.int (J (lackZ P c s))), some (.int (J (s.1)))] [] (hs E (jm N)) res) → Ev 1 114 5 [some (.ref 50), some (.int (J (P.toPal.heat c))), none, some (.int (J (filZ P c))), some (.int (J 0))] [] (hs E (jm N)) res := by
    intro res hend
    have h0 := loopZ (a := 0) (n := s.1) (Q := fun i => Ev 1 114 5 [some (.ref 50), some (.int (J (P.toPal.heat c))), none, some (.int (J (filZ P c - sumZ i (fun j => if P.toPal.heat c ≤ s.2.1 j then s.2.2 j else 0)))), some (.int (J i))] [] (hs E (jm N)) res) h1.1 (hend trivial) ?_
    · rw [sumZ_0, Int.sub_zero] at h0
      exact h0
    · intro i i1 i2 ih
      obtain ⟨a1, a2, a3⟩ := h.2 i i1 i2
      obtain ⟨e1, e2⟩ := hm.2 i i1 i2
      rw [sumZ_succ i1] at ih
      refine v114_5 ?_
      rw [hm.1, e1, e2]
      refine ⟨by omega, by omega, fun z => absurd z (by omega), fun _ => ⟨by omega, by omega, by omega, fun z => ?_, fun z => ?_⟩⟩
      · rw [if_neg (by omega), Int.add_zero] at ih
        exact ih
      · rw [if_pos (by omega), show filZ P c - (sumZ i (fun j => if P.toPal.heat c ≤ s.2.1 j then s.2.2 j else 0) + s.2.2 i) = filZ P c - sumZ i (fun j => if P.toPal.heat c ≤ s.2.1 j then s.2.2 j else 0) - s.2.2 i by omega] at ih
        exact ih
  have hlR : R (lackZ P c s) := by unfold lackZ; omega
  by_cases hl : 0 < lackZ P c s
  · refine ⟨upZ (upZ (upZ N 51 (updZ (N 51) s.1 (P.toPal.heat c + 50))) 52 (updZ (N 52) s.1 (lackZ P c s))) 50 (updZ (N 50) 3 (s.1 + 1)), c114 (v114_0 (key _ (fun _ => v114_5 ?_))), ?_, fun a ha => by rw [upZ_n (by omega), upZ_n (by omega), upZ_n (by omega)]⟩
    · rw [hm.1]
      exact ⟨by omega, by omega, fun _ => ⟨hlR, fun z => absurd z (by omega), fun _ => ⟨fun z => absurd z (by omega), fun _ => ⟨by omega, rfl⟩⟩⟩, fun z => absurd (Int.le_refl _) z⟩
    · unfold srvZ
      rw [if_pos hl]
      refine ⟨rfl, fun j j1 j2 => ?_⟩
      replace j2 : j < s.1 + 1 := j2
      show updZ (N 51) s.1 (P.toPal.heat c + 50) j = updZ s.2.1 s.1 (P.toPal.heat c + 50) j ∧ updZ (N 52) s.1 (lackZ P c s) j = updZ s.2.2 s.1 (lackZ P c s) j
      by_cases q : j = s.1
      · rw [q, updZ_s, updZ_s, updZ_s, updZ_s]
        exact ⟨rfl, rfl⟩
      · rw [updZ_n q, updZ_n q, updZ_n q, updZ_n q]
        exact hm.2 j j1 (by omega)
  · refine ⟨N, c114 (v114_0 (key _ (fun _ => v114_5 ?_))), ?_, fun _ _ => rfl⟩
    · rw [hm.1]
      exact ⟨by omega, by omega, fun _ => ⟨hlR, fun _ => rfl, fun z => absurd (by omega) z⟩, fun z => absurd (Int.le_refl _) z⟩
    · unfold srvZ
      rw [if_neg hl]
      exact hm
theorem sp112 {m : Int} (hI : PicOK P) (hp : PalOK P.toPal N) (hm : 0 ≤ m ∧ m < 256) : ∃ N', Rn 112 [.ref 50, .int (J m)] (hs E (jm N)) none (hs E (jm N')) ∧ psM N' (plnZ P m) ∧ sPln N N' := by
  have key := loopZ (a := 0) (n := 8) (Q := fun i => ∀ (m : Int) (s : PS) (N1 : NM), (0 ≤ m ∧ m < 256) → wsP P i m s → psM N1 s → sPln N N1 → ∃ N', (psM N' (plN P (8 - i).toNat m s) ∧ sPln N N') ∧ Ev 3 112 9 [some (.ref 50), none, some (.int (J m)), some (.int (J i)), none] [] (hs E (jm N1)) (none, hs E (jm N'))) (by decide) ?_ ?_
  · obtain ⟨N', k1, k2⟩ := key m ((0 : Int), (fun _ => (0 : Int)), (fun _ => (0 : Int))) (upZ N 50 (updZ (N 50) 3 0)) hm ws_0 ⟨rfl, fun j j1 j2 => absurd j2 (by show ¬ j < 0; omega)⟩ (fun a ha => upZ_n (by omega))
    exact ⟨N', c112 (v112_0 k2), k1⟩
  · intro m s N1 hm1 hw hps hsp
    exact ⟨N1, ⟨hps, hsp⟩, v112_9 ⟨by decide, fun _ => rfl, fun z => absurd (Int.le_refl _) z⟩⟩
  · intro i i1 i2 ih m s N1 hm1 hw hps hsp
    rw [show (8 - i).toNat = (8 - (i + 1)).toNat + 1 by omega, plN]
    by_cases h0 : m = 0
    · rw [if_pos h0]
      exact ⟨N1, ⟨hps, hsp⟩, v112_9 ⟨by omega, fun z => absurd z (by omega), fun _ => ⟨by omega, fun _ => rfl, fun z => absurd h0 z⟩⟩⟩
    · rw [if_neg h0]
      have hsel := selZ_is hI hm1 h0
      have hc : 0 ≤ selZ P m ∧ selZ P m < 8 := ⟨hsel.1, hsel.2.1⟩
      have hp1 : PalOK P.toPal N1 := hp.fr (hsp _ (by decide)) (hsp _ (by decide)) (hsp _ (by decide))
      obtain ⟨w1, w2, w3⟩ := ws_step hI hw i2 hm1 h0
      obtain ⟨N2, r2, p2, s2⟩ := sp114 (E := E) hI hps hw i2 hc
      obtain ⟨N', k1, k2⟩ := ih _ _ N2 w2 w1 p2 (sPln_t hsp s2)
      have e99 : G99 N1 (selZ P m) = P.toPal.heat (selZ P m) := by
        show N1 41 (3 * selZ P m + 0) = _
        rw [Int.add_zero]
        exact hp1.heat _ hc.1 hc.2
      refine ⟨N', k1, v112_9 ⟨by omega, fun z => absurd z (by omega), fun _ => ⟨by omega, fun z => absurd z h0, fun _ => ⟨_, sp113 hI hp1 hm1, ⟨by omega, trivial⟩, _, sp108 hI hp1 hc, N2, ?_, k2⟩⟩⟩⟩
      rw [e99]
      exact r2
def heN (s : PS) : Nat → Int → Int
  | 0, _ => -1
  | j + 1, l => if l < s.2.2 (j : Int) then s.2.1 (j : Int) else heN s j (l - s.2.2 (j : Int))
def heZ (s : PS) (i : Int) : Int := if i < 0 then -1 else heN s s.1.toNat i
theorem sp115 {n m : Int} {s : PS} (hm : psM N s) (h : wsP P n m s) (hn : n ≤ 8) : Rn 115 [.ref 50] (hs E (jm N)) (some (.int (J (sumZ s.1 s.2.2)))) (hs E (jm N)) := by
  have h1 := h.1
  refine c115 (v115_0 ?_)
  refine loopZ (a := 0) (n := s.1) (Q := fun i => Ev 1 115 4 [some (.ref 50), some (.int (J (sumZ i s.2.2))), some (.int (J i))] [] (hs E (jm N)) (_, _)) h1.1 ?_ ?_
  · refine v115_4 ?_
    rw [hm.1]
    exact ⟨by omega, by omega, fun _ => rfl, fun z => absurd (Int.le_refl _) z⟩
  · intro i i1 i2 ih
    rw [sumZ_succ i1] at ih
    refine v115_4 ?_
    rw [hm.1, (hm.2 i i1 i2).2]
    exact ⟨by omega, by omega, fun z => absurd z (by omega), fun _ => ⟨by omega, ih⟩⟩
theorem sp116 {n m i : Int} {s : PS} (hm : psM N s) (h : wsP P n m s) (hn : n ≤ 8) (hi : R i) : Rn 116 [.ref 50, .int (J i)] (hs E (jm N)) (some (.int (J (heZ s i)))) (hs E (jm N)) := by
  have h1 := h.1
  refine c116 (v116_0 ?_)
  unfold heZ
  by_cases h0 : i < 0
  · rw [if_pos h0]
    exact ⟨hi, fun z => absurd z (by omega), fun _ => rfl⟩
  · rw [if_neg h0, hm.1]
    refine ⟨hi, fun _ => ?_, fun z => absurd (by omega) z⟩
    have key : ∀ j : Nat, (j : Int) ≤ s.1 → ∀ l, 0 ≤ l → l < 2147483648 → Ev 1 116 15 [some (.ref 50), none, some (.int (J l)), some (.int (J ((j : Int) - 1)))] [] (hs E (jm N)) (some (.int (J (heN s j l))), (hs E (jm N))) := by
      intro j
      induction j with
      | zero =>
        intro _ l l1 l2
        exact v116_15 ⟨by decide, fun _ => rfl, fun z => absurd (by decide) z⟩
      | succ j ih =>
        intro hj l l1 l2
        have hj' : ((j + 1 : Nat) : Int) - 1 = (j : Int) := by omega
        obtain ⟨a1, a2, a3⟩ := h.2 (j : Int) (by omega) (by omega)
        obtain ⟨e1, e2⟩ := hm.2 (j : Int) (by omega) (by omega)
        rw [hj']
        refine v116_15 ?_
        rw [e1, e2, heN]
        refine ⟨by omega, fun z => absurd z (by omega), fun _ => ⟨by omega, by omega, by omega, fun z => ?_, fun z => ?_⟩⟩
        · rw [if_neg (by omega)]
          exact ih (by omega) (l - s.2.2 (j : Int)) (by omega) (by omega)
        · rw [if_pos (by omega)]
    have := key s.1.toNat (by omega) i (by omega) hi.2
    rw [Int.toNat_of_nonneg h1.1] at this
    exact this
end PLN
