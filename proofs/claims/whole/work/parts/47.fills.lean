/-! fills, good -/
section FLS
variable {E : gw_N} {N : NM} {P : Pic} {G : Geo}
def filF (w sh : Int) : Nat → Int → Int → Int
  | 0, _, m => m
  | n + 1, h, m => if w - 1 ≤ h then m else filF w sh n (h + ((w - h) - (w - h) * sh / 10)) (m + 1)
def filZ (P : Pic) (c : Int) : Int := filF P.toPal.wall (P.toPal.shr c) 100 0 0
theorem filStep {w sh h : Int} (hw : 1 ≤ w ∧ w ≤ 99) (hs2 : 0 ≤ sh ∧ sh ≤ 9) (hh : 0 ≤ h ∧ h < w - 1) : (0 ≤ (w - h) * sh ∧ (w - h) * sh ≤ 891) ∧ 1 ≤ (w - h) - (w - h) * sh / 10 ∧ (w - h) - (w - h) * sh / 10 ≤ w - h := by
  have h1 := mul_bd (x := w - h) (a := 99) (by omega) hs2
  have h2 : (w - h) * sh ≤ (w - h) * 9 := Int.mul_le_mul_of_nonneg_left hs2.2 (by omega)
  omega
theorem sp108 {c : Int} (hI : PicOK P) (hp : PalOK P.toPal N) (hc : 0 ≤ c ∧ c < 8) : Rn 108 [.ref 40, .int (J c)] (hs E (jm N)) (some (.int (J (filZ P c)))) (hs E (jm N)) := by
  have hw := hI.pal.wall
  have hsh := hI.pal.shr c hc.1 hc.2
  have e103 : G103 N = P.toPal.wall := hp.wall
  have key : ∀ (n : Nat) (h m : Int), P.toPal.wall - h ≤ n → 0 ≤ m → m ≤ h → h ≤ P.toPal.wall → Ev 2 108 4 [some (.ref 40), some (.int (J c)), some (.int (J h)), some (.int (J m))] [] (hs E (jm N)) (some (.int (J (filF P.toPal.wall (P.toPal.shr c) n h m))), (hs E (jm N))) := by
    intro n
    induction n with
    | zero =>
      intro h m h1 h2 h3 h4
      refine v108_4 ?_
      rw [e103]
      refine ⟨trivial, by omega, by omega, fun _ => rfl, fun z => absurd (by omega) z⟩
    | succ n ih =>
      intro h m h1 h2 h3 h4
      refine v108_4 ?_
      rw [e103]
      by_cases q : P.toPal.wall - 1 ≤ h
      · refine ⟨trivial, by omega, by omega, fun _ => ?_, fun z => absurd q z⟩
        rw [show filF P.toPal.wall (P.toPal.shr c) (n + 1) h m = m from if_pos q]
      · have hst := filStep hw hsh (h := h) (by omega)
        have e102 : G102 N c (P.toPal.wall - h) = (P.toPal.wall - h) - (P.toPal.wall - h) * P.toPal.shr c / 10 := by
          unfold G102
          rw [hp.shr c hc.1 hc.2, Int.tdiv_eq_ediv_of_nonneg hst.1.1]
        have q102 : Q102 N c (P.toPal.wall - h) := by
          unfold Q102
          rw [hp.shr c hc.1 hc.2]
          exact ⟨by omega, by omega, trivial⟩
        have hn := ih (h + ((P.toPal.wall - h) - (P.toPal.wall - h) * P.toPal.shr c / 10)) (m + 1) (by omega) (by omega) (by omega) (by omega)
        rw [show filF P.toPal.wall (P.toPal.shr c) (n + 1) h m = filF P.toPal.wall (P.toPal.shr c) n (h + ((P.toPal.wall - h) - (P.toPal.wall - h) * P.toPal.shr c / 10)) (m + 1) from if_neg q, e102]
        exact ⟨trivial, by omega, by omega, fun z => absurd z q, fun _ => ⟨by omega, by omega, fun z => absurd z (by omega), fun _ => ⟨q102, hn⟩⟩⟩
  exact c108 (v108_0 (key 100 0 0 (by omega) (by omega) (by omega) (by omega)))
theorem sp279 {c : Int} (hI : PicOK P) (hR : RefOK P N) (hc : 0 ≤ c ∧ c < 8) : Rn 279 [.ref 59, .int (J c)] (hs E (jm N)) (some (.int (J (filZ P c)))) (hs E (jm N)) := by
  have hw := hI.pal.wall
  have hsh := hI.pal.shr c hc.1 hc.2
  have key : ∀ (n : Nat) (h m : Int), P.toPal.wall - h ≤ n → 0 ≤ h → h ≤ P.toPal.wall → Ev 1 279 4 [some (.ref 59), some (.int (J c)), some (.int (J m)), some (.int (J h)), none] [] (hs E (jm N)) (some (.int (J (filF P.toPal.wall (P.toPal.shr c) n h m))), (hs E (jm N))) := by
    intro n
    induction n with
    | zero =>
      intro h m h1 h2 h3
      refine v279_4 ?_
      rw [hR.wall]
      refine ⟨by omega, by omega, fun _ => rfl, fun z => absurd (by omega) z⟩
    | succ n ih =>
      intro h m h1 h2 h3
      refine v279_4 ?_
      rw [hR.wall, hR.shr]
      by_cases q : P.toPal.wall - 1 ≤ h
      · refine ⟨by omega, by omega, fun _ => ?_, fun z => absurd q z⟩
        rw [show filF P.toPal.wall (P.toPal.shr c) (n + 1) h m = m from if_pos q]
      · have hst := filStep hw hsh (h := h) (by omega)
        have hn := ih (h + ((P.toPal.wall - h) - (P.toPal.wall - h) * P.toPal.shr c / 10)) (m + 1) (by omega) (by omega) (by omega)
        rw [show filF P.toPal.wall (P.toPal.shr c) (n + 1) h m = filF P.toPal.wall (P.toPal.shr c) n (h + ((P.toPal.wall - h) - (P.toPal.wall - h) * P.toPal.shr c / 10)) (m + 1) from if_neg q, Int.tdiv_eq_ediv_of_nonneg hst.1.1]
        exact ⟨by omega, by omega, fun z => absurd z q, fun _ => ⟨hc, by omega, hn⟩⟩
  exact c279 (v279_0 (key 100 0 0 (by omega) (by omega) (by omega)))
theorem filF_bd {w sh : Int} (hw : 1 ≤ w ∧ w ≤ 99) (hs2 : 0 ≤ sh ∧ sh ≤ 9) : ∀ (n : Nat) (h m : Int), 0 ≤ m → m ≤ h → h ≤ w → 0 ≤ filF w sh n h m ∧ filF w sh n h m ≤ 99 := by
  intro n
  induction n with
  | zero =>
    intro h m h1 h2 h3
    show 0 ≤ m ∧ m ≤ 99
    omega
  | succ n ih =>
    intro h m h1 h2 h3
    by_cases q : w - 1 ≤ h
    · rw [show filF w sh (n + 1) h m = m from if_pos q]; omega
    · have hst := filStep hw hs2 (h := h) (by omega)
      rw [show filF w sh (n + 1) h m = filF w sh n (h + ((w - h) - (w - h) * sh / 10)) (m + 1) from if_neg q]
      exact ih _ _ (by omega) (by omega) (by omega)
theorem filZ_bd {c : Int} (hI : PicOK P) (hc : 0 ≤ c ∧ c < 8) : 0 ≤ filZ P c ∧ filZ P c ≤ 99 := filF_bd hI.pal.wall (hI.pal.shr c hc.1 hc.2) 100 0 0 (by omega) (by omega) (by have := hI.pal.wall; omega)
theorem op_fills {x1 : Int} (hI : GInv P N) (h1 : R x1) : Both E N 187 280 [.int (J x1)] := by
  by_cases hc : 0 ≤ x1 ∧ x1 < 8
  · refine both_same (r := .int (J (filZ P x1))) hI (c187 (v187_0 ?_)) (c280 (v280_0 ?_))
    · simp only [G94]
      (repeat' (first | omega | exact True.intro | exact absurd True.intro ‹¬ True› | apply And.intro | intro _))
      exact ⟨_, sp108 hI.ok hI.cls.pal hc, rfl⟩
    · simp only [G261]
      (repeat' (first | omega | exact True.intro | exact absurd True.intro ‹¬ True› | apply And.intro | intro _))
      exact ⟨_, sp279 hI.ok hI.ref hc, rfl⟩
  · refine both_same (r := .int (J (-101))) hI (c187 (v187_0 ?_)) (c280 (v280_0 ?_)) <;> simp only [G94, G261] <;> ((repeat' (first | omega | exact True.intro | exact absurd True.intro ‹¬ True› | apply And.intro | intro _)) <;> rfl)
def stX (c : Int) : Int := if c = 114 then 1 else if c = 108 then -1 else 0
def stY (c : Int) : Int := if c = 117 then 1 else if c = 100 then -1 else 0
def isPt (G : Geo) (x y : Int) : Prop := 0 ≤ x ∧ x ≤ G.w ∧ 0 ≤ y ∧ y ≤ G.h
def goes (P : Pic) (k x y : Int) : Prop := k < P.toPag.pm ∧ ¬ (stX (P.toPag.pg k) = 0 ∧ stY (P.toPag.pg k) = 0) ∧ isPt P.toGeo (x + stX (P.toPag.pg k)) (y + stY (P.toPag.pg k))
noncomputable def gooF (P : Pic) : Nat → Int → Int → Int → Int
  | 0, k, _, _ => k
  | n + 1, k, x, y => @ite Int (goes P k x y) (Classical.propDecidable _) (gooF P n (k + 1) (x + stX (P.toPag.pg k)) (y + stY (P.toPag.pg k))) k
theorem cPt {a b : Int} (hG : GeoR G) (hg : GridOK G N) (ha : R a) (hb : R b) : G41 N a b = bZ (isPt G a b) ∧ Q41 N a b := by
  have h8 := hG.w
  have h9 := hG.h
  unfold G41 Q41
  rw [hg.w, hg.h]
  refine ⟨?_, by (repeat' (first | omega | exact True.intro | exact absurd True.intro ‹¬ True› | apply And.intro | intro _))⟩
  by_cases q : isPt G a b
  · rw [bZ_t q]
    unfold isPt at q
    (repeat' split) <;> omega
  · rw [bZ_f q]
    unfold isPt at q
    (repeat' split) <;> omega
theorem r214 {a b : Int} (hI : PicOK P) (hR : RefOK P N) (ha : R a) (hb : R b) : G214 N a b = bZ (isPt P.toGeo a b) ∧ Q214 N a b := by
  have h8 := hI.geo.w
  have h9 := hI.geo.h
  unfold G214 Q214
  rw [hR.w, hR.h]
  refine ⟨?_, by (repeat' (first | omega | exact True.intro | exact absurd True.intro ‹¬ True› | apply And.intro | intro _))⟩
  by_cases q : isPt P.toGeo a b
  · rw [bZ_t q]
    unfold isPt at q
    (repeat' split) <;> omega
  · rw [bZ_f q]
    unfold isPt at q
    (repeat' split) <;> omega
theorem st_bd {c : Int} : (-1 ≤ stX c ∧ stX c ≤ 1) ∧ (-1 ≤ stY c ∧ stY c ≤ 1) := by
  unfold stX stY
  constructor <;> ((repeat' split) <;> omega)
/-- the way at a place of the page, as the program reads it -/
theorem wayS {k : Int} (hI : PicOK P) (hC : PageOK P.toPag N) (hk : 0 ≤ k ∧ k < 100) :
    Q83 N k ∧ -1 ≤ G83 N k ∧ G83 N k ≤ 3 ∧ (G83 N k = -1 ↔ ¬ (k < P.toPag.pm ∧ ¬ (stX (P.toPag.pg k) = 0 ∧ stY (P.toPag.pg k) = 0))) ∧ (k < P.toPag.pm → G53 N (G83 N k) = stX (P.toPag.pg k) ∧ G54 N (G83 N k) = stY (P.toPag.pg k)) := by
  have hpm := hI.pag.pm
  unfold Q83 G83
  rw [hC.pm]
  by_cases q : k < P.toPag.pm
  · have hr := hI.pag.pg k hk.1 q
    rw [hC.pg k hk.1 q, if_neg (show ¬ k < 0 by omega), if_pos q]
    refine ⟨by (repeat' (first | omega | exact True.intro | exact absurd True.intro ‹¬ True› | apply And.intro | intro _)), ?_⟩
    unfold G53 G54 stX stY
    by_cases a : P.toPag.pg k = 100
    · rw [if_pos a, a]; exact ⟨by decide, by decide, ⟨fun z => absurd z (by decide), fun z => absurd ⟨q, by decide⟩ z⟩, fun _ => ⟨by decide, by decide⟩⟩
    · rw [if_neg a]
      by_cases b : P.toPag.pg k = 108
      · rw [if_pos b, b]; exact ⟨by decide, by decide, ⟨fun z => absurd z (by decide), fun z => absurd ⟨q, by decide⟩ z⟩, fun _ => ⟨by decide, by decide⟩⟩
      · rw [if_neg b]
        by_cases c : P.toPag.pg k = 114
        · rw [if_pos c, c]; exact ⟨by decide, by decide, ⟨fun z => absurd z (by decide), fun z => absurd ⟨q, by decide⟩ z⟩, fun _ => ⟨by decide, by decide⟩⟩
        · rw [if_neg c]
          by_cases d : P.toPag.pg k = 117
          · rw [if_pos d, d]; exact ⟨by decide, by decide, ⟨fun z => absurd z (by decide), fun z => absurd ⟨q, by decide⟩ z⟩, fun _ => ⟨by decide, by decide⟩⟩
          · rw [if_neg d, if_neg c, if_neg b, if_neg d, if_neg a]
            exact ⟨by decide, by decide, ⟨fun _ z => z.2 ⟨rfl, rfl⟩, fun _ => rfl⟩, fun _ => ⟨by decide, by decide⟩⟩
  · rw [if_neg (show ¬ k < 0 by omega), if_neg q]
    exact ⟨⟨by omega, fun _ => trivial, fun _ => ⟨by omega, fun z => absurd z q, fun _ => trivial⟩⟩, by decide, by decide, ⟨fun _ z => q z.1, fun _ => rfl⟩, fun z => absurd z q⟩
theorem sp84 {x y : Int} (hI : PicOK P) (hC : ClsOK P N) (hx : isPt P.toGeo x y) : Rn 84 [.ref 12, .ref 9, .int (J x), .int (J y)] (hs E (jm N)) (some (.int (J (gooF P 24 0 x y)))) (hs E (jm N)) := by
  have h8 := hI.geo.w
  have h9 := hI.geo.h
  have key : ∀ (n : Nat) (k x y : Int), k + n = 24 → 0 ≤ k → isPt P.toGeo x y → Ev 2 84 9 [some (.ref 12), some (.ref 9), none, none, some (.int (J x)), some (.int (J y)), some (.int (J k)), none] [] (hs E (jm N)) (some (.int (J (gooF P n k x y))), (hs E (jm N))) := by
    intro n
    induction n with
    | zero =>
      intro k x y h1 h2 h3
      refine v84_9 ?_
      have e : k = 24 := by omega
      subst e
      exact ⟨by decide, fun _ => rfl, fun z => absurd (Int.le_refl _) z⟩
    | succ n ih =>
      intro k x y h1 h2 h3
      obtain ⟨w1, w2, w3, w4, w5⟩ := wayS hI hC.page (k := k) (by omega)
      have hsb := st_bd (c := P.toPag.pg k)
      unfold isPt at h3
      refine v84_9 ?_
      by_cases q : k < P.toPag.pm ∧ ¬ (stX (P.toPag.pg k) = 0 ∧ stY (P.toPag.pg k) = 0)
      · obtain ⟨u1, u2⟩ := w5 q.1
        obtain ⟨p1, p2⟩ := cPt hI.geo hC.grid (a := x + stX (P.toPag.pg k)) (b := y + stY (P.toPag.pg k)) (by omega) (by omega)
        rw [u1, u2, p1]
        refine ⟨by omega, fun z => absurd z (by omega), fun _ => ⟨w1, ?_, ?_, by omega, fun z => absurd (w4.mp z) (fun y => y q), fun _ => ⟨p2, ?_, fun z => ?_, fun z => ?_⟩⟩⟩
        · unfold Q53; (repeat' (first | omega | exact True.intro | exact absurd True.intro ‹¬ True› | apply And.intro | intro _))
        · unfold Q54; (repeat' (first | omega | exact True.intro | exact absurd True.intro ‹¬ True› | apply And.intro | intro _))
        · rcases bZ_01 (p := isPt P.toGeo (x + stX (P.toPag.pg k)) (y + stY (P.toPag.pg k))) with h | h <;> rw [h] <;> decide
        · rw [show gooF P (n + 1) k x y = k from if_neg (fun (t : goes P k x y) => (bZ_0.mp z) t.2.2)]
        · have hp : isPt P.toGeo (x + stX (P.toPag.pg k)) (y + stY (P.toPag.pg k)) := by
            have := bZ_01 (p := isPt P.toGeo (x + stX (P.toPag.pg k)) (y + stY (P.toPag.pg k)))
            exact bZ_1.mp (by omega)
          rw [show gooF P (n + 1) k x y = gooF P n (k + 1) (x + stX (P.toPag.pg k)) (y + stY (P.toPag.pg k)) from if_pos ⟨q.1, q.2, hp⟩]
          exact ih (k + 1) _ _ (by omega) (by omega) hp
      · have e := w4.mpr q
        rw [show gooF P (n + 1) k x y = k from if_neg (fun (t : goes P k x y) => q ⟨t.1, t.2.1⟩), e]
        refine ⟨by omega, fun z => absurd z (by omega), fun _ => ⟨w1, ?_, ?_, by decide, fun _ => rfl, fun z => absurd rfl z⟩⟩
        · unfold Q53; (repeat' (first | omega | exact True.intro | exact absurd True.intro ‹¬ True› | apply And.intro | intro _))
        · unfold Q54; (repeat' (first | omega | exact True.intro | exact absurd True.intro ‹¬ True› | apply And.intro | intro _))
  exact c84 (v84_0 (key 24 0 x y (by omega) (by omega) hx))
theorem sp217 {x y : Int} (hI : PicOK P) (hR : RefOK P N) (hx : isPt P.toGeo x y) : Rn 217 [.ref 59, .int (J x), .int (J y)] (hs E (jm N)) (some (.int (J (gooF P 24 0 x y)))) (hs E (jm N)) := by
  have h8 := hI.geo.w
  have h9 := hI.geo.h
  have hpm := hI.pag.pm
  have stop : ∀ k x y : Int, Ev 3 217 11 [some (.ref 59), none, none, some (.int (J k)), some (.int (J x)), some (.int (J y)), some (.int (J 0)), none, none] [] (hs E (jm N)) (some (.int (J k)), (hs E (jm N))) := by
    intro k x y
    refine v217_11 ?_
    exact ⟨by decide, fun _ => rfl, fun z => absurd rfl z⟩
  have key : ∀ (n : Nat) (k x y : Int), k + n = 24 → 0 ≤ k → isPt P.toGeo x y → Ev 3 217 11 [some (.ref 59), none, none, some (.int (J k)), some (.int (J x)), some (.int (J y)), some (.int (J 1)), none, none] [] (hs E (jm N)) (some (.int (J (gooF P n k x y))), (hs E (jm N))) := by
    intro n
    induction n with
    | zero =>
      intro k x y h1 h2 h3
      refine v217_11 ?_
      rw [hR.pm]
      have e : k = 24 := by omega
      subst e
      refine ⟨by decide, fun z => absurd z (by decide), fun _ => ⟨by omega, by decide, fun _ => rfl, fun _ => ⟨fun _ => rfl, fun z => absurd (Int.le_refl _) z⟩⟩⟩
    | succ n ih =>
      intro k x y h1 h2 h3
      have hsb := st_bd (c := P.toPag.pg k)
      unfold isPt at h3
      refine v217_11 ?_
      rw [hR.pm, hR.pg]
      by_cases q : k < P.toPag.pm
      · have hr := hI.pag.pg k h2 q
        obtain ⟨p1, p2⟩ := r214 hI hR (a := x + stX (P.toPag.pg k)) (b := y + stY (P.toPag.pg k)) (by omega) (by omega)
        have e1 : G215 N (P.toPag.pg k) = stX (P.toPag.pg k) := rfl
        have e2 : G216 N (P.toPag.pg k) = stY (P.toPag.pg k) := rfl
        have h01 := bZ_01 (p := isPt P.toGeo (x + stX (P.toPag.pg k)) (y + stY (P.toPag.pg k)))
        rw [e1, e2, p1]
        have hno : ¬ goes P k x y → Ev 3 217 11 [some (.ref 59), none, none, some (.int (J k)), some (.int (J x)), some (.int (J y)), some (.int (J 0)), none, none] [] (hs E (jm N)) (some (.int (J (gooF P (n + 1) k x y))), (hs E (jm N))) := by
          intro z
          rw [show gooF P (n + 1) k x y = k from if_neg z]
          exact stop k x y
        have hyes : goes P k x y → Ev 3 217 11 [some (.ref 59), none, none, some (.int (J (k + 1))), some (.int (J (x + stX (P.toPag.pg k)))), some (.int (J (y + stY (P.toPag.pg k)))), some (.int (J 1)), none, none] [] (hs E (jm N)) (some (.int (J (gooF P (n + 1) k x y))), (hs E (jm N))) := by
          intro z
          rw [show gooF P (n + 1) k x y = gooF P n (k + 1) (x + stX (P.toPag.pg k)) (y + stY (P.toPag.pg k)) from if_pos z]
          exact ih (k + 1) _ _ (by omega) (by omega) z.2.2
        refine ⟨by decide, fun z => absurd z (by decide), fun _ => ⟨by omega, by omega, fun z => absurd z (by omega), fun _ => ⟨fun z => absurd z (by omega), fun _ => ⟨by omega, ?_, ?_, by omega, fun a => ⟨by omega, fun b => hno (fun z => z.2.1 ⟨a, b⟩), fun b => ⟨p2, by omega, fun c => hno (fun z => (bZ_0.mp c) z.2.2), fun c => hyes ⟨q, fun z => b z.2, bZ_1.mp (by omega)⟩⟩⟩, fun a => ⟨p2, by omega, fun c => hno (fun z => (bZ_0.mp c) z.2.2), fun c => hyes ⟨q, fun z => a z.1, bZ_1.mp (by omega)⟩⟩⟩⟩⟩⟩
        · unfold Q215; (repeat' (first | omega | exact True.intro | exact absurd True.intro ‹¬ True› | apply And.intro | intro _))
        · unfold Q216; (repeat' (first | omega | exact True.intro | exact absurd True.intro ‹¬ True› | apply And.intro | intro _))
      · rw [show gooF P (n + 1) k x y = k from if_neg (fun (t : goes P k x y) => q t.1)]
        refine ⟨by decide, fun z => absurd z (by decide), fun _ => ⟨by omega, by omega, fun _ => rfl, fun z => absurd (by omega) z⟩⟩
  exact c217 (v217_0 (key 24 0 x y (by omega) (by omega) hx))
theorem op_good {x1 x2 : Int} (hI : GInv P N) (h1 : R x1) (h2 : R x2) : Both E N 164 218 [.int (J x1), .int (J x2)] := by
  obtain ⟨a1, a2⟩ := cPt hI.ok.geo hI.cls.grid h1 h2
  obtain ⟨b1, b2⟩ := r214 hI.ok hI.ref h1 h2
  by_cases q : isPt P.toGeo x1 x2
  · refine both_same (r := .int (J (gooF P 24 0 x1 x2))) hI (c164 (v164_0 ?_)) (c218 (v218_0 ?_))
    · rw [a1, bZ_t q]
      exact ⟨a2, by decide, fun z => absurd z (by decide), fun _ => ⟨_, sp84 hI.ok hI.cls q, rfl⟩⟩
    · rw [b1, bZ_t q]
      exact ⟨b2, by decide, fun z => absurd z (by decide), fun _ => ⟨_, sp217 hI.ok hI.ref q, rfl⟩⟩
  · refine both_same (r := .int (J (-101))) hI (c164 (v164_0 ?_)) (c218 (v218_0 ?_))
    · rw [a1, bZ_f q]
      exact ⟨a2, by decide, fun _ => rfl, fun z => absurd rfl z⟩
    · rw [b1, bZ_f q]
      exact ⟨b2, by decide, fun _ => rfl, fun z => absurd rfl z⟩
end FLS
