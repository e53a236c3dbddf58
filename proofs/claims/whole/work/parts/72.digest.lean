/-! the digest -/
section DIG
variable {E : gw_N} {N : NM} {P : Pic}
def mx (h : Int64) (z : Int) : Int64 := 31 * h + Int32.toInt64 (J z)
def fdN (f : Int → Int64 → Int64) : Nat → Int64 → Int64
  | 0, h => h
  | n + 1, h => f (n : Int) (fdN f n h)
def fdZ (f : Int → Int64 → Int64) (k : Int) (h : Int64) : Int64 := fdN f k.toNat h
theorem fdZ_0 {f : Int → Int64 → Int64} {h : Int64} : fdZ f 0 h = h := rfl
theorem fdZ_s {f : Int → Int64 → Int64} {k : Int} {h : Int64} (hk : 0 ≤ k) : fdZ f (k + 1) h = f k (fdZ f k h) := by
  unfold fdZ
  rw [show (k + 1).toNat = k.toNat + 1 by omega]
  show f ((k.toNat : Nat) : Int) _ = _
  rw [Int.toNat_of_nonneg hk]
theorem g207 {a b : Int64} : G207 N a b = 31 * a + b := rfl
theorem g206 {b : Int} (h : b = 0 ∨ b = 1) : G206 N b = b := by
  rcases h with h | h <;> rw [h]
  · exact G206_0
  · exact G206_1
theorem q206 {b : Int} (h : b = 0 ∨ b = 1) : Q206 N b := ⟨by omega, fun _ => trivial, fun _ => trivial⟩
def dWire (P : Pic) : Int → Int64 → Int64 := fun v h => fdZ (fun i h => mx h (ptC P.toGeo v i)) (P.toGeo.mv v + 1) (mx (mx h (P.toGeo.laid v)) (P.toGeo.sold v))
def dCol (P : Pic) : Int → Int64 → Int64 := fun c h => mx (mx (mx h (P.toPal.heat c)) (P.toPal.shr c)) (P.toPal.pul c)
def dFoe (P : Pic) : Int → Int64 → Int64 := fun a h => fdZ (fun j h => mx h (P.toPal.foe (8 * a + (a + 1 + j)))) (8 - (a + 1)) h
def dLay (P : Pic) : Int → Int64 → Int64 := fun f h => fdZ (fun i h => mx (mx (mx h (P.toGla.col (12 * f + i))) (P.toGla.thk (12 * f + i))) (P.toGla.sta (12 * f + i))) (P.toGla.lay f) h
def dRod (P : Pic) : Int → Int64 → Int64 := fun k h => mx (mx h (P.toRod.rl k)) (P.toRod.rm k)
def dPag (P : Pic) : Int → Int64 → Int64 := fun k h => mx h (P.toPag.pg k)
def dig1 (P : Pic) (h : Int64) : Int64 := fdZ (dWire P) P.toGeo.ws h
def dig2 (P : Pic) (h : Int64) : Int64 := mx (mx (mx (fdZ (dFoe P) 8 (fdZ (dCol P) 8 h)) P.toPal.wall) P.toPal.stiff) P.toPal.bear
def dig3 (P : Pic) (h : Int64) : Int64 := fdZ (dLay P) (P.toGeo.w * P.toGeo.h) h
def dig4 (P : Pic) (h : Int64) : Int64 := mx (mx (mx h P.toTen.bc) P.toTen.bt) P.toGla.fires
def dig5 (P : Pic) (h : Int64) : Int64 := fdZ (dRod P) P.toRod.rods h
def dig6 (P : Pic) (h : Int64) : Int64 := fdZ (dPag P) P.toPag.pm h
def digZ (P : Pic) : Int64 := dig6 P (dig5 P (dig4 P (dig3 P (dig2 P (dig1 P (mx (mx 233 P.toGeo.w) P.toGeo.h))))))
-- the program
theorem sp159 {h : Int64} (hI : PicOK P) (hC : ClsOK P N) : Rn 159 [.ref 14, .long (h)] (hs E (jm N)) (some (.long (dig1 P h))) (hs E (jm N)) := by
  have hws := hI.geo.ws
  have hw := hC.wires
  unfold dig1
  refine c159 (v159_0 ?_)
  refine loopZ (a := 0) (n := P.toGeo.ws) (Q := fun v => Ev 2 159 5 [some (.ref 14), none, none, some (.long (fdZ (dWire P) v h)), none, some (.int (J v)), none] [] (hs E (jm N)) (_, _)) hws.1 ?_ ?_
  · refine v159_5 ?_
    rw [hw.ws]
    exact ⟨by omega, by omega, fun _ => rfl, fun z => absurd (Int.le_refl _) z⟩
  · intro v v1 v2 ih
    have hm := hI.geo.mv v v1 v2
    have hla := hI.geo.laid v v1 v2
    have hso := hI.geo.sold v v1 v2
    rw [fdZ_s v1] at ih
    refine v159_5 ?_
    rw [hw.ws, hw.laid v v1 v2, hw.sold v v1 v2, g206 hla, g206 hso]
    refine ⟨by omega, by omega, fun z => absurd z (by omega), fun _ => ⟨by omega, q206 hla, q206 hso, ?_⟩⟩
    refine loopZ (a := 0) (n := P.toGeo.mv v + 1) (Q := fun i => Ev 2 159 47 [some (.ref 14), none, none, some (.long (fdZ (fun i h => mx h (ptC P.toGeo v i)) i (mx (mx (fdZ (dWire P) v h) (P.toGeo.laid v)) (P.toGeo.sold v)))), none, some (.int (J v)), some (.int (J i))] [] (hs E (jm N)) (_, _)) (by omega) ?_ ?_
    · refine v159_47 ?_
      rw [hw.mv v v1 v2]
      exact ⟨by omega, by omega, by omega, fun _ => ih, fun z => absurd (by omega) z⟩
    · intro i i1 i2 ih2
      rw [fdZ_s i1] at ih2
      obtain ⟨d1, d2⟩ := w_pt hI.geo hw (v := v) (i := i) ⟨v1, v2⟩ (by omega)
      refine v159_47 ?_
      rw [hw.mv v v1 v2, d1]
      exact ⟨by omega, by omega, by omega, fun z => absurd z (by omega), fun _ => ⟨d2, ih2⟩⟩
theorem sp109 {h : Int64} (hI : PicOK P) (hC : ClsOK P N) : Rn 109 [.ref 40, .long (h)] (hs E (jm N)) (some (.long (dig2 P h))) (hs E (jm N)) := by
  have hp := hC.pal
  unfold dig2
  refine c109 (v109_0 ?_)
  refine loopZ (a := 0) (n := 8) (Q := fun c => Ev 2 109 5 [some (.ref 40), none, none, some (.long (fdZ (dCol P) c h)), none, some (.int (J (3 * c))), none] [] (hs E (jm N)) (_, _)) (by decide) ?_ ?_
  · refine v109_5 ⟨by decide, fun _ => ?_, fun z => absurd (by decide) z⟩
    refine loopZ (a := 0) (n := 8) (Q := fun a => Ev 2 109 34 [some (.ref 40), none, none, some (.long (fdZ (dFoe P) a (fdZ (dCol P) 8 h))), none, some (.int (J a)), none] [] (hs E (jm N)) (_, _)) (by decide) ?_ ?_
    · refine v109_34 ⟨by decide, fun _ => ?_, fun z => absurd (Int.le_refl _) z⟩
      refine v109_86 ⟨by decide, fun z => absurd z (by decide), fun _ => ⟨by decide, ?_⟩⟩
      refine v109_86 ⟨by decide, fun z => absurd z (by decide), fun _ => ⟨by decide, ?_⟩⟩
      refine v109_86 ⟨by decide, fun z => absurd z (by decide), fun _ => ⟨by decide, ?_⟩⟩
      refine v109_86 ⟨by decide, fun _ => ?_, fun z => absurd (by decide) z⟩
      rw [show (0 : Int) + 1 = 1 from rfl, show (1 : Int) + 1 = 2 from rfl, hp.wall, hp.stiff, hp.bear]
      rfl
    · intro a a1 a2 ih
      rw [fdZ_s a1] at ih
      refine v109_34 ⟨by omega, fun z => absurd z (by omega), fun _ => ?_⟩
      have h0 := loopZ (a := a + 1) (n := 8) (Q := fun b => Ev 2 109 47 [some (.ref 40), none, none, some (.long (fdZ (fun j h => mx h (P.toPal.foe (8 * a + (a + 1 + j)))) (b - (a + 1)) (fdZ (dFoe P) a (fdZ (dCol P) 8 h)))), none, some (.int (J a)), some (.int (J b))] [] (hs E (jm N)) (some (.long (mx (mx (mx (fdZ (dFoe P) 8 (fdZ (dCol P) 8 h)) P.toPal.wall) P.toPal.stiff) P.toPal.bear)), (hs E (jm N)))) (by omega) ?_ ?_
      · rw [Int.sub_self, fdZ_0] at h0
        exact h0
      · exact v109_47 ⟨by decide, fun _ => ih, fun z => absurd (Int.le_refl _) z⟩
      · intro b b1 b2 ih2
        rw [show b + 1 - (a + 1) = (b - (a + 1)) + 1 by omega, fdZ_s (by omega), show a + 1 + (b - (a + 1)) = b by omega] at ih2
        have hv1 := hp.foeR a a1 a2
        have hb : G106 N a b = P.toPal.foe (8 * a + b) := by
          have e1 : zand (zshr (N 42 a) b) 1 = P.toPal.foe (8 * a + b) := (zbit hv1 ⟨by omega, b2⟩).trans (hp.foe a b a1 a2 (by omega) b2)
          have hf := hI.pal.foe (8 * a + b) (by omega) (by omega)
          unfold G106
          rw [e1]
          rcases hf with z | z <;> rw [z] <;> decide
        have hf := hI.pal.foe (8 * a + b) (by omega) (by omega)
        have hq : Q106 N a b := by
          have e1 : zand (zshr (N 42 a) b) 1 = P.toPal.foe (8 * a + b) := (zbit hv1 ⟨by omega, b2⟩).trans (hp.foe a b a1 a2 (by omega) b2)
          unfold Q106
          rw [e1]
          (repeat' (first | omega | exact True.intro | exact absurd True.intro ‹¬ True› | apply And.intro | intro _))
        refine v109_47 ?_
        rw [hb, g206 hf]
        exact ⟨by omega, fun z => absurd z (by omega), fun _ => ⟨hq, q206 hf, ih2⟩⟩
  · intro c c1 c2 ih
    rw [fdZ_s c1] at ih
    refine v109_5 ⟨by omega, fun z => absurd z (by omega), fun _ => ⟨by omega, ?_⟩⟩
    refine v109_5 ⟨by omega, fun z => absurd z (by omega), fun _ => ⟨by omega, ?_⟩⟩
    refine v109_5 ⟨by omega, fun z => absurd z (by omega), fun _ => ⟨by omega, ?_⟩⟩
    rw [show 3 * c + 1 + 1 + 1 = 3 * (c + 1) by omega, show 3 * c + 1 + 1 = 3 * c + 2 by omega, hp.heat c c1 c2, hp.shr c c1 c2, hp.pul c c1 c2]
    exact ih
theorem sp34 {h : Int64} (hI : PicOK P) (hC : ClsOK P N) : Rn 34 [.ref 44, .long (h)] (hs E (jm N)) (some (.long (dig3 P h))) (hs E (jm N)) := by
  have hb := fld_bd hI.geo
  have hg := hC.glass
  unfold dig3
  refine c34 (v34_0 ?_)
  refine loopZ (a := 0) (n := P.toGeo.w * P.toGeo.h) (Q := fun f => Ev 2 34 5 [some (.ref 44), none, none, some (.long (fdZ (dLay P) f h)), none, some (.int (J f)), none, none] [] (hs E (jm N)) (_, _)) (by omega) ?_ ?_
  · refine v34_5 ?_
    rw [cF hC.grid]
    exact ⟨by omega, by omega, fun _ => rfl, fun z => absurd (Int.le_refl _) z⟩
  · intro f f1 f2 ih
    have hl := hI.gla.lay f f1 (by omega)
    rw [fdZ_s f1] at ih
    refine v34_5 ?_
    rw [cF hC.grid]
    refine ⟨by omega, by omega, fun z => absurd z (by omega), fun _ => ?_⟩
    refine loopZ (a := 0) (n := P.toGla.lay f) (Q := fun i => Ev 2 34 20 [some (.ref 44), none, none, some (.long (fdZ (fun i h => mx (mx (mx h (P.toGla.col (12 * f + i))) (P.toGla.thk (12 * f + i))) (P.toGla.sta (12 * f + i))) i (fdZ (dLay P) f h))), none, some (.int (J f)), some (.int (J i)), none] [] (hs E (jm N)) (_, _)) (by omega) ?_ ?_
    · refine v34_20 ?_
      rw [hg.layF]
      exact ⟨by omega, by omega, by omega, fun _ => ih, fun z => absurd (Int.le_refl _) z⟩
    · intro i i1 i2 ih2
      rw [fdZ_s i1] at ih2
      refine v34_20 ?_
      rw [hg.layF, hg.colF, hg.thkF, hg.staF]
      exact ⟨by omega, by omega, by omega, fun z => absurd z (by omega), fun _ => ⟨by omega, ih2⟩⟩
theorem sp127 {h : Int64} (hI : PicOK P) (hC : ClsOK P N) : Rn 127 [.ref 54, .long (h)] (hs E (jm N)) (some (.long (dig5 P h))) (hs E (jm N)) := by
  have hk := hI.rod.rods
  have hr := hC.rods
  unfold dig5
  refine c127 (v127_0 ?_)
  refine loopZ (a := 0) (n := P.toRod.rods) (Q := fun k => Ev 2 127 5 [some (.ref 54), none, none, some (.long (fdZ (dRod P) k h)), none, some (.int (J k))] [] (hs E (jm N)) (_, _)) hk.1 ?_ ?_
  · refine v127_5 ?_
    rw [hr.rods]
    exact ⟨by omega, by omega, fun _ => rfl, fun z => absurd (Int.le_refl _) z⟩
  · intro k k1 k2 ih
    rw [fdZ_s k1] at ih
    refine v127_5 ?_
    rw [hr.rods, hr.rl k k1 k2, hr.rm k k1 k2]
    exact ⟨by omega, by omega, fun z => absurd z (by omega), fun _ => ⟨by omega, ih⟩⟩
theorem sp86 {h : Int64} (hI : PicOK P) (hC : ClsOK P N) : Rn 86 [.ref 12, .long (h)] (hs E (jm N)) (some (.long (dig6 P h))) (hs E (jm N)) := by
  have hk := hI.pag.pm
  have hr := hC.page
  unfold dig6
  refine c86 (v86_0 ?_)
  refine loopZ (a := 0) (n := P.toPag.pm) (Q := fun k => Ev 2 86 5 [some (.ref 12), none, none, some (.long (fdZ (dPag P) k h)), none, some (.int (J k))] [] (hs E (jm N)) (_, _)) hk.1 ?_ ?_
  · refine v86_5 ?_
    rw [hr.pm]
    exact ⟨by omega, by omega, fun _ => rfl, fun z => absurd (Int.le_refl _) z⟩
  · intro k k1 k2 ih
    rw [fdZ_s k1] at ih
    refine v86_5 ?_
    rw [hr.pm, hr.pg k k1 k2]
    exact ⟨by omega, by omega, fun z => absurd z (by omega), fun _ => ⟨by omega, ih⟩⟩
theorem sp202 (hI : PicOK P) (hC : ClsOK P N) : Rn 202 [.ref 8] (hs E (jm N)) (some (.long (digZ P))) (hs E (jm N)) := by
  refine c202 (v202_0 ⟨_, sp159 hI hC, _, sp109 hI hC, _, sp34 hI hC, _, sp127 hI hC, _, sp86 hI hC, ?_⟩)
  have e1 : G55 N 233 = mx (mx 233 P.toGeo.w) P.toGeo.h := by
    unfold G55
    rw [hC.grid.w, hC.grid.h]
    rfl
  have e2 : ∀ h, G207 N (G140 N h) (Int32.toInt64 (J (G10 N))) = dig4 P h := by
    intro h
    unfold G140 G10
    rw [hC.ten.bc, hC.ten.bt, hC.glass.fires]
    rfl
  rw [e1, e2]
  rfl
-- the reference
theorem r308 (hI : PicOK P) (hR : RefOK P N) : Rn 308 [.ref 59] (hs E (jm N)) (some (.long (digZ P))) (hs E (jm N)) := by
  have hws := hI.geo.ws
  have hb := fld_bd hI.geo
  have hk := hI.rod.rods
  have hpm := hI.pag.pm
  have s6 : ∀ h, Ev 2 308 468 [some (.ref 59), some (.long (h)), none, some (.int (J 0)), none] [] (hs E (jm N)) (some (.long (dig6 P h)), (hs E (jm N))) := by
    intro h
    unfold dig6
    refine loopZ (a := 0) (n := P.toPag.pm) (Q := fun k => Ev 2 308 468 [some (.ref 59), some (.long (fdZ (dPag P) k h)), none, some (.int (J k)), none] [] (hs E (jm N)) (_, _)) hpm.1 ?_ ?_
    · refine v308_468 ?_
      rw [hR.pm]
      exact ⟨by omega, by omega, fun _ => rfl, fun z => absurd (Int.le_refl _) z⟩
    · intro k k1 k2 ih
      rw [fdZ_s k1] at ih
      refine v308_468 ?_
      rw [hR.pm, hR.pg]
      exact ⟨by omega, by omega, fun z => absurd z (by omega), fun _ => ⟨by omega, ih⟩⟩
  have s5 : ∀ h, Ev 2 308 424 [some (.ref 59), some (.long (h)), none, some (.int (J 0)), none] [] (hs E (jm N)) (some (.long (dig6 P (dig5 P h))), (hs E (jm N))) := by
    intro h
    refine loopZ (a := 0) (n := P.toRod.rods) (Q := fun k => Ev 2 308 424 [some (.ref 59), some (.long (fdZ (dRod P) k h)), none, some (.int (J k)), none] [] (hs E (jm N)) (some (.long (dig6 P (dig5 P h))), (hs E (jm N)))) hk.1 ?_ ?_
    · refine v308_424 ?_
      rw [hR.rods]
      exact ⟨by omega, by omega, fun _ => s6 _, fun z => absurd (Int.le_refl _) z⟩
    · intro k k1 k2 ih
      rw [fdZ_s k1] at ih
      refine v308_424 ?_
      rw [hR.rods, hR.rl, hR.rm]
      exact ⟨by omega, by omega, fun z => absurd z (by omega), fun _ => ⟨by omega, ih⟩⟩
  have s3 : ∀ h, Ev 2 308 292 [some (.ref 59), some (.long (h)), none, some (.int (J 0)), none] [] (hs E (jm N)) (some (.long (dig6 P (dig5 P (dig4 P (dig3 P h))))), (hs E (jm N))) := by
    intro h
    refine loopZ (a := 0) (n := P.toGeo.w * P.toGeo.h) (Q := fun f => Ev 2 308 292 [some (.ref 59), some (.long (fdZ (dLay P) f h)), none, some (.int (J f)), none] [] (hs E (jm N)) (some (.long (dig6 P (dig5 P (dig4 P (dig3 P h))))), (hs E (jm N)))) (by omega) ?_ ?_
    · refine v308_292 ?_
      rw [rF hR, hR.bc, hR.bt, hR.fires]
      exact ⟨by omega, by omega, fun _ => s5 _, fun z => absurd (Int.le_refl _) z⟩
    · intro f f1 f2 ih
      have hl := hI.gla.lay f f1 (by omega)
      rw [fdZ_s f1] at ih
      refine v308_292 ?_
      rw [rF hR]
      refine ⟨by omega, by omega, fun z => absurd z (by omega), fun _ => ?_⟩
      refine loopZ (a := 0) (n := P.toGla.lay f) (Q := fun i => Ev 2 308 303 [some (.ref 59), some (.long (fdZ (fun i h => mx (mx (mx h (P.toGla.col (12 * f + i))) (P.toGla.thk (12 * f + i))) (P.toGla.sta (12 * f + i))) i (fdZ (dLay P) f h))), none, some (.int (J f)), some (.int (J i))] [] (hs E (jm N)) (some (.long (dig6 P (dig5 P (dig4 P (dig3 P h))))), (hs E (jm N)))) (by omega) ?_ ?_
      · refine v308_303 ?_
        rw [hR.lay]
        exact ⟨by omega, by omega, by omega, fun _ => ih, fun z => absurd (Int.le_refl _) z⟩
      · intro i i1 i2 ih2
        rw [fdZ_s i1] at ih2
        refine v308_303 ?_
        rw [hR.lay, hR.col, hR.thk, hR.sta]
        exact ⟨by omega, by omega, by omega, fun z => absurd z (by omega), fun _ => ⟨by omega, ih2⟩⟩
  have s2b : ∀ h, Ev 2 308 196 [some (.ref 59), some (.long (h)), none, some (.int (J 0)), none] [] (hs E (jm N)) (some (.long (dig6 P (dig5 P (dig4 P (dig3 P (mx (mx (mx (fdZ (dFoe P) 8 h) P.toPal.wall) P.toPal.stiff) P.toPal.bear)))))), (hs E (jm N))) := by
    intro h
    refine loopZ (a := 0) (n := 8) (Q := fun a => Ev 2 308 196 [some (.ref 59), some (.long (fdZ (dFoe P) a h)), none, some (.int (J a)), none] [] (hs E (jm N)) (some (.long (dig6 P (dig5 P (dig4 P (dig3 P (mx (mx (mx (fdZ (dFoe P) 8 h) P.toPal.wall) P.toPal.stiff) P.toPal.bear)))))), (hs E (jm N)))) (by decide) ?_ ?_
    · refine v308_196 ?_
      rw [hR.wall, hR.stiff, hR.bear]
      exact ⟨by decide, fun _ => s3 _, fun z => absurd (Int.le_refl _) z⟩
    · intro a a1 a2 ih
      rw [fdZ_s a1] at ih
      refine v308_196 ⟨by omega, fun z => absurd z (by omega), fun _ => ?_⟩
      have h0 := loopZ (a := a + 1) (n := 8) (Q := fun b => Ev 2 308 207 [some (.ref 59), some (.long (fdZ (fun j h => mx h (P.toPal.foe (8 * a + (a + 1 + j)))) (b - (a + 1)) (fdZ (dFoe P) a h))), none, some (.int (J a)), some (.int (J b))] [] (hs E (jm N)) (some (.long (dig6 P (dig5 P (dig4 P (dig3 P (mx (mx (mx (fdZ (dFoe P) 8 h) P.toPal.wall) P.toPal.stiff) P.toPal.bear)))))), (hs E (jm N)))) (by omega) ?_ ?_
      · rw [Int.sub_self, fdZ_0] at h0
        exact h0
      · exact v308_207 ⟨by decide, fun _ => ih, fun z => absurd (Int.le_refl _) z⟩
      · intro b b1 b2 ih2
        rw [show b + 1 - (a + 1) = (b - (a + 1)) + 1 by omega, fdZ_s (by omega), show a + 1 + (b - (a + 1)) = b by omega] at ih2
        have hf := hI.pal.foe (8 * a + b) (by omega) (by omega)
        refine v308_207 ?_
        rw [hR.foe]
        refine ⟨by omega, fun z => absurd z (by omega), fun _ => ⟨by omega, by omega, fun z => ?_, fun z => ?_⟩⟩
        · rw [z] at ih2
          exact ih2
        · rw [show P.toPal.foe (8 * a + b) = 1 by omega] at ih2
          exact ih2
  have s2 : ∀ h, Ev 2 308 140 [some (.ref 59), some (.long (h)), none, some (.int (J 0)), none] [] (hs E (jm N)) (some (.long (dig6 P (dig5 P (dig4 P (dig3 P (dig2 P h)))))), (hs E (jm N))) := by
    intro h
    refine loopZ (a := 0) (n := 8) (Q := fun c => Ev 2 308 140 [some (.ref 59), some (.long (fdZ (dCol P) c h)), none, some (.int (J c)), none] [] (hs E (jm N)) (some (.long (dig6 P (dig5 P (dig4 P (dig3 P (dig2 P h)))))), (hs E (jm N)))) (by decide) ?_ ?_
    · exact v308_140 ⟨by decide, fun _ => s2b _, fun z => absurd (Int.le_refl _) z⟩
    · intro c c1 c2 ih
      rw [fdZ_s c1] at ih
      refine v308_140 ?_
      rw [hR.heat, hR.shr, hR.pul]
      exact ⟨by omega, fun z => absurd z (by omega), fun _ => ⟨by omega, ih⟩⟩
  have s1 : ∀ h, Ev 2 308 24 [some (.ref 59), some (.long (h)), none, some (.int (J 0)), none] [] (hs E (jm N)) (some (.long (dig6 P (dig5 P (dig4 P (dig3 P (dig2 P (dig1 P h))))))), (hs E (jm N))) := by
    intro h
    refine loopZ (a := 0) (n := P.toGeo.ws) (Q := fun v => Ev 2 308 24 [some (.ref 59), some (.long (fdZ (dWire P) v h)), none, some (.int (J v)), none] [] (hs E (jm N)) (some (.long (dig6 P (dig5 P (dig4 P (dig3 P (dig2 P (dig1 P h))))))), (hs E (jm N)))) hws.1 ?_ ?_
    · refine v308_24 ?_
      rw [hR.ws]
      exact ⟨by omega, by omega, fun _ => s2 _, fun z => absurd (Int.le_refl _) z⟩
    · intro v v1 v2 ih
      have hm := hI.geo.mv v v1 v2
      have hla := hI.geo.laid v v1 v2
      have hso := hI.geo.sold v v1 v2
      rw [fdZ_s v1] at ih
      have inner : Ev 2 308 79 [some (.ref 59), some (.long (mx (mx (fdZ (dWire P) v h) (P.toGeo.laid v)) (P.toGeo.sold v))), none, some (.int (J v)), some (.int (J 0))] [] (hs E (jm N)) (some (.long (dig6 P (dig5 P (dig4 P (dig3 P (dig2 P (dig1 P h))))))), (hs E (jm N))) := by
        refine loopZ (a := 0) (n := P.toGeo.mv v + 1) (Q := fun i => Ev 2 308 79 [some (.ref 59), some (.long (fdZ (fun i h => mx h (ptC P.toGeo v i)) i (mx (mx (fdZ (dWire P) v h) (P.toGeo.laid v)) (P.toGeo.sold v)))), none, some (.int (J v)), some (.int (J i))] [] (hs E (jm N)) (some (.long (dig6 P (dig5 P (dig4 P (dig3 P (dig2 P (dig1 P h))))))), (hs E (jm N)))) (by omega) ?_ ?_
        · refine v308_79 ?_
          rw [hR.mv]
          exact ⟨by omega, by omega, by omega, fun _ => ih, fun z => absurd (by omega) z⟩
        · intro i i1 i2 ih2
          rw [fdZ_s i1] at ih2
          refine v308_79 ?_
          rw [hR.mv, hR.px, hR.py]
          exact ⟨by omega, by omega, by omega, fun z => absurd z (by omega), fun _ => ⟨by omega, ih2⟩⟩
      refine v308_24 ?_
      rw [hR.ws, hR.laid, hR.sold]
      refine ⟨by omega, by omega, fun z => absurd z (by omega), fun _ => ⟨by omega, by omega, fun z => ⟨by omega, fun w => ?_, fun w => ?_⟩, fun z => ⟨by omega, fun w => ?_, fun w => ?_⟩⟩⟩
      · rw [z, w] at inner
        exact inner
      · rw [z, show P.toGeo.sold v = 1 by omega] at inner
        exact inner
      · rw [show P.toGeo.laid v = 1 by omega, w] at inner
        exact inner
      · rw [show P.toGeo.laid v = 1 by omega, show P.toGeo.sold v = 1 by omega] at inner
        exact inner
  refine c308 (v308_0 ?_)
  rw [hR.w, hR.h]
  have e : (31 * (7223 + Int32.toInt64 (J P.toGeo.w)) + Int32.toInt64 (J P.toGeo.h) : Int64) = mx (mx 233 P.toGeo.w) P.toGeo.h := by
    unfold mx
    rw [show (31 : Int64) * 233 = 7223 by decide]
  rw [e]
  exact s1 _
theorem op_digest (hI : GInv P N) : Both E N 202 308 [] := both_same (r := .long (digZ P)) hI (sp202 hI.ok hI.cls) (r308 hI.ok hI.ref)
end DIG
