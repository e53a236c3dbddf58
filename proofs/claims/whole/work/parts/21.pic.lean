/-! the picture that both sides hold, and what it is for each side to hold it -/
structure Geo where
  (w h ws : Int)
  (px py mv laid sold : Int → Int)
structure Pag where
  pm : Int
  pg : Int → Int
structure Pal where
  (wall stiff bear : Int)
  (heat shr pul foe : Int → Int)
structure Gla where
  fires : Int
  (lay col thk sta : Int → Int)
structure Ten where
  (bc bt : Int)
structure Rod where
  rods : Int
  (rl rm : Int → Int)
structure Pic extends Geo, Pag, Pal, Gla, Ten, Rod
structure GeoR (P : Geo) : Prop where
  w : 2 ≤ P.w ∧ P.w ≤ 8
  h : 2 ≤ P.h ∧ P.h ≤ 8
  ws : 0 ≤ P.ws ∧ P.ws ≤ 30
  mv : ∀ v, 0 ≤ v → v < P.ws → 1 ≤ P.mv v ∧ P.mv v ≤ 24
  laid : ∀ v, 0 ≤ v → v < P.ws → P.laid v = 0 ∨ P.laid v = 1
  sold : ∀ v, 0 ≤ v → v < P.ws → P.sold v = 0 ∨ P.sold v = 1
  px : ∀ v i, 0 ≤ v → v < P.ws → 0 ≤ i → i ≤ P.mv v → 0 ≤ P.px (25 * v + i) ∧ P.px (25 * v + i) ≤ P.w
  py : ∀ v i, 0 ≤ v → v < P.ws → 0 ≤ i → i ≤ P.mv v → 0 ≤ P.py (25 * v + i) ∧ P.py (25 * v + i) ≤ P.h
  step : ∀ v i, 0 ≤ v → v < P.ws → 0 ≤ i → i < P.mv v →
    (P.px (25 * v + i + 1) = P.px (25 * v + i) + 1 ∧ P.py (25 * v + i + 1) = P.py (25 * v + i)) ∨
    (P.px (25 * v + i + 1) = P.px (25 * v + i) ∧ P.py (25 * v + i + 1) = P.py (25 * v + i) + 1) ∨
    (P.px (25 * v + i + 1) = P.px (25 * v + i) - 1 ∧ P.py (25 * v + i + 1) = P.py (25 * v + i)) ∨
    (P.px (25 * v + i + 1) = P.px (25 * v + i) ∧ P.py (25 * v + i + 1) = P.py (25 * v + i) - 1)
structure PagR (P : Pag) : Prop where
  pm : 0 ≤ P.pm ∧ P.pm ≤ 40
  pg : ∀ i, 0 ≤ i → i < P.pm → R (P.pg i)
structure PalR (P : Pal) : Prop where
  heat : ∀ c, 0 ≤ c → c < 8 → 1 ≤ P.heat c ∧ P.heat c ≤ 900
  shr : ∀ c, 0 ≤ c → c < 8 → 0 ≤ P.shr c ∧ P.shr c ≤ 9
  pul : ∀ c, 0 ≤ c → c < 8 → 0 ≤ P.pul c ∧ P.pul c ≤ 99
  foe : ∀ i, 0 ≤ i → i < 64 → P.foe i = 0 ∨ P.foe i = 1
  wall : 1 ≤ P.wall ∧ P.wall ≤ 99
  stiff : 1 ≤ P.stiff ∧ P.stiff ≤ 99
  bear : 1 ≤ P.bear ∧ P.bear ≤ 999
structure GlaR (P : Gla) : Prop where
  lay : ∀ f, 0 ≤ f → f < 64 → 0 ≤ P.lay f ∧ P.lay f ≤ 12
  col : ∀ i, 0 ≤ i → i < 768 → 0 ≤ P.col i ∧ P.col i < 8
  thk : ∀ i, 0 ≤ i → i < 768 → 0 ≤ P.thk i ∧ P.thk i ≤ 99
  sta : ∀ i, 0 ≤ i → i < 768 → 0 ≤ P.sta i ∧ P.sta i ≤ 2
  thk1 : ∀ f k, 0 ≤ f → f < 64 → 0 ≤ k → k < P.lay f → 1 ≤ P.thk (12 * f + k)
structure TenR (P : Ten) : Prop where
  bc : 0 ≤ P.bc ∧ P.bc < 8
  bt : 0 ≤ P.bt ∧ P.bt ≤ 99
structure RodR (P : Rod) : Prop where
  rods : 0 ≤ P.rods ∧ P.rods ≤ 8
  rl : ∀ k, 0 ≤ k → k < P.rods → 1 ≤ P.rl k ∧ P.rl k ≤ 99
  rm : ∀ k, 0 ≤ k → k < P.rods → 0 ≤ P.rm k ∧ P.rm k ≤ 20
structure PicOK (P : Pic) : Prop where
  geo : GeoR P.toGeo
  pag : PagR P.toPag
  pal : PalR P.toPal
  gla : GlaR P.toGla
  ten : TenR P.toTen
  rod : RodR P.toRod
/-- the reference holds it -/
structure RefOK (P : Pic) (N : NM) : Prop where
  w : N 59 0 = P.w
  h : N 59 1 = P.h
  pm : N 59 3 = P.pm
  ws : N 59 4 = P.ws
  wall : N 59 22 = P.wall
  stiff : N 59 23 = P.stiff
  bear : N 59 24 = P.bear
  fires : N 59 29 = P.fires
  bc : N 59 34 = P.bc
  bt : N 59 35 = P.bt
  rods : N 59 36 = P.rods
  pg : N 60 = P.pg
  px : N 61 = P.px
  py : N 62 = P.py
  mv : N 63 = P.mv
  laid : N 64 = P.laid
  sold : N 65 = P.sold
  heat : N 73 = P.heat
  shr : N 74 = P.shr
  pul : N 75 = P.pul
  foe : N 76 = P.foe
  lay : N 77 = P.lay
  col : N 78 = P.col
  thk : N 79 = P.thk
  sta : N 80 = P.sta
  rl : N 84 = P.rl
  rm : N 85 = P.rm
-- what is derived from the picture
/-- the class's number of the edge of the i-th move of a wire -/
def eC (P : Geo) (v i : Int) : Int :=
  if P.px (25 * v + i) = P.px (25 * v + i + 1) then 89 + 10 * min (P.py (25 * v + i)) (P.py (25 * v + i + 1)) + P.px (25 * v + i)
  else 10 * P.py (25 * v + i) + min (P.px (25 * v + i)) (P.px (25 * v + i + 1))
def onC (P : Geo) (v e : Int) : Prop := ∃ i, 0 ≤ i ∧ i < P.mv v ∧ eC P v i = e
def ptC (P : Geo) (v i : Int) : Int := 10 * P.py (25 * v + i) + P.px (25 * v + i)
def atC (P : Geo) (v p : Int) : Prop := ∃ i, 0 ≤ i ∧ i < P.mv v + 1 ∧ ptC P v i = p
noncomputable def covC (P : Geo) (e : Int) : Int := sumZ P.ws (fun v => bZ (P.laid v = 1 ∧ onC P v e))
noncomputable def solC (P : Geo) (e : Int) : Int := sumZ P.ws (fun v => bZ (P.laid v = 1 ∧ P.sold v = 1 ∧ onC P v e))
noncomputable def comC (P : Geo) (p : Int) : Int := sumZ P.ws (fun v => bZ (P.laid v = 1 ∧ atC P v p))
/-- the k-th move (from the second on) bends -/
def bendAt (P : Geo) (v k : Int) : Prop :=
  ¬ (P.px (25 * v + k + 1) - P.px (25 * v + k) = P.px (25 * v + k) - P.px (25 * v + k - 1) ∧ P.py (25 * v + k + 1) - P.py (25 * v + k) = P.py (25 * v + k) - P.py (25 * v + k - 1))
noncomputable def benZ (P : Geo) (v : Int) : Int := sumZ (P.mv v) (fun k => bZ (0 < k ∧ bendAt P v k))
/-- a move along an edge that no earlier move went along -/
def freshAt (P : Geo) (v k : Int) : Prop := ∀ j, 0 ≤ j → j < k → ¬ eC P v j = eC P v k
noncomputable def edgZ (P : Geo) (v : Int) : Int := sumZ (P.mv v) (fun k => bZ (freshAt P v k))
def touchZ (P : Geo) (a b : Int) : Prop := ∃ p, atC P a p ∧ atC P b p
inductive heldZ (P : Geo) : Int → Prop
  | base {v : Int} : 0 ≤ v → v < P.ws → P.laid v = 1 → 0 < benZ P v → heldZ P v
  | next {a b : Int} : heldZ P a → 0 ≤ b → b < P.ws → P.laid b = 1 → touchZ P a b → heldZ P b
-- fields: x and y of a field, and of the field beside it; the edge between (class's number)
def besZ (P : Geo) (f way : Int) : Int :=
  if way = 0 then (if f % P.w + 1 < P.w then f + 1 else -1)
  else if way = 1 then (if f / P.w + 1 < P.h then f + P.w else -1)
  else if way = 2 then (if 1 ≤ f % P.w then f - 1 else -1)
  else if way = 3 then (if 1 ≤ f / P.w then f - P.w else -1)
  else -1
def betZ (P : Geo) (f way : Int) : Int :=
  if way = 0 then 89 + 10 * (f / P.w) + (f % P.w + 1)
  else if way = 1 then 10 * (f / P.w + 1) + f % P.w
  else if way = 2 then 89 + 10 * (f / P.w) + f % P.w
  else 10 * (f / P.w) + f % P.w
def isF (P : Geo) (f : Int) : Prop := 0 ≤ f ∧ f < P.w * P.h
/-- one step between fields that are open to one another -/
def openTo (P : Geo) (f g : Int) : Prop := ∃ way, 0 ≤ way ∧ way < 4 ∧ besZ P f way = g ∧ isF P g ∧ covC P (betZ P f way) = 0
inductive conn (P : Geo) (f : Int) : Int → Prop
  | refl : conn P f f
  | step {g g' : Int} : conn P f g → openTo P g g' → conn P f g'
/-- the number of a field's cell -/
def isCellOf (P : Geo) (f c : Int) : Prop := isF P c ∧ conn P f c ∧ ∀ g, isF P g → conn P f g → c ≤ g
open Classical in
noncomputable def cellZ (P : Geo) (f : Int) : Int := if h : ∃ c, isCellOf P f c then h.choose else -1
noncomputable def sizeZ (P : Geo) (c : Int) : Int := sumZ (P.w * P.h) (fun f => bZ (cellZ P f = c))
structure GridOK (P : Geo) (N : NM) : Prop where
  w : N 9 2 = P.w
  h : N 9 3 = P.h
  x : ∀ f, 0 ≤ f → f < P.w * P.h → N 10 f = f % P.w
  y : ∀ f, 0 ≤ f → f < P.w * P.h → N 11 f = f / P.w
structure PageOK (P : Pag) (N : NM) : Prop where
  pm : N 12 1 = P.pm
  pg : ∀ i, 0 ≤ i → i < P.pm → N 13 i = P.pg i
structure WiresOK (P : Geo) (N : NM) : Prop where
  ws : N 14 7 = P.ws
  laid : ∀ v, 0 ≤ v → v < P.ws → N 15 v = P.laid v
  sold : ∀ v, 0 ≤ v → v < P.ws → N 16 v = P.sold v
  mv : ∀ v, 0 ≤ v → v < P.ws → N 17 v = P.mv v
  ben : ∀ v, 0 ≤ v → v < P.ws → N 18 v = benZ P v
  edg : ∀ v, 0 ≤ v → v < P.ws → N 19 v = edgZ P v
  pt : ∀ v i, 0 ≤ v → v < P.ws → 0 ≤ i → i ≤ P.mv v → N 20 (25 * v + i) = ptC P v i
  er : ∀ v i, 0 ≤ v → v < P.ws → 0 ≤ i → i < P.mv v → N 21 (24 * v + i) = eC P v i
structure NetOK (P : Geo) (N : NM) : Prop where
  cov : ∀ e, 0 ≤ e → e < 178 → N 23 e = covC P e
  sol : ∀ e, 0 ≤ e → e < 178 → N 24 e = solC P e
  com : ∀ p, 0 ≤ p → p < 89 → N 25 p = comC P p
  held : ∀ v, 0 ≤ v → v < P.ws → N 28 v = bZ (heldZ P v)
structure CellsOK (P : Geo) (N : NM) : Prop where
  cell : ∀ f, 0 ≤ f → f < P.w * P.h → N 33 f = cellZ P f
  none : ∀ f, P.w * P.h ≤ f → f < 64 → N 33 f = -1
  size : ∀ f, 0 ≤ f → f < P.w * P.h → cellZ P f = f → N 34 f = sizeZ P f
  total : N 32 5 = sumZ (P.w * P.h) (fun f => bZ (cellZ P f = f))
structure PalOK (P : Pal) (N : NM) : Prop where
  heat : ∀ c, 0 ≤ c → c < 8 → N 41 (3 * c) = P.heat c
  shr : ∀ c, 0 ≤ c → c < 8 → N 41 (3 * c + 1) = P.shr c
  pul : ∀ c, 0 ≤ c → c < 8 → N 41 (3 * c + 2) = P.pul c
  foe : ∀ a b, 0 ≤ a → a < 8 → 0 ≤ b → b < 8 → (N 42 a) / 2 ^ b.toNat % 2 = P.foe (8 * a + b)
  foeR : ∀ a, 0 ≤ a → a < 8 → 0 ≤ N 42 a ∧ N 42 a < 256
  wall : N 43 0 = P.wall
  stiff : N 43 1 = P.stiff
  bear : N 43 2 = P.bear
structure GlassOK (P : Gla) (N : NM) : Prop where
  fires : N 44 9 = P.fires
  lay : ∀ f, 0 ≤ f → f < 64 → N 45 f = P.lay f
  col : ∀ i, 0 ≤ i → i < 768 → N 46 i = P.col i
  thk : ∀ i, 0 ≤ i → i < 768 → N 47 i = P.thk i
  sta : ∀ i, 0 ≤ i → i < 768 → N 48 i = P.sta i
structure TenOK (P : Ten) (N : NM) : Prop where
  bc : N 53 3 = P.bc
  bt : N 53 4 = P.bt
structure RodsOK (P : Rod) (N : NM) : Prop where
  rods : N 54 4 = P.rods
  rl : ∀ k, 0 ≤ k → k < P.rods → N 55 k = P.rl k
  rm : ∀ k, 0 ≤ k → k < P.rods → N 56 k = P.rm k
structure ClsOK (P : Pic) (N : NM) : Prop where
  grid : GridOK P.toGeo N
  page : PageOK P.toPag N
  wires : WiresOK P.toGeo N
  net : NetOK P.toGeo N
  cells : CellsOK P.toGeo N
  pal : PalOK P.toPal N
  glass : GlassOK P.toGla N
  ten : TenOK P.toTen N
  rods : RodsOK P.toRod N
def sCls (N N' : NM) : Prop := ∀ a, a < 59 → N' a = N a
def sRef (N N' : NM) : Prop := ∀ a, 59 ≤ a → N' a = N a
theorem RefOK.fr {P : Pic} {N N' : NM} (h : RefOK P N) (hf : sRef N N') : RefOK P N' := by
  constructor <;> (rw [hf _ (by decide)])
  all_goals first | exact h.w | exact h.h | exact h.pm | exact h.ws | exact h.wall | exact h.stiff | exact h.bear | exact h.fires | exact h.bc | exact h.bt | exact h.rods | exact h.pg | exact h.px | exact h.py | exact h.mv | exact h.laid | exact h.sold | exact h.heat | exact h.shr | exact h.pul | exact h.foe | exact h.lay | exact h.col | exact h.thk | exact h.sta | exact h.rl | exact h.rm
theorem GridOK.fr {P : Geo} {N N' : NM} (h : GridOK P N) (h9 : N' 9 = N 9) (h10 : N' 10 = N 10) (h11 : N' 11 = N 11) : GridOK P N' := by
  constructor <;> simp only [h9, h10, h11]
  · exact h.w
  · exact h.h
  · exact h.x
  · exact h.y
theorem PageOK.fr {P : Pag} {N N' : NM} (h : PageOK P N) (h1 : N' 12 = N 12) (h2 : N' 13 = N 13) : PageOK P N' := by
  constructor <;> simp only [h1, h2]
  · exact h.pm
  · exact h.pg
theorem WiresOK.fr {P : Geo} {N N' : NM} (h : WiresOK P N) (h1 : N' 14 = N 14) (h2 : N' 15 = N 15) (h3 : N' 16 = N 16) (h4 : N' 17 = N 17) (h5 : N' 18 = N 18) (h6 : N' 19 = N 19) (h7 : N' 20 = N 20) (h8 : N' 21 = N 21) : WiresOK P N' := by
  constructor <;> simp only [h1, h2, h3, h4, h5, h6, h7, h8]
  · exact h.ws
  · exact h.laid
  · exact h.sold
  · exact h.mv
  · exact h.ben
  · exact h.edg
  · exact h.pt
  · exact h.er
theorem NetOK.fr {P : Geo} {N N' : NM} (h : NetOK P N) (h1 : N' 23 = N 23) (h2 : N' 24 = N 24) (h3 : N' 25 = N 25) (h4 : N' 28 = N 28) : NetOK P N' := by
  constructor <;> simp only [h1, h2, h3, h4]
  · exact h.cov
  · exact h.sol
  · exact h.com
  · exact h.held
theorem CellsOK.fr {P : Geo} {N N' : NM} (h : CellsOK P N) (h1 : N' 32 = N 32) (h2 : N' 33 = N 33) (h3 : N' 34 = N 34) : CellsOK P N' := by
  constructor <;> simp only [h1, h2, h3]
  · exact h.cell
  · exact h.none
  · exact h.size
  · exact h.total
theorem PalOK.fr {P : Pal} {N N' : NM} (h : PalOK P N) (h1 : N' 41 = N 41) (h2 : N' 42 = N 42) (h3 : N' 43 = N 43) : PalOK P N' := by
  constructor <;> simp only [h1, h2, h3]
  · exact h.heat
  · exact h.shr
  · exact h.pul
  · exact h.foe
  · exact h.foeR
  · exact h.wall
  · exact h.stiff
  · exact h.bear
theorem GlassOK.fr {P : Gla} {N N' : NM} (h : GlassOK P N) (h1 : N' 44 = N 44) (h2 : N' 45 = N 45) (h3 : N' 46 = N 46) (h4 : N' 47 = N 47) (h5 : N' 48 = N 48) : GlassOK P N' := by
  constructor <;> simp only [h1, h2, h3, h4, h5]
  · exact h.fires
  · exact h.lay
  · exact h.col
  · exact h.thk
  · exact h.sta
theorem TenOK.fr {P : Ten} {N N' : NM} (h : TenOK P N) (h1 : N' 53 = N 53) : TenOK P N' := by
  constructor <;> simp only [h1]
  · exact h.bc
  · exact h.bt
theorem RodsOK.fr {P : Rod} {N N' : NM} (h : RodsOK P N) (h1 : N' 54 = N 54) (h2 : N' 55 = N 55) (h3 : N' 56 = N 56) : RodsOK P N' := by
  constructor <;> simp only [h1, h2, h3]
  · exact h.rods
  · exact h.rl
  · exact h.rm
/-- cells that the class's picture stands in -/
def clsC (a : Nat) : Bool := decide ((9 ≤ a ∧ a ≤ 21) ∨ a = 23 ∨ a = 24 ∨ a = 25 ∨ a = 28 ∨ (32 ≤ a ∧ a ≤ 34) ∨ (41 ≤ a ∧ a ≤ 48) ∨ (53 ≤ a ∧ a ≤ 56))
theorem ClsOK.fr {P : Pic} {N N' : NM} (h : ClsOK P N) (hf : ∀ a, clsC a = true → N' a = N a) : ClsOK P N' where
  grid := h.grid.fr (hf _ (by decide)) (hf _ (by decide)) (hf _ (by decide))
  page := h.page.fr (hf _ (by decide)) (hf _ (by decide))
  wires := h.wires.fr (hf _ (by decide)) (hf _ (by decide)) (hf _ (by decide)) (hf _ (by decide)) (hf _ (by decide)) (hf _ (by decide)) (hf _ (by decide)) (hf _ (by decide))
  net := h.net.fr (hf _ (by decide)) (hf _ (by decide)) (hf _ (by decide)) (hf _ (by decide))
  cells := h.cells.fr (hf _ (by decide)) (hf _ (by decide)) (hf _ (by decide))
  pal := h.pal.fr (hf _ (by decide)) (hf _ (by decide)) (hf _ (by decide))
  glass := h.glass.fr (hf _ (by decide)) (hf _ (by decide)) (hf _ (by decide)) (hf _ (by decide)) (hf _ (by decide))
  ten := h.ten.fr (hf _ (by decide))
  rods := h.rods.fr (hf _ (by decide)) (hf _ (by decide)) (hf _ (by decide))
structure GInv (P : Pic) (N : NM) : Prop where
  ok : PicOK P
  ref : RefOK P N
  cls : ClsOK P N
/-- a call of the class, and the same call of the reference: both answer alike, and both hold the same picture behind it -/
def Both (E : gw_N) (N : NM) (mc mr : Nat) (args : List Value) : Prop :=
  ∃ (r : Value) (P' : Pic) (N1 N2 : NM), Rn mc (.ref 8 :: args) (hs E (jm N)) (some r) (hs E (jm N1)) ∧ Rn mr (.ref 59 :: args) (hs E (jm N1)) (some r) (hs E (jm N2)) ∧ GInv P' N2
def ClsDoes (E : gw_N) (N : NM) (mc : Nat) (args : List Value) (r : Value) (P' : Pic) : Prop :=
  ∃ N1, Rn mc (.ref 8 :: args) (hs E (jm N)) (some r) (hs E (jm N1)) ∧ ClsOK P' N1 ∧ sRef N N1
def RefDoes (E : gw_N) (N : NM) (mr : Nat) (args : List Value) (r : Value) (P' : Pic) : Prop :=
  ∃ N1, Rn mr (.ref 59 :: args) (hs E (jm N)) (some r) (hs E (jm N1)) ∧ RefOK P' N1 ∧ sCls N N1
theorem both {E : gw_N} {N : NM} {mc mr : Nat} {args : List Value} {r : Value} {P P' : Pic} (hI : GInv P N) (hp : PicOK P')
    (hc : ClsDoes E N mc args r P') (hr : ∀ N, RefOK P N → RefDoes E N mr args r P') : Both E N mc mr args := by
  obtain ⟨N1, h1, h2, h3⟩ := hc
  obtain ⟨N2, k1, k2, k3⟩ := hr N1 (hI.ref.fr h3)
  exact ⟨r, P', N1, N2, h1, k1, hp, k2, h2.fr (fun a ha => k3 a (by unfold clsC at ha; rw [decide_eq_true_eq] at ha; omega))⟩
macro "clsfr" h:term : tactic => `(tactic| (constructor <;> first
  | exact ($h).grid.fr rfl rfl rfl | exact ($h).page.fr rfl rfl | exact ($h).wires.fr rfl rfl rfl rfl rfl rfl rfl rfl
  | exact ($h).net.fr rfl rfl rfl rfl | exact ($h).cells.fr rfl rfl rfl | exact ($h).pal.fr rfl rfl rfl
  | exact ($h).glass.fr rfl rfl rfl rfl rfl | exact ($h).ten.fr rfl | exact ($h).rods.fr rfl rfl rfl | skip))
macro "reffr" h:term : tactic => `(tactic| (constructor <;> simp [upZ, updZ, ($h).w, ($h).h, ($h).pm, ($h).ws, ($h).wall, ($h).stiff, ($h).bear, ($h).fires, ($h).bc, ($h).bt, ($h).rods, ($h).pg, ($h).px, ($h).py, ($h).mv, ($h).laid, ($h).sold, ($h).heat, ($h).shr, ($h).pul, ($h).foe, ($h).lay, ($h).col, ($h).thk, ($h).sta, ($h).rl, ($h).rm]))
macro "upn" : tactic => `(tactic| (intro a ha; repeat rw [upZ_n (by omega)]))
macro "zgr" : tactic => `(tactic| (zgo <;> rfl))
theorem both_same {E : gw_N} {N : NM} {mc mr : Nat} {args : List Value} {r : Value} {P : Pic} (hI : GInv P N)
    (hc : Rn mc (.ref 8 :: args) (hs E (jm N)) (some r) (hs E (jm N)))
    (hr : Rn mr (.ref 59 :: args) (hs E (jm N)) (some r) (hs E (jm N))) : Both E N mc mr args := ⟨r, P, N, N, hc, hr, hI⟩
/-- a question: the class's picture stays -/
def QC (E : gw_N) (N : NM) (mc : Nat) (args : List Value) (r : Value) : Prop :=
  ∃ N1, Rn mc (.ref 8 :: args) (hs E (jm N)) (some r) (hs E (jm N1)) ∧ ∀ a, clsC a = true ∨ 59 ≤ a → N1 a = N a
def QR (E : gw_N) (N : NM) (P : Pic) (mr : Nat) (args : List Value) (r : Value) : Prop :=
  ∃ N1, Rn mr (.ref 59 :: args) (hs E (jm N)) (some r) (hs E (jm N1)) ∧ RefOK P N1 ∧ sCls N N1
theorem both_q {E : gw_N} {N : NM} {mc mr : Nat} {args : List Value} {r : Value} {P : Pic} (hI : GInv P N)
    (hc : QC E N mc args r) (hr : ∀ N, RefOK P N → QR E N P mr args r) : Both E N mc mr args := by
  obtain ⟨N1, h1, h2⟩ := hc
  exact both hI hI.ok ⟨N1, h1, hI.cls.fr (fun a ha => h2 a (Or.inl ha)), fun a ha => h2 a (Or.inr ha)⟩ hr
theorem QC.same {E : gw_N} {N : NM} {mc : Nat} {args : List Value} {r : Value} (h : Rn mc (.ref 8 :: args) (hs E (jm N)) (some r) (hs E (jm N))) : QC E N mc args r := ⟨N, h, fun _ _ => rfl⟩
theorem QR.same {E : gw_N} {N : NM} {P : Pic} {mc : Nat} {args : List Value} {r : Value} (hR : RefOK P N) (h : Rn mc (.ref 59 :: args) (hs E (jm N)) (some r) (hs E (jm N))) : QR E N P mc args r := ⟨N, h, hR, fun _ _ => rfl⟩
