/-! the picture that both sides hold, and what it is for each side to hold it -/
def Geo : Type := (Int) × (Int) × (Int) × (Int → Int) × (Int → Int) × (Int → Int) × (Int → Int) × (Int → Int)
def Geo.w (G9 : Geo) : Int := G9.1
def Geo.h (G9 : Geo) : Int := G9.2.1
def Geo.ws (G9 : Geo) : Int := G9.2.2.1
def Geo.px (G9 : Geo) : Int → Int := G9.2.2.2.1
def Geo.py (G9 : Geo) : Int → Int := G9.2.2.2.2.1
def Geo.mv (G9 : Geo) : Int → Int := G9.2.2.2.2.2.1
def Geo.laid (G9 : Geo) : Int → Int := G9.2.2.2.2.2.2.1
def Geo.sold (G9 : Geo) : Int → Int := G9.2.2.2.2.2.2.2
def Geo.mk (a9w : Int) (a9h : Int) (a9ws : Int) (a9px : Int → Int) (a9py : Int → Int) (a9mv : Int → Int) (a9laid : Int → Int) (a9sold : Int → Int) : Geo := (a9w, a9h, a9ws, a9px, a9py, a9mv, a9laid, a9sold)
def Pag : Type := (Int) × (Int → Int)
def Pag.pm (G9 : Pag) : Int := G9.1
def Pag.pg (G9 : Pag) : Int → Int := G9.2
def Pag.mk (a9pm : Int) (a9pg : Int → Int) : Pag := (a9pm, a9pg)
def Pal : Type := (Int) × (Int) × (Int) × (Int → Int) × (Int → Int) × (Int → Int) × (Int → Int)
def Pal.wall (G9 : Pal) : Int := G9.1
def Pal.stiff (G9 : Pal) : Int := G9.2.1
def Pal.bear (G9 : Pal) : Int := G9.2.2.1
def Pal.heat (G9 : Pal) : Int → Int := G9.2.2.2.1
def Pal.shr (G9 : Pal) : Int → Int := G9.2.2.2.2.1
def Pal.pul (G9 : Pal) : Int → Int := G9.2.2.2.2.2.1
def Pal.foe (G9 : Pal) : Int → Int := G9.2.2.2.2.2.2
def Pal.mk (a9wall : Int) (a9stiff : Int) (a9bear : Int) (a9heat : Int → Int) (a9shr : Int → Int) (a9pul : Int → Int) (a9foe : Int → Int) : Pal := (a9wall, a9stiff, a9bear, a9heat, a9shr, a9pul, a9foe)
def Gla : Type := (Int) × (Int → Int) × (Int → Int) × (Int → Int) × (Int → Int)
def Gla.fires (G9 : Gla) : Int := G9.1
def Gla.lay (G9 : Gla) : Int → Int := G9.2.1
def Gla.col (G9 : Gla) : Int → Int := G9.2.2.1
def Gla.thk (G9 : Gla) : Int → Int := G9.2.2.2.1
def Gla.sta (G9 : Gla) : Int → Int := G9.2.2.2.2
def Gla.mk (a9fires : Int) (a9lay : Int → Int) (a9col : Int → Int) (a9thk : Int → Int) (a9sta : Int → Int) : Gla := (a9fires, a9lay, a9col, a9thk, a9sta)
def Ten : Type := (Int) × (Int)
def Ten.bc (G9 : Ten) : Int := G9.1
def Ten.bt (G9 : Ten) : Int := G9.2
def Ten.mk (a9bc : Int) (a9bt : Int) : Ten := (a9bc, a9bt)
def Rod : Type := (Int) × (Int → Int) × (Int → Int)
def Rod.rods (G9 : Rod) : Int := G9.1
def Rod.rl (G9 : Rod) : Int → Int := G9.2.1
def Rod.rm (G9 : Rod) : Int → Int := G9.2.2
def Rod.mk (a9rods : Int) (a9rl : Int → Int) (a9rm : Int → Int) : Rod := (a9rods, a9rl, a9rm)
def Pic : Type := (Geo) × (Pag) × (Pal) × (Gla) × (Ten) × (Rod)
def Pic.toGeo (G9 : Pic) : Geo := G9.1
def Pic.toPag (G9 : Pic) : Pag := G9.2.1
def Pic.toPal (G9 : Pic) : Pal := G9.2.2.1
def Pic.toGla (G9 : Pic) : Gla := G9.2.2.2.1
def Pic.toTen (G9 : Pic) : Ten := G9.2.2.2.2.1
def Pic.toRod (G9 : Pic) : Rod := G9.2.2.2.2.2
def Pic.mk (a9toGeo : Geo) (a9toPag : Pag) (a9toPal : Pal) (a9toGla : Gla) (a9toTen : Ten) (a9toRod : Rod) : Pic := (a9toGeo, a9toPag, a9toPal, a9toGla, a9toTen, a9toRod)
def Pic.setGeo (P : Pic) (q : Geo) : Pic := Pic.mk q P.toPag P.toPal P.toGla P.toTen P.toRod
def Pic.setPag (P : Pic) (q : Pag) : Pic := Pic.mk P.toGeo q P.toPal P.toGla P.toTen P.toRod
def Pic.setPal (P : Pic) (q : Pal) : Pic := Pic.mk P.toGeo P.toPag q P.toGla P.toTen P.toRod
def Pic.setGla (P : Pic) (q : Gla) : Pic := Pic.mk P.toGeo P.toPag P.toPal q P.toTen P.toRod
def Pic.setTen (P : Pic) (q : Ten) : Pic := Pic.mk P.toGeo P.toPag P.toPal P.toGla q P.toRod
def Pic.setRod (P : Pic) (q : Rod) : Pic := Pic.mk P.toGeo P.toPag P.toPal P.toGla P.toTen q
def GeoR (G : Geo) : Prop := (2 ≤ G.w ∧ G.w ≤ 8) ∧ (2 ≤ G.h ∧ G.h ≤ 8) ∧ (0 ≤ G.ws ∧ G.ws ≤ 30) ∧ (∀ v, 0 ≤ v → v < G.ws → 1 ≤ G.mv v ∧ G.mv v ≤ 24) ∧ (∀ v, 0 ≤ v → v < G.ws → G.laid v = 0 ∨ G.laid v = 1) ∧ (∀ v, 0 ≤ v → v < G.ws → G.sold v = 0 ∨ G.sold v = 1) ∧ (∀ v i, 0 ≤ v → v < G.ws → 0 ≤ i → i ≤ G.mv v → 0 ≤ G.px (25 * v + i) ∧ G.px (25 * v + i) ≤ G.w) ∧ (∀ v i, 0 ≤ v → v < G.ws → 0 ≤ i → i ≤ G.mv v → 0 ≤ G.py (25 * v + i) ∧ G.py (25 * v + i) ≤ G.h) ∧ (∀ v i, 0 ≤ v → v < G.ws → 0 ≤ i → i < G.mv v →
    (G.px (25 * v + i + 1) = G.px (25 * v + i) + 1 ∧ G.py (25 * v + i + 1) = G.py (25 * v + i)) ∨
    (G.px (25 * v + i + 1) = G.px (25 * v + i) ∧ G.py (25 * v + i + 1) = G.py (25 * v + i) + 1) ∨
    (G.px (25 * v + i + 1) = G.px (25 * v + i) - 1 ∧ G.py (25 * v + i + 1) = G.py (25 * v + i)) ∨
    (G.px (25 * v + i + 1) = G.px (25 * v + i) ∧ G.py (25 * v + i + 1) = G.py (25 * v + i) - 1))
theorem GeoR.w {G : Geo} (h9 : GeoR G) : 2 ≤ G.w ∧ G.w ≤ 8 := h9.1
theorem GeoR.h {G : Geo} (h9 : GeoR G) : 2 ≤ G.h ∧ G.h ≤ 8 := h9.2.1
theorem GeoR.ws {G : Geo} (h9 : GeoR G) : 0 ≤ G.ws ∧ G.ws ≤ 30 := h9.2.2.1
theorem GeoR.mv {G : Geo} (h9 : GeoR G) : ∀ v, 0 ≤ v → v < G.ws → 1 ≤ G.mv v ∧ G.mv v ≤ 24 := h9.2.2.2.1
theorem GeoR.laid {G : Geo} (h9 : GeoR G) : ∀ v, 0 ≤ v → v < G.ws → G.laid v = 0 ∨ G.laid v = 1 := h9.2.2.2.2.1
theorem GeoR.sold {G : Geo} (h9 : GeoR G) : ∀ v, 0 ≤ v → v < G.ws → G.sold v = 0 ∨ G.sold v = 1 := h9.2.2.2.2.2.1
theorem GeoR.px {G : Geo} (h9 : GeoR G) : ∀ v i, 0 ≤ v → v < G.ws → 0 ≤ i → i ≤ G.mv v → 0 ≤ G.px (25 * v + i) ∧ G.px (25 * v + i) ≤ G.w := h9.2.2.2.2.2.2.1
theorem GeoR.py {G : Geo} (h9 : GeoR G) : ∀ v i, 0 ≤ v → v < G.ws → 0 ≤ i → i ≤ G.mv v → 0 ≤ G.py (25 * v + i) ∧ G.py (25 * v + i) ≤ G.h := h9.2.2.2.2.2.2.2.1
theorem GeoR.step {G : Geo} (h9 : GeoR G) : ∀ v i, 0 ≤ v → v < G.ws → 0 ≤ i → i < G.mv v →
    (G.px (25 * v + i + 1) = G.px (25 * v + i) + 1 ∧ G.py (25 * v + i + 1) = G.py (25 * v + i)) ∨
    (G.px (25 * v + i + 1) = G.px (25 * v + i) ∧ G.py (25 * v + i + 1) = G.py (25 * v + i) + 1) ∨
    (G.px (25 * v + i + 1) = G.px (25 * v + i) - 1 ∧ G.py (25 * v + i + 1) = G.py (25 * v + i)) ∨
    (G.px (25 * v + i + 1) = G.px (25 * v + i) ∧ G.py (25 * v + i + 1) = G.py (25 * v + i) - 1) := h9.2.2.2.2.2.2.2.2
theorem GeoR.mk {G : Geo} (a9w : 2 ≤ G.w ∧ G.w ≤ 8) (a9h : 2 ≤ G.h ∧ G.h ≤ 8) (a9ws : 0 ≤ G.ws ∧ G.ws ≤ 30) (a9mv : ∀ v, 0 ≤ v → v < G.ws → 1 ≤ G.mv v ∧ G.mv v ≤ 24) (a9laid : ∀ v, 0 ≤ v → v < G.ws → G.laid v = 0 ∨ G.laid v = 1) (a9sold : ∀ v, 0 ≤ v → v < G.ws → G.sold v = 0 ∨ G.sold v = 1) (a9px : ∀ v i, 0 ≤ v → v < G.ws → 0 ≤ i → i ≤ G.mv v → 0 ≤ G.px (25 * v + i) ∧ G.px (25 * v + i) ≤ G.w) (a9py : ∀ v i, 0 ≤ v → v < G.ws → 0 ≤ i → i ≤ G.mv v → 0 ≤ G.py (25 * v + i) ∧ G.py (25 * v + i) ≤ G.h) (a9step : ∀ v i, 0 ≤ v → v < G.ws → 0 ≤ i → i < G.mv v →
    (G.px (25 * v + i + 1) = G.px (25 * v + i) + 1 ∧ G.py (25 * v + i + 1) = G.py (25 * v + i)) ∨
    (G.px (25 * v + i + 1) = G.px (25 * v + i) ∧ G.py (25 * v + i + 1) = G.py (25 * v + i) + 1) ∨
    (G.px (25 * v + i + 1) = G.px (25 * v + i) - 1 ∧ G.py (25 * v + i + 1) = G.py (25 * v + i)) ∨
    (G.px (25 * v + i + 1) = G.px (25 * v + i) ∧ G.py (25 * v + i + 1) = G.py (25 * v + i) - 1)) : GeoR G := ⟨a9w, a9h, a9ws, a9mv, a9laid, a9sold, a9px, a9py, a9step⟩
def PagR (G : Pag) : Prop := (0 ≤ G.pm ∧ G.pm ≤ 40) ∧ (∀ i, 0 ≤ i → i < G.pm → R (G.pg i))
theorem PagR.pm {G : Pag} (h9 : PagR G) : 0 ≤ G.pm ∧ G.pm ≤ 40 := h9.1
theorem PagR.pg {G : Pag} (h9 : PagR G) : ∀ i, 0 ≤ i → i < G.pm → R (G.pg i) := h9.2
theorem PagR.mk {G : Pag} (a9pm : 0 ≤ G.pm ∧ G.pm ≤ 40) (a9pg : ∀ i, 0 ≤ i → i < G.pm → R (G.pg i)) : PagR G := ⟨a9pm, a9pg⟩
def PalR (G : Pal) : Prop := (∀ c, 0 ≤ c → c < 8 → 1 ≤ G.heat c ∧ G.heat c ≤ 900) ∧ (∀ c, 0 ≤ c → c < 8 → 0 ≤ G.shr c ∧ G.shr c ≤ 9) ∧ (∀ c, 0 ≤ c → c < 8 → 0 ≤ G.pul c ∧ G.pul c ≤ 99) ∧ (∀ i, 0 ≤ i → i < 64 → G.foe i = 0 ∨ G.foe i = 1) ∧ (1 ≤ G.wall ∧ G.wall ≤ 99) ∧ (1 ≤ G.stiff ∧ G.stiff ≤ 99) ∧ (1 ≤ G.bear ∧ G.bear ≤ 999)
theorem PalR.heat {G : Pal} (h9 : PalR G) : ∀ c, 0 ≤ c → c < 8 → 1 ≤ G.heat c ∧ G.heat c ≤ 900 := h9.1
theorem PalR.shr {G : Pal} (h9 : PalR G) : ∀ c, 0 ≤ c → c < 8 → 0 ≤ G.shr c ∧ G.shr c ≤ 9 := h9.2.1
theorem PalR.pul {G : Pal} (h9 : PalR G) : ∀ c, 0 ≤ c → c < 8 → 0 ≤ G.pul c ∧ G.pul c ≤ 99 := h9.2.2.1
theorem PalR.foe {G : Pal} (h9 : PalR G) : ∀ i, 0 ≤ i → i < 64 → G.foe i = 0 ∨ G.foe i = 1 := h9.2.2.2.1
theorem PalR.wall {G : Pal} (h9 : PalR G) : 1 ≤ G.wall ∧ G.wall ≤ 99 := h9.2.2.2.2.1
theorem PalR.stiff {G : Pal} (h9 : PalR G) : 1 ≤ G.stiff ∧ G.stiff ≤ 99 := h9.2.2.2.2.2.1
theorem PalR.bear {G : Pal} (h9 : PalR G) : 1 ≤ G.bear ∧ G.bear ≤ 999 := h9.2.2.2.2.2.2
theorem PalR.mk {G : Pal} (a9heat : ∀ c, 0 ≤ c → c < 8 → 1 ≤ G.heat c ∧ G.heat c ≤ 900) (a9shr : ∀ c, 0 ≤ c → c < 8 → 0 ≤ G.shr c ∧ G.shr c ≤ 9) (a9pul : ∀ c, 0 ≤ c → c < 8 → 0 ≤ G.pul c ∧ G.pul c ≤ 99) (a9foe : ∀ i, 0 ≤ i → i < 64 → G.foe i = 0 ∨ G.foe i = 1) (a9wall : 1 ≤ G.wall ∧ G.wall ≤ 99) (a9stiff : 1 ≤ G.stiff ∧ G.stiff ≤ 99) (a9bear : 1 ≤ G.bear ∧ G.bear ≤ 999) : PalR G := ⟨a9heat, a9shr, a9pul, a9foe, a9wall, a9stiff, a9bear⟩
def GlaR (G : Gla) : Prop := (∀ f, 0 ≤ f → f < 64 → 0 ≤ G.lay f ∧ G.lay f ≤ 12) ∧ (∀ i, 0 ≤ i → i < 768 → 0 ≤ G.col i ∧ G.col i < 8) ∧ (∀ i, 0 ≤ i → i < 768 → 0 ≤ G.thk i ∧ G.thk i ≤ 99) ∧ (∀ i, 0 ≤ i → i < 768 → 0 ≤ G.sta i ∧ G.sta i ≤ 2) ∧ (∀ f k, 0 ≤ f → f < 64 → 0 ≤ k → k < G.lay f → 1 ≤ G.thk (12 * f + k))
theorem GlaR.lay {G : Gla} (h9 : GlaR G) : ∀ f, 0 ≤ f → f < 64 → 0 ≤ G.lay f ∧ G.lay f ≤ 12 := h9.1
theorem GlaR.col {G : Gla} (h9 : GlaR G) : ∀ i, 0 ≤ i → i < 768 → 0 ≤ G.col i ∧ G.col i < 8 := h9.2.1
theorem GlaR.thk {G : Gla} (h9 : GlaR G) : ∀ i, 0 ≤ i → i < 768 → 0 ≤ G.thk i ∧ G.thk i ≤ 99 := h9.2.2.1
theorem GlaR.sta {G : Gla} (h9 : GlaR G) : ∀ i, 0 ≤ i → i < 768 → 0 ≤ G.sta i ∧ G.sta i ≤ 2 := h9.2.2.2.1
theorem GlaR.thk1 {G : Gla} (h9 : GlaR G) : ∀ f k, 0 ≤ f → f < 64 → 0 ≤ k → k < G.lay f → 1 ≤ G.thk (12 * f + k) := h9.2.2.2.2
theorem GlaR.mk {G : Gla} (a9lay : ∀ f, 0 ≤ f → f < 64 → 0 ≤ G.lay f ∧ G.lay f ≤ 12) (a9col : ∀ i, 0 ≤ i → i < 768 → 0 ≤ G.col i ∧ G.col i < 8) (a9thk : ∀ i, 0 ≤ i → i < 768 → 0 ≤ G.thk i ∧ G.thk i ≤ 99) (a9sta : ∀ i, 0 ≤ i → i < 768 → 0 ≤ G.sta i ∧ G.sta i ≤ 2) (a9thk1 : ∀ f k, 0 ≤ f → f < 64 → 0 ≤ k → k < G.lay f → 1 ≤ G.thk (12 * f + k)) : GlaR G := ⟨a9lay, a9col, a9thk, a9sta, a9thk1⟩
def TenR (G : Ten) : Prop := (0 ≤ G.bc ∧ G.bc < 8) ∧ (0 ≤ G.bt ∧ G.bt ≤ 99)
theorem TenR.bc {G : Ten} (h9 : TenR G) : 0 ≤ G.bc ∧ G.bc < 8 := h9.1
theorem TenR.bt {G : Ten} (h9 : TenR G) : 0 ≤ G.bt ∧ G.bt ≤ 99 := h9.2
theorem TenR.mk {G : Ten} (a9bc : 0 ≤ G.bc ∧ G.bc < 8) (a9bt : 0 ≤ G.bt ∧ G.bt ≤ 99) : TenR G := ⟨a9bc, a9bt⟩
def RodR (G : Rod) : Prop := (0 ≤ G.rods ∧ G.rods ≤ 8) ∧ (∀ k, 0 ≤ k → k < G.rods → 1 ≤ G.rl k ∧ G.rl k ≤ 99) ∧ (∀ k, 0 ≤ k → k < G.rods → 0 ≤ G.rm k ∧ G.rm k ≤ 20)
theorem RodR.rods {G : Rod} (h9 : RodR G) : 0 ≤ G.rods ∧ G.rods ≤ 8 := h9.1
theorem RodR.rl {G : Rod} (h9 : RodR G) : ∀ k, 0 ≤ k → k < G.rods → 1 ≤ G.rl k ∧ G.rl k ≤ 99 := h9.2.1
theorem RodR.rm {G : Rod} (h9 : RodR G) : ∀ k, 0 ≤ k → k < G.rods → 0 ≤ G.rm k ∧ G.rm k ≤ 20 := h9.2.2
theorem RodR.mk {G : Rod} (a9rods : 0 ≤ G.rods ∧ G.rods ≤ 8) (a9rl : ∀ k, 0 ≤ k → k < G.rods → 1 ≤ G.rl k ∧ G.rl k ≤ 99) (a9rm : ∀ k, 0 ≤ k → k < G.rods → 0 ≤ G.rm k ∧ G.rm k ≤ 20) : RodR G := ⟨a9rods, a9rl, a9rm⟩
def PicOK (P : Pic) : Prop := (GeoR P.toGeo) ∧ (PagR P.toPag) ∧ (PalR P.toPal) ∧ (GlaR P.toGla) ∧ (TenR P.toTen) ∧ (RodR P.toRod)
theorem PicOK.geo {P : Pic} (h9 : PicOK P) : GeoR P.toGeo := h9.1
theorem PicOK.pag {P : Pic} (h9 : PicOK P) : PagR P.toPag := h9.2.1
theorem PicOK.pal {P : Pic} (h9 : PicOK P) : PalR P.toPal := h9.2.2.1
theorem PicOK.gla {P : Pic} (h9 : PicOK P) : GlaR P.toGla := h9.2.2.2.1
theorem PicOK.ten {P : Pic} (h9 : PicOK P) : TenR P.toTen := h9.2.2.2.2.1
theorem PicOK.rod {P : Pic} (h9 : PicOK P) : RodR P.toRod := h9.2.2.2.2.2
theorem PicOK.mk {P : Pic} (a9geo : GeoR P.toGeo) (a9pag : PagR P.toPag) (a9pal : PalR P.toPal) (a9gla : GlaR P.toGla) (a9ten : TenR P.toTen) (a9rod : RodR P.toRod) : PicOK P := ⟨a9geo, a9pag, a9pal, a9gla, a9ten, a9rod⟩
/-- the reference holds it -/
def RefOK (P : Pic) (N : NM) : Prop := (N 59 0 = P.toGeo.w) ∧ (N 59 1 = P.toGeo.h) ∧ (N 59 3 = P.toPag.pm) ∧ (N 59 4 = P.toGeo.ws) ∧ (N 59 22 = P.toPal.wall) ∧ (N 59 23 = P.toPal.stiff) ∧ (N 59 24 = P.toPal.bear) ∧ (N 59 29 = P.toGla.fires) ∧ (N 59 34 = P.toTen.bc) ∧ (N 59 35 = P.toTen.bt) ∧ (N 59 36 = P.toRod.rods) ∧ (N 60 = P.toPag.pg) ∧ (N 61 = P.toGeo.px) ∧ (N 62 = P.toGeo.py) ∧ (N 63 = P.toGeo.mv) ∧ (N 64 = P.toGeo.laid) ∧ (N 65 = P.toGeo.sold) ∧ (N 73 = P.toPal.heat) ∧ (N 74 = P.toPal.shr) ∧ (N 75 = P.toPal.pul) ∧ (N 76 = P.toPal.foe) ∧ (N 77 = P.toGla.lay) ∧ (N 78 = P.toGla.col) ∧ (N 79 = P.toGla.thk) ∧ (N 80 = P.toGla.sta) ∧ (N 84 = P.toRod.rl) ∧ (N 85 = P.toRod.rm)
theorem RefOK.w {P : Pic} {N : NM} (h9 : RefOK P N) : N 59 0 = P.toGeo.w := h9.1
theorem RefOK.h {P : Pic} {N : NM} (h9 : RefOK P N) : N 59 1 = P.toGeo.h := h9.2.1
theorem RefOK.pm {P : Pic} {N : NM} (h9 : RefOK P N) : N 59 3 = P.toPag.pm := h9.2.2.1
theorem RefOK.ws {P : Pic} {N : NM} (h9 : RefOK P N) : N 59 4 = P.toGeo.ws := h9.2.2.2.1
theorem RefOK.wall {P : Pic} {N : NM} (h9 : RefOK P N) : N 59 22 = P.toPal.wall := h9.2.2.2.2.1
theorem RefOK.stiff {P : Pic} {N : NM} (h9 : RefOK P N) : N 59 23 = P.toPal.stiff := h9.2.2.2.2.2.1
theorem RefOK.bear {P : Pic} {N : NM} (h9 : RefOK P N) : N 59 24 = P.toPal.bear := h9.2.2.2.2.2.2.1
theorem RefOK.fires {P : Pic} {N : NM} (h9 : RefOK P N) : N 59 29 = P.toGla.fires := h9.2.2.2.2.2.2.2.1
theorem RefOK.bc {P : Pic} {N : NM} (h9 : RefOK P N) : N 59 34 = P.toTen.bc := h9.2.2.2.2.2.2.2.2.1
theorem RefOK.bt {P : Pic} {N : NM} (h9 : RefOK P N) : N 59 35 = P.toTen.bt := h9.2.2.2.2.2.2.2.2.2.1
theorem RefOK.rods {P : Pic} {N : NM} (h9 : RefOK P N) : N 59 36 = P.toRod.rods := h9.2.2.2.2.2.2.2.2.2.2.1
theorem RefOK.pg {P : Pic} {N : NM} (h9 : RefOK P N) : N 60 = P.toPag.pg := h9.2.2.2.2.2.2.2.2.2.2.2.1
theorem RefOK.px {P : Pic} {N : NM} (h9 : RefOK P N) : N 61 = P.toGeo.px := h9.2.2.2.2.2.2.2.2.2.2.2.2.1
theorem RefOK.py {P : Pic} {N : NM} (h9 : RefOK P N) : N 62 = P.toGeo.py := h9.2.2.2.2.2.2.2.2.2.2.2.2.2.1
theorem RefOK.mv {P : Pic} {N : NM} (h9 : RefOK P N) : N 63 = P.toGeo.mv := h9.2.2.2.2.2.2.2.2.2.2.2.2.2.2.1
theorem RefOK.laid {P : Pic} {N : NM} (h9 : RefOK P N) : N 64 = P.toGeo.laid := h9.2.2.2.2.2.2.2.2.2.2.2.2.2.2.2.1
theorem RefOK.sold {P : Pic} {N : NM} (h9 : RefOK P N) : N 65 = P.toGeo.sold := h9.2.2.2.2.2.2.2.2.2.2.2.2.2.2.2.2.1
theorem RefOK.heat {P : Pic} {N : NM} (h9 : RefOK P N) : N 73 = P.toPal.heat := h9.2.2.2.2.2.2.2.2.2.2.2.2.2.2.2.2.2.1
theorem RefOK.shr {P : Pic} {N : NM} (h9 : RefOK P N) : N 74 = P.toPal.shr := h9.2.2.2.2.2.2.2.2.2.2.2.2.2.2.2.2.2.2.1
theorem RefOK.pul {P : Pic} {N : NM} (h9 : RefOK P N) : N 75 = P.toPal.pul := h9.2.2.2.2.2.2.2.2.2.2.2.2.2.2.2.2.2.2.2.1
theorem RefOK.foe {P : Pic} {N : NM} (h9 : RefOK P N) : N 76 = P.toPal.foe := h9.2.2.2.2.2.2.2.2.2.2.2.2.2.2.2.2.2.2.2.2.1
theorem RefOK.lay {P : Pic} {N : NM} (h9 : RefOK P N) : N 77 = P.toGla.lay := h9.2.2.2.2.2.2.2.2.2.2.2.2.2.2.2.2.2.2.2.2.2.1
theorem RefOK.col {P : Pic} {N : NM} (h9 : RefOK P N) : N 78 = P.toGla.col := h9.2.2.2.2.2.2.2.2.2.2.2.2.2.2.2.2.2.2.2.2.2.2.1
theorem RefOK.thk {P : Pic} {N : NM} (h9 : RefOK P N) : N 79 = P.toGla.thk := h9.2.2.2.2.2.2.2.2.2.2.2.2.2.2.2.2.2.2.2.2.2.2.2.1
theorem RefOK.sta {P : Pic} {N : NM} (h9 : RefOK P N) : N 80 = P.toGla.sta := h9.2.2.2.2.2.2.2.2.2.2.2.2.2.2.2.2.2.2.2.2.2.2.2.2.1
theorem RefOK.rl {P : Pic} {N : NM} (h9 : RefOK P N) : N 84 = P.toRod.rl := h9.2.2.2.2.2.2.2.2.2.2.2.2.2.2.2.2.2.2.2.2.2.2.2.2.2.1
theorem RefOK.rm {P : Pic} {N : NM} (h9 : RefOK P N) : N 85 = P.toRod.rm := h9.2.2.2.2.2.2.2.2.2.2.2.2.2.2.2.2.2.2.2.2.2.2.2.2.2.2
theorem RefOK.mk {P : Pic} {N : NM} (a9w : N 59 0 = P.toGeo.w) (a9h : N 59 1 = P.toGeo.h) (a9pm : N 59 3 = P.toPag.pm) (a9ws : N 59 4 = P.toGeo.ws) (a9wall : N 59 22 = P.toPal.wall) (a9stiff : N 59 23 = P.toPal.stiff) (a9bear : N 59 24 = P.toPal.bear) (a9fires : N 59 29 = P.toGla.fires) (a9bc : N 59 34 = P.toTen.bc) (a9bt : N 59 35 = P.toTen.bt) (a9rods : N 59 36 = P.toRod.rods) (a9pg : N 60 = P.toPag.pg) (a9px : N 61 = P.toGeo.px) (a9py : N 62 = P.toGeo.py) (a9mv : N 63 = P.toGeo.mv) (a9laid : N 64 = P.toGeo.laid) (a9sold : N 65 = P.toGeo.sold) (a9heat : N 73 = P.toPal.heat) (a9shr : N 74 = P.toPal.shr) (a9pul : N 75 = P.toPal.pul) (a9foe : N 76 = P.toPal.foe) (a9lay : N 77 = P.toGla.lay) (a9col : N 78 = P.toGla.col) (a9thk : N 79 = P.toGla.thk) (a9sta : N 80 = P.toGla.sta) (a9rl : N 84 = P.toRod.rl) (a9rm : N 85 = P.toRod.rm) : RefOK P N := ⟨a9w, a9h, a9pm, a9ws, a9wall, a9stiff, a9bear, a9fires, a9bc, a9bt, a9rods, a9pg, a9px, a9py, a9mv, a9laid, a9sold, a9heat, a9shr, a9pul, a9foe, a9lay, a9col, a9thk, a9sta, a9rl, a9rm⟩
-- what is derived from the picture
/-- the program's number of the edge of the i-th move of a wire -/
def eC (G : Geo) (v i : Int) : Int :=
  if G.px (25 * v + i) = G.px (25 * v + i + 1) then 89 + 10 * min (G.py (25 * v + i)) (G.py (25 * v + i + 1)) + G.px (25 * v + i)
  else 10 * G.py (25 * v + i) + min (G.px (25 * v + i)) (G.px (25 * v + i + 1))
def onC (G : Geo) (v e : Int) : Prop := ∃ i, 0 ≤ i ∧ i < G.mv v ∧ eC G v i = e
def ptC (G : Geo) (v i : Int) : Int := 10 * G.py (25 * v + i) + G.px (25 * v + i)
def atC (G : Geo) (v p : Int) : Prop := ∃ i, 0 ≤ i ∧ i < G.mv v + 1 ∧ ptC G v i = p
noncomputable def covC (G : Geo) (e : Int) : Int := sumZ G.ws (fun v => bZ (G.laid v = 1 ∧ onC G v e))
noncomputable def solC (G : Geo) (e : Int) : Int := sumZ G.ws (fun v => bZ (G.laid v = 1 ∧ G.sold v = 1 ∧ onC G v e))
noncomputable def comC (G : Geo) (p : Int) : Int := sumZ G.ws (fun v => bZ (G.laid v = 1 ∧ atC G v p))
/-- the k-th move (from the second on) bends -/
def bendAt (G : Geo) (v k : Int) : Prop :=
  ¬ (G.px (25 * v + k + 1) - G.px (25 * v + k) = G.px (25 * v + k) - G.px (25 * v + k - 1) ∧ G.py (25 * v + k + 1) - G.py (25 * v + k) = G.py (25 * v + k) - G.py (25 * v + k - 1))
noncomputable def benZ (G : Geo) (v : Int) : Int := sumZ (G.mv v) (fun k => bZ (0 < k ∧ bendAt G v k))
/-- a move along an edge that no earlier move went along -/
def freshAt (G : Geo) (v k : Int) : Prop := ∀ j, 0 ≤ j → j < k → ¬ eC G v j = eC G v k
noncomputable def edgZ (G : Geo) (v : Int) : Int := sumZ (G.mv v) (fun k => bZ (freshAt G v k))
def touchZ (G : Geo) (a b : Int) : Prop := ∃ p, atC G a p ∧ atC G b p
def heldZ (G : Geo) (v : Int) : Prop := ∀ S : Int → Prop, (∀ u, 0 ≤ u → u < G.ws → G.laid u = 1 → 0 < benZ G u → S u) → (∀ a b, S a → 0 ≤ b → b < G.ws → G.laid b = 1 → touchZ G a b → S b) → S v
theorem heldZ_base {G : Geo} {v : Int} (h1 : 0 ≤ v) (h2 : v < G.ws) (h3 : G.laid v = 1) (h4 : 0 < benZ G v) : heldZ G v := fun _ hb _ => hb v h1 h2 h3 h4
theorem heldZ_next {G : Geo} {a b : Int} (h : heldZ G a) (h1 : 0 ≤ b) (h2 : b < G.ws) (h3 : G.laid b = 1) (h4 : touchZ G a b) : heldZ G b := fun S hb hn => hn a b (h S hb hn) h1 h2 h3 h4
-- fields: x and y of a field, and of the field beside it; the edge between (program's number)
def besZ (G : Geo) (f way : Int) : Int :=
  if way = 0 then (if f % G.w + 1 < G.w then f + 1 else -1)
  else if way = 1 then (if f / G.w + 1 < G.h then f + G.w else -1)
  else if way = 2 then (if 1 ≤ f % G.w then f - 1 else -1)
  else if way = 3 then (if 1 ≤ f / G.w then f - G.w else -1)
  else -1
def betZ (G : Geo) (f way : Int) : Int :=
  if way = 0 then 89 + 10 * (f / G.w) + (f % G.w + 1)
  else if way = 1 then 10 * (f / G.w + 1) + f % G.w
  else if way = 2 then 89 + 10 * (f / G.w) + f % G.w
  else 10 * (f / G.w) + f % G.w
def isF (G : Geo) (f : Int) : Prop := 0 ≤ f ∧ f < G.w * G.h
/-- one step between fields that hang together -/
def openTo (G : Geo) (f g : Int) : Prop := ∃ way, 0 ≤ way ∧ way < 4 ∧ besZ G f way = g ∧ isF G g ∧ covC G (betZ G f way) = 0
def conn (G : Geo) (f g : Int) : Prop := ∀ S : Int → Prop, S f → (∀ a b, S a → openTo G a b → S b) → S g
theorem conn_refl {G : Geo} {f : Int} : conn G f f := fun _ h _ => h
theorem conn_step {G : Geo} {f g g' : Int} (h : conn G f g) (h1 : openTo G g g') : conn G f g' := fun S hb hn => hn g g' (h S hb hn) h1
/-- the number of a field's cell -/
def isCellOf (G : Geo) (f c : Int) : Prop := isF G c ∧ conn G f c ∧ ∀ g, isF G g → conn G f g → c ≤ g
noncomputable def cellZ (G : Geo) (f : Int) : Int := @dite Int (∃ c, isCellOf G f c) (Classical.propDecidable _) (fun h => h.choose) (fun _ => -1)
noncomputable def sizeZ (G : Geo) (c : Int) : Int := sumZ (G.w * G.h) (fun f => bZ (cellZ G f = c))
def GridOK (G : Geo) (N : NM) : Prop := (N 9 2 = G.w) ∧ (N 9 3 = G.h) ∧ (∀ f, 0 ≤ f → f < G.w * G.h → N 10 f = f % G.w) ∧ (∀ f, 0 ≤ f → f < G.w * G.h → N 11 f = f / G.w)
theorem GridOK.w {G : Geo} {N : NM} (h9 : GridOK G N) : N 9 2 = G.w := h9.1
theorem GridOK.h {G : Geo} {N : NM} (h9 : GridOK G N) : N 9 3 = G.h := h9.2.1
theorem GridOK.x {G : Geo} {N : NM} (h9 : GridOK G N) : ∀ f, 0 ≤ f → f < G.w * G.h → N 10 f = f % G.w := h9.2.2.1
theorem GridOK.y {G : Geo} {N : NM} (h9 : GridOK G N) : ∀ f, 0 ≤ f → f < G.w * G.h → N 11 f = f / G.w := h9.2.2.2
theorem GridOK.mk {G : Geo} {N : NM} (a9w : N 9 2 = G.w) (a9h : N 9 3 = G.h) (a9x : ∀ f, 0 ≤ f → f < G.w * G.h → N 10 f = f % G.w) (a9y : ∀ f, 0 ≤ f → f < G.w * G.h → N 11 f = f / G.w) : GridOK G N := ⟨a9w, a9h, a9x, a9y⟩
def PageOK (G : Pag) (N : NM) : Prop := (N 12 1 = G.pm) ∧ (∀ i, 0 ≤ i → i < G.pm → N 13 i = G.pg i)
theorem PageOK.pm {G : Pag} {N : NM} (h9 : PageOK G N) : N 12 1 = G.pm := h9.1
theorem PageOK.pg {G : Pag} {N : NM} (h9 : PageOK G N) : ∀ i, 0 ≤ i → i < G.pm → N 13 i = G.pg i := h9.2
theorem PageOK.mk {G : Pag} {N : NM} (a9pm : N 12 1 = G.pm) (a9pg : ∀ i, 0 ≤ i → i < G.pm → N 13 i = G.pg i) : PageOK G N := ⟨a9pm, a9pg⟩
def WiresOK (G : Geo) (N : NM) : Prop := (N 14 7 = G.ws) ∧ (∀ v, 0 ≤ v → v < G.ws → N 15 v = G.laid v) ∧ (∀ v, 0 ≤ v → v < G.ws → N 16 v = G.sold v) ∧ (∀ v, 0 ≤ v → v < G.ws → N 17 v = G.mv v) ∧ (∀ v, 0 ≤ v → v < G.ws → N 18 v = benZ G v) ∧ (∀ v, 0 ≤ v → v < G.ws → N 19 v = edgZ G v) ∧ (∀ v i, 0 ≤ v → v < G.ws → 0 ≤ i → i ≤ G.mv v → N 20 (25 * v + i) = ptC G v i) ∧ (∀ v i, 0 ≤ v → v < G.ws → 0 ≤ i → i < G.mv v → N 21 (24 * v + i) = eC G v i)
theorem WiresOK.ws {G : Geo} {N : NM} (h9 : WiresOK G N) : N 14 7 = G.ws := h9.1
theorem WiresOK.laid {G : Geo} {N : NM} (h9 : WiresOK G N) : ∀ v, 0 ≤ v → v < G.ws → N 15 v = G.laid v := h9.2.1
theorem WiresOK.sold {G : Geo} {N : NM} (h9 : WiresOK G N) : ∀ v, 0 ≤ v → v < G.ws → N 16 v = G.sold v := h9.2.2.1
theorem WiresOK.mv {G : Geo} {N : NM} (h9 : WiresOK G N) : ∀ v, 0 ≤ v → v < G.ws → N 17 v = G.mv v := h9.2.2.2.1
theorem WiresOK.ben {G : Geo} {N : NM} (h9 : WiresOK G N) : ∀ v, 0 ≤ v → v < G.ws → N 18 v = benZ G v := h9.2.2.2.2.1
theorem WiresOK.edg {G : Geo} {N : NM} (h9 : WiresOK G N) : ∀ v, 0 ≤ v → v < G.ws → N 19 v = edgZ G v := h9.2.2.2.2.2.1
theorem WiresOK.pt {G : Geo} {N : NM} (h9 : WiresOK G N) : ∀ v i, 0 ≤ v → v < G.ws → 0 ≤ i → i ≤ G.mv v → N 20 (25 * v + i) = ptC G v i := h9.2.2.2.2.2.2.1
theorem WiresOK.er {G : Geo} {N : NM} (h9 : WiresOK G N) : ∀ v i, 0 ≤ v → v < G.ws → 0 ≤ i → i < G.mv v → N 21 (24 * v + i) = eC G v i := h9.2.2.2.2.2.2.2
theorem WiresOK.mk {G : Geo} {N : NM} (a9ws : N 14 7 = G.ws) (a9laid : ∀ v, 0 ≤ v → v < G.ws → N 15 v = G.laid v) (a9sold : ∀ v, 0 ≤ v → v < G.ws → N 16 v = G.sold v) (a9mv : ∀ v, 0 ≤ v → v < G.ws → N 17 v = G.mv v) (a9ben : ∀ v, 0 ≤ v → v < G.ws → N 18 v = benZ G v) (a9edg : ∀ v, 0 ≤ v → v < G.ws → N 19 v = edgZ G v) (a9pt : ∀ v i, 0 ≤ v → v < G.ws → 0 ≤ i → i ≤ G.mv v → N 20 (25 * v + i) = ptC G v i) (a9er : ∀ v i, 0 ≤ v → v < G.ws → 0 ≤ i → i < G.mv v → N 21 (24 * v + i) = eC G v i) : WiresOK G N := ⟨a9ws, a9laid, a9sold, a9mv, a9ben, a9edg, a9pt, a9er⟩
def NetOK (G : Geo) (N : NM) : Prop := (∀ e, 0 ≤ e → e < 178 → N 23 e = covC G e) ∧ (∀ e, 0 ≤ e → e < 178 → N 24 e = solC G e) ∧ (∀ p, 0 ≤ p → p < 89 → N 25 p = comC G p) ∧ (∀ v, 0 ≤ v → v < G.ws → N 28 v = bZ (heldZ G v))
theorem NetOK.cov {G : Geo} {N : NM} (h9 : NetOK G N) : ∀ e, 0 ≤ e → e < 178 → N 23 e = covC G e := h9.1
theorem NetOK.sol {G : Geo} {N : NM} (h9 : NetOK G N) : ∀ e, 0 ≤ e → e < 178 → N 24 e = solC G e := h9.2.1
theorem NetOK.com {G : Geo} {N : NM} (h9 : NetOK G N) : ∀ p, 0 ≤ p → p < 89 → N 25 p = comC G p := h9.2.2.1
theorem NetOK.held {G : Geo} {N : NM} (h9 : NetOK G N) : ∀ v, 0 ≤ v → v < G.ws → N 28 v = bZ (heldZ G v) := h9.2.2.2
theorem NetOK.mk {G : Geo} {N : NM} (a9cov : ∀ e, 0 ≤ e → e < 178 → N 23 e = covC G e) (a9sol : ∀ e, 0 ≤ e → e < 178 → N 24 e = solC G e) (a9com : ∀ p, 0 ≤ p → p < 89 → N 25 p = comC G p) (a9held : ∀ v, 0 ≤ v → v < G.ws → N 28 v = bZ (heldZ G v)) : NetOK G N := ⟨a9cov, a9sol, a9com, a9held⟩
def CellsOK (G : Geo) (N : NM) : Prop := (∀ f, 0 ≤ f → f < G.w * G.h → N 33 f = cellZ G f) ∧ (∀ f, G.w * G.h ≤ f → f < 64 → N 33 f = -1) ∧ (∀ f, 0 ≤ f → f < G.w * G.h → cellZ G f = f → N 34 f = sizeZ G f) ∧ (N 32 5 = sumZ (G.w * G.h) (fun f => bZ (cellZ G f = f)))
theorem CellsOK.cell {G : Geo} {N : NM} (h9 : CellsOK G N) : ∀ f, 0 ≤ f → f < G.w * G.h → N 33 f = cellZ G f := h9.1
theorem CellsOK.none {G : Geo} {N : NM} (h9 : CellsOK G N) : ∀ f, G.w * G.h ≤ f → f < 64 → N 33 f = -1 := h9.2.1
theorem CellsOK.size {G : Geo} {N : NM} (h9 : CellsOK G N) : ∀ f, 0 ≤ f → f < G.w * G.h → cellZ G f = f → N 34 f = sizeZ G f := h9.2.2.1
theorem CellsOK.total {G : Geo} {N : NM} (h9 : CellsOK G N) : N 32 5 = sumZ (G.w * G.h) (fun f => bZ (cellZ G f = f)) := h9.2.2.2
theorem CellsOK.mk {G : Geo} {N : NM} (a9cell : ∀ f, 0 ≤ f → f < G.w * G.h → N 33 f = cellZ G f) (a9none : ∀ f, G.w * G.h ≤ f → f < 64 → N 33 f = -1) (a9size : ∀ f, 0 ≤ f → f < G.w * G.h → cellZ G f = f → N 34 f = sizeZ G f) (a9total : N 32 5 = sumZ (G.w * G.h) (fun f => bZ (cellZ G f = f))) : CellsOK G N := ⟨a9cell, a9none, a9size, a9total⟩
def PalOK (G : Pal) (N : NM) : Prop := (∀ c, 0 ≤ c → c < 8 → N 41 (3 * c) = G.heat c) ∧ (∀ c, 0 ≤ c → c < 8 → N 41 (3 * c + 1) = G.shr c) ∧ (∀ c, 0 ≤ c → c < 8 → N 41 (3 * c + 2) = G.pul c) ∧ (∀ a b, 0 ≤ a → a < 8 → 0 ≤ b → b < 8 → (N 42 a) / 2 ^ b.toNat % 2 = G.foe (8 * a + b)) ∧ (∀ a, 0 ≤ a → a < 8 → 0 ≤ N 42 a ∧ N 42 a < 256) ∧ (N 43 0 = G.wall) ∧ (N 43 1 = G.stiff) ∧ (N 43 2 = G.bear)
theorem PalOK.heat {G : Pal} {N : NM} (h9 : PalOK G N) : ∀ c, 0 ≤ c → c < 8 → N 41 (3 * c) = G.heat c := h9.1
theorem PalOK.shr {G : Pal} {N : NM} (h9 : PalOK G N) : ∀ c, 0 ≤ c → c < 8 → N 41 (3 * c + 1) = G.shr c := h9.2.1
theorem PalOK.pul {G : Pal} {N : NM} (h9 : PalOK G N) : ∀ c, 0 ≤ c → c < 8 → N 41 (3 * c + 2) = G.pul c := h9.2.2.1
theorem PalOK.foe {G : Pal} {N : NM} (h9 : PalOK G N) : ∀ a b, 0 ≤ a → a < 8 → 0 ≤ b → b < 8 → (N 42 a) / 2 ^ b.toNat % 2 = G.foe (8 * a + b) := h9.2.2.2.1
theorem PalOK.foeR {G : Pal} {N : NM} (h9 : PalOK G N) : ∀ a, 0 ≤ a → a < 8 → 0 ≤ N 42 a ∧ N 42 a < 256 := h9.2.2.2.2.1
theorem PalOK.wall {G : Pal} {N : NM} (h9 : PalOK G N) : N 43 0 = G.wall := h9.2.2.2.2.2.1
theorem PalOK.stiff {G : Pal} {N : NM} (h9 : PalOK G N) : N 43 1 = G.stiff := h9.2.2.2.2.2.2.1
theorem PalOK.bear {G : Pal} {N : NM} (h9 : PalOK G N) : N 43 2 = G.bear := h9.2.2.2.2.2.2.2
theorem PalOK.mk {G : Pal} {N : NM} (a9heat : ∀ c, 0 ≤ c → c < 8 → N 41 (3 * c) = G.heat c) (a9shr : ∀ c, 0 ≤ c → c < 8 → N 41 (3 * c + 1) = G.shr c) (a9pul : ∀ c, 0 ≤ c → c < 8 → N 41 (3 * c + 2) = G.pul c) (a9foe : ∀ a b, 0 ≤ a → a < 8 → 0 ≤ b → b < 8 → (N 42 a) / 2 ^ b.toNat % 2 = G.foe (8 * a + b)) (a9foeR : ∀ a, 0 ≤ a → a < 8 → 0 ≤ N 42 a ∧ N 42 a < 256) (a9wall : N 43 0 = G.wall) (a9stiff : N 43 1 = G.stiff) (a9bear : N 43 2 = G.bear) : PalOK G N := ⟨a9heat, a9shr, a9pul, a9foe, a9foeR, a9wall, a9stiff, a9bear⟩
def GlassOK (G : Gla) (N : NM) : Prop := (N 44 9 = G.fires) ∧ (N 45 = G.lay) ∧ (N 46 = G.col) ∧ (N 47 = G.thk) ∧ (N 48 = G.sta)
theorem GlassOK.fires {G : Gla} {N : NM} (h9 : GlassOK G N) : N 44 9 = G.fires := h9.1
theorem GlassOK.layF {G : Gla} {N : NM} (h9 : GlassOK G N) : N 45 = G.lay := h9.2.1
theorem GlassOK.colF {G : Gla} {N : NM} (h9 : GlassOK G N) : N 46 = G.col := h9.2.2.1
theorem GlassOK.thkF {G : Gla} {N : NM} (h9 : GlassOK G N) : N 47 = G.thk := h9.2.2.2.1
theorem GlassOK.staF {G : Gla} {N : NM} (h9 : GlassOK G N) : N 48 = G.sta := h9.2.2.2.2
theorem GlassOK.mk {G : Gla} {N : NM} (a9fires : N 44 9 = G.fires) (a9layF : N 45 = G.lay) (a9colF : N 46 = G.col) (a9thkF : N 47 = G.thk) (a9staF : N 48 = G.sta) : GlassOK G N := ⟨a9fires, a9layF, a9colF, a9thkF, a9staF⟩
theorem GlassOK.lay {G : Gla} {N : NM} (h : GlassOK G N) : ∀ f, 0 ≤ f → f < 64 → N 45 f = G.lay f := fun _ _ _ => by rw [h.layF]
theorem GlassOK.col {G : Gla} {N : NM} (h : GlassOK G N) : ∀ f, 0 ≤ f → f < 768 → N 46 f = G.col f := fun _ _ _ => by rw [h.colF]
theorem GlassOK.thk {G : Gla} {N : NM} (h : GlassOK G N) : ∀ f, 0 ≤ f → f < 768 → N 47 f = G.thk f := fun _ _ _ => by rw [h.thkF]
theorem GlassOK.sta {G : Gla} {N : NM} (h : GlassOK G N) : ∀ f, 0 ≤ f → f < 768 → N 48 f = G.sta f := fun _ _ _ => by rw [h.staF]
def TenOK (G : Ten) (N : NM) : Prop := (N 53 3 = G.bc) ∧ (N 53 4 = G.bt)
theorem TenOK.bc {G : Ten} {N : NM} (h9 : TenOK G N) : N 53 3 = G.bc := h9.1
theorem TenOK.bt {G : Ten} {N : NM} (h9 : TenOK G N) : N 53 4 = G.bt := h9.2
theorem TenOK.mk {G : Ten} {N : NM} (a9bc : N 53 3 = G.bc) (a9bt : N 53 4 = G.bt) : TenOK G N := ⟨a9bc, a9bt⟩
def RodsOK (G : Rod) (N : NM) : Prop := (N 54 4 = G.rods) ∧ (∀ k, 0 ≤ k → k < G.rods → N 55 k = G.rl k) ∧ (∀ k, 0 ≤ k → k < G.rods → N 56 k = G.rm k)
theorem RodsOK.rods {G : Rod} {N : NM} (h9 : RodsOK G N) : N 54 4 = G.rods := h9.1
theorem RodsOK.rl {G : Rod} {N : NM} (h9 : RodsOK G N) : ∀ k, 0 ≤ k → k < G.rods → N 55 k = G.rl k := h9.2.1
theorem RodsOK.rm {G : Rod} {N : NM} (h9 : RodsOK G N) : ∀ k, 0 ≤ k → k < G.rods → N 56 k = G.rm k := h9.2.2
theorem RodsOK.mk {G : Rod} {N : NM} (a9rods : N 54 4 = G.rods) (a9rl : ∀ k, 0 ≤ k → k < G.rods → N 55 k = G.rl k) (a9rm : ∀ k, 0 ≤ k → k < G.rods → N 56 k = G.rm k) : RodsOK G N := ⟨a9rods, a9rl, a9rm⟩
def ClsOK (P : Pic) (N : NM) : Prop := (GridOK P.toGeo N) ∧ (PageOK P.toPag N) ∧ (WiresOK P.toGeo N) ∧ (NetOK P.toGeo N) ∧ (CellsOK P.toGeo N) ∧ (PalOK P.toPal N) ∧ (GlassOK P.toGla N) ∧ (TenOK P.toTen N) ∧ (RodsOK P.toRod N)
theorem ClsOK.grid {P : Pic} {N : NM} (h9 : ClsOK P N) : GridOK P.toGeo N := h9.1
theorem ClsOK.page {P : Pic} {N : NM} (h9 : ClsOK P N) : PageOK P.toPag N := h9.2.1
theorem ClsOK.wires {P : Pic} {N : NM} (h9 : ClsOK P N) : WiresOK P.toGeo N := h9.2.2.1
theorem ClsOK.net {P : Pic} {N : NM} (h9 : ClsOK P N) : NetOK P.toGeo N := h9.2.2.2.1
theorem ClsOK.cells {P : Pic} {N : NM} (h9 : ClsOK P N) : CellsOK P.toGeo N := h9.2.2.2.2.1
theorem ClsOK.pal {P : Pic} {N : NM} (h9 : ClsOK P N) : PalOK P.toPal N := h9.2.2.2.2.2.1
theorem ClsOK.glass {P : Pic} {N : NM} (h9 : ClsOK P N) : GlassOK P.toGla N := h9.2.2.2.2.2.2.1
theorem ClsOK.ten {P : Pic} {N : NM} (h9 : ClsOK P N) : TenOK P.toTen N := h9.2.2.2.2.2.2.2.1
theorem ClsOK.rods {P : Pic} {N : NM} (h9 : ClsOK P N) : RodsOK P.toRod N := h9.2.2.2.2.2.2.2.2
theorem ClsOK.mk {P : Pic} {N : NM} (a9grid : GridOK P.toGeo N) (a9page : PageOK P.toPag N) (a9wires : WiresOK P.toGeo N) (a9net : NetOK P.toGeo N) (a9cells : CellsOK P.toGeo N) (a9pal : PalOK P.toPal N) (a9glass : GlassOK P.toGla N) (a9ten : TenOK P.toTen N) (a9rods : RodsOK P.toRod N) : ClsOK P N := ⟨a9grid, a9page, a9wires, a9net, a9cells, a9pal, a9glass, a9ten, a9rods⟩
def sCls (N N' : NM) : Prop := ∀ a, a < 59 → N' a = N a
def sRef (N N' : NM) : Prop := ∀ a, 59 ≤ a → N' a = N a
theorem RefOK.fr {P : Pic} {N N' : NM} (h : RefOK P N) (hf : sRef N N') : RefOK P N' := by
  refine RefOK.mk ?_ ?_ ?_ ?_ ?_ ?_ ?_ ?_ ?_ ?_ ?_ ?_ ?_ ?_ ?_ ?_ ?_ ?_ ?_ ?_ ?_ ?_ ?_ ?_ ?_ ?_ ?_ <;> (rw [hf _ (by decide)])
  · exact h.w
  · exact h.h
  · exact h.pm
  · exact h.ws
  · exact h.wall
  · exact h.stiff
  · exact h.bear
  · exact h.fires
  · exact h.bc
  · exact h.bt
  · exact h.rods
  · exact h.pg
  · exact h.px
  · exact h.py
  · exact h.mv
  · exact h.laid
  · exact h.sold
  · exact h.heat
  · exact h.shr
  · exact h.pul
  · exact h.foe
  · exact h.lay
  · exact h.col
  · exact h.thk
  · exact h.sta
  · exact h.rl
  · exact h.rm
theorem GridOK.fr {G : Geo} {N N' : NM} (h : GridOK G N) (h9 : N' 9 = N 9) (h10 : N' 10 = N 10) (h11 : N' 11 = N 11) : GridOK G N' := by
  refine GridOK.mk ?_ ?_ ?_ ?_ <;> simp only [h9, h10, h11]
  · exact h.w
  · exact h.h
  · exact h.x
  · exact h.y
theorem PageOK.fr {G : Pag} {N N' : NM} (h : PageOK G N) (h1 : N' 12 = N 12) (h2 : N' 13 = N 13) : PageOK G N' := by
  refine PageOK.mk ?_ ?_ <;> simp only [h1, h2]
  · exact h.pm
  · exact h.pg
theorem WiresOK.fr {G : Geo} {N N' : NM} (h : WiresOK G N) (h1 : N' 14 = N 14) (h2 : N' 15 = N 15) (h3 : N' 16 = N 16) (h4 : N' 17 = N 17) (h5 : N' 18 = N 18) (h6 : N' 19 = N 19) (h7 : N' 20 = N 20) (h8 : N' 21 = N 21) : WiresOK G N' := by
  refine WiresOK.mk ?_ ?_ ?_ ?_ ?_ ?_ ?_ ?_ <;> simp only [h1, h2, h3, h4, h5, h6, h7, h8]
  · exact h.ws
  · exact h.laid
  · exact h.sold
  · exact h.mv
  · exact h.ben
  · exact h.edg
  · exact h.pt
  · exact h.er
theorem NetOK.fr {G : Geo} {N N' : NM} (h : NetOK G N) (h1 : N' 23 = N 23) (h2 : N' 24 = N 24) (h3 : N' 25 = N 25) (h4 : N' 28 = N 28) : NetOK G N' := by
  refine NetOK.mk ?_ ?_ ?_ ?_ <;> simp only [h1, h2, h3, h4]
  · exact h.cov
  · exact h.sol
  · exact h.com
  · exact h.held
theorem CellsOK.fr {G : Geo} {N N' : NM} (h : CellsOK G N) (h1 : N' 32 = N 32) (h2 : N' 33 = N 33) (h3 : N' 34 = N 34) : CellsOK G N' := by
  refine CellsOK.mk ?_ ?_ ?_ ?_ <;> simp only [h1, h2, h3]
  · exact h.cell
  · exact h.none
  · exact h.size
  · exact h.total
theorem PalOK.fr {G : Pal} {N N' : NM} (h : PalOK G N) (h1 : N' 41 = N 41) (h2 : N' 42 = N 42) (h3 : N' 43 = N 43) : PalOK G N' := by
  refine PalOK.mk ?_ ?_ ?_ ?_ ?_ ?_ ?_ ?_ <;> simp only [h1, h2, h3]
  · exact h.heat
  · exact h.shr
  · exact h.pul
  · exact h.foe
  · exact h.foeR
  · exact h.wall
  · exact h.stiff
  · exact h.bear
theorem GlassOK.fr {G : Gla} {N N' : NM} (h : GlassOK G N) (h1 : N' 44 = N 44) (h2 : N' 45 = N 45) (h3 : N' 46 = N 46) (h4 : N' 47 = N 47) (h5 : N' 48 = N 48) : GlassOK G N' := by
  refine GlassOK.mk ?_ ?_ ?_ ?_ ?_ <;> simp only [h1, h2, h3, h4, h5]
  · exact h.fires
  · exact h.layF
  · exact h.colF
  · exact h.thkF
  · exact h.staF
theorem TenOK.fr {G : Ten} {N N' : NM} (h : TenOK G N) (h1 : N' 53 = N 53) : TenOK G N' := by
  refine TenOK.mk ?_ ?_ <;> simp only [h1]
  · exact h.bc
  · exact h.bt
theorem RodsOK.fr {G : Rod} {N N' : NM} (h : RodsOK G N) (h1 : N' 54 = N 54) (h2 : N' 55 = N 55) (h3 : N' 56 = N 56) : RodsOK G N' := by
  refine RodsOK.mk ?_ ?_ ?_ <;> simp only [h1, h2, h3]
  · exact h.rods
  · exact h.rl
  · exact h.rm
/-- cells that the program's picture stands in -/
def clsC (a : Nat) : Bool := decide ((9 ≤ a ∧ a ≤ 21) ∨ a = 23 ∨ a = 24 ∨ a = 25 ∨ a = 28 ∨ (32 ≤ a ∧ a ≤ 34) ∨ (41 ≤ a ∧ a ≤ 48) ∨ (53 ≤ a ∧ a ≤ 56))
theorem ClsOK.fr {P : Pic} {N N' : NM} (h : ClsOK P N) (hf : ∀ a, clsC a = true → N' a = N a) : ClsOK P N' := ClsOK.mk
  (h.grid.fr (hf _ (by decide)) (hf _ (by decide)) (hf _ (by decide)))
  (h.page.fr (hf _ (by decide)) (hf _ (by decide)))
  (h.wires.fr (hf _ (by decide)) (hf _ (by decide)) (hf _ (by decide)) (hf _ (by decide)) (hf _ (by decide)) (hf _ (by decide)) (hf _ (by decide)) (hf _ (by decide)))
  (h.net.fr (hf _ (by decide)) (hf _ (by decide)) (hf _ (by decide)) (hf _ (by decide)))
  (h.cells.fr (hf _ (by decide)) (hf _ (by decide)) (hf _ (by decide)))
  (h.pal.fr (hf _ (by decide)) (hf _ (by decide)) (hf _ (by decide)))
  (h.glass.fr (hf _ (by decide)) (hf _ (by decide)) (hf _ (by decide)) (hf _ (by decide)) (hf _ (by decide)))
  (h.ten.fr (hf _ (by decide)))
  (h.rods.fr (hf _ (by decide)) (hf _ (by decide)) (hf _ (by decide)))
def GInv (P : Pic) (N : NM) : Prop := (PicOK P) ∧ (RefOK P N) ∧ (ClsOK P N)
theorem GInv.ok {P : Pic} {N : NM} (h9 : GInv P N) : PicOK P := h9.1
theorem GInv.ref {P : Pic} {N : NM} (h9 : GInv P N) : RefOK P N := h9.2.1
theorem GInv.cls {P : Pic} {N : NM} (h9 : GInv P N) : ClsOK P N := h9.2.2
theorem GInv.mk {P : Pic} {N : NM} (a9ok : PicOK P) (a9ref : RefOK P N) (a9cls : ClsOK P N) : GInv P N := ⟨a9ok, a9ref, a9cls⟩
/-- a call of the program, and the same call of the reference: both answer alike, and both hold the same picture behind it -/
def Both (E : gw_N) (N : NM) (mc mr : Nat) (args : List Value) : Prop :=
  ∃ (r : Value) (P' : Pic) (N1 N2 : NM), Rn mc (.ref 8 :: args) (hs E (jm N)) (some r) (hs E (jm N1)) ∧ Rn mr (.ref 59 :: args) (hs E (jm N1)) (some r) (hs E (jm N2)) ∧ GInv P' N2
def ClsDoes (E : gw_N) (N : NM) (mc : Nat) (args : List Value) (r : Value) (P' : Pic) : Prop :=
  ∃ N1, Rn mc (.ref 8 :: args) (hs E (jm N)) (some r) (hs E (jm N1)) ∧ ClsOK P' N1 ∧ sRef N N1
def RefDoes (E : gw_N) (N : NM) (mr : Nat) (args : List Value) (r : Value) (P' : Pic) : Prop :=
  ∃ N1, Rn mr (.ref 59 :: args) (hs E (jm N)) (some r) (hs E (jm N1)) ∧ RefOK P' N1 ∧ sCls N N1
theorem both {E : gw_N} {N : NM} {mc mr : Nat} {args : List Value} {r : Value} {P P' : Pic} (hI : GInv P N) (hp : PicOK P')
    (hc : ClsDoes E N mc args r P') (hr : ∀ N, RefOK P N → RefDoes E N mr args r P') : Both E N mc mr args := by
  obtain ⟨N1, h1, h2, h3⟩ := hc
  obtain ⟨N2, k1, k2, k3⟩ := hr N1 (hI.ref.fr h3)
  exact ⟨r, P', N1, N2, h1, k1, GInv.mk hp k2 (h2.fr (fun a ha => k3 a (by unfold clsC at ha; rw [decide_eq_true_eq] at ha; omega)))⟩
theorem both_same {E : gw_N} {N : NM} {mc mr : Nat} {args : List Value} {r : Value} {P : Pic} (hI : GInv P N)
    (hc : Rn mc (.ref 8 :: args) (hs E (jm N)) (some r) (hs E (jm N)))
    (hr : Rn mr (.ref 59 :: args) (hs E (jm N)) (some r) (hs E (jm N))) : Both E N mc mr args := ⟨r, P, N, N, hc, hr, hI⟩
/-- a question: the program's picture stays -/
def QC (E : gw_N) (N : NM) (mc : Nat) (args : List Value) (r : Value) : Prop :=
  ∃ N1, Rn mc (.ref 8 :: args) (hs E (jm N)) (some r) (hs E (jm N1)) ∧ ∀ a, clsC a = true ∨ 59 ≤ a → N1 a = N a
def QR (E : gw_N) (N : NM) (P : Pic) (mr : Nat) (args : List Value) (r : Value) : Prop :=
  ∃ N1, Rn mr (.ref 59 :: args) (hs E (jm N)) (some r) (hs E (jm N1)) ∧ RefOK P N1 ∧ sCls N N1
theorem both_q {E : gw_N} {N : NM} {mc mr : Nat} {args : List Value} {r : Value} {P : Pic} (hI : GInv P N)
    (hc : QC E N mc args r) (hr : ∀ N, RefOK P N → QR E N P mr args r) : Both E N mc mr args := by
  obtain ⟨N1, h1, h2⟩ := hc
  exact both hI hI.ok ⟨N1, h1, hI.cls.fr (fun a ha => h2 a (Or.inl ha)), fun a ha => h2 a (Or.inr ha)⟩ hr
theorem QC.same {E : gw_N} {N : NM} {mc : Nat} {args : List Value} {r : Value} (h : Rn mc (.ref 8 :: args) (hs E (jm N)) (some r) (hs E (jm N))) : QC E N mc args r := ⟨N, h, fun _ _ => rfl⟩
theorem QR.same {E : gw_N} {N : NM} {P : Pic} {mc : Nat} {args : List Value} {r : Value} (hR : RefOK P N) (h : Rn mc (.ref 59 :: args) (hs E (jm N)) (some r) (hs E (jm N))) : QR E N P mc args r := ⟨N, h, hR, fun _ _ => rfl⟩
