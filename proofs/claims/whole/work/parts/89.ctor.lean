/-! objects that are half made: the memory's forms, but for the cells of a list -/
def ho (E : gw_N) (M : Mem) (ov : List (Nat × gw_C)) : gw_H := (fun a => match ov.lookup a with
  | some c => c
  | none => (hs E M).1 a, E.2.1, E.2.2)
theorem ho_nil {E : gw_N} {M : Mem} : ho E M [] = hs E M := rfl
theorem ho_lk {α : Type} {a q : Nat} {c : α} {ov : List (Nat × α)} : ((a, c) :: ov).lookup q = if q = a then some c else ov.lookup q := by
  rw [List.lookup_cons]
  by_cases h : q = a
  · subst h; simp
  · rw [if_neg h, show (q == a) = false by simp [h]]
theorem ho_mem {E : gw_N} {M : Mem} {ov : List (Nat × gw_C)} {a : Nat} {g : Nat → Int32} (ha : 8 ≤ a) (hl : ov.lookup a = none) : gw_set (ho E M ov) a (hpc a g) = ho E (up M a g) ov := by
  unfold gw_set ho
  refine Prod.ext ?_ rfl
  funext q
  show (if q = a then hpc a g else (match ov.lookup q with
    | some c => c
    | none => (if q < 8 then _ else hpc q (M q)))) = (match ov.lookup q with
    | some c => c
    | none => (if q < 8 then _ else hpc q (if q = a then g else M q)))
  by_cases h : q = a
  · subst h
    rw [if_pos rfl, hl]
    dsimp only
    rw [if_neg (by omega), if_pos rfl]
  · rw [if_neg h, if_neg h]
theorem ho_ov {E : gw_N} {M : Mem} {ov : List (Nat × gw_C)} {a : Nat} {c c' : gw_C} : gw_set (ho E M ((a, c) :: ov)) a c' = ho E M ((a, c') :: ov) := by
  unfold gw_set ho
  refine Prod.ext ?_ rfl
  funext q
  show (if q = a then c' else (match ((a, c) :: ov).lookup q with
    | some c => c
    | none => (hs E M).1 q)) = (match ((a, c') :: ov).lookup q with
    | some c => c
    | none => (hs E M).1 q)
  rw [ho_lk, ho_lk]
  by_cases h : q = a
  · rw [if_pos h, if_pos h]
  · rw [if_neg h, if_neg h, if_neg h]
theorem ho_obj {X : Nat × (Nat → Int32)} {n z k : Nat} {M : Mem} {ov : List (Nat × gw_C)} {c : gw_C} : gw_new (ho (X, n, z) M ov) c k = ho (X, n + 1, z + k) M ((n, c) :: ov) := by
  unfold gw_new ho
  refine Prod.ext ?_ rfl
  funext q
  show (if q = n then c else (match ov.lookup q with
    | some c => c
    | none => (hs (X, n, z) M).1 q)) = (match ((n, c) :: ov).lookup q with
    | some c => c
    | none => (hs (X, n + 1, z + k) M).1 q)
  rw [ho_lk]
  by_cases h : q = n
  · rw [if_pos h, if_pos h]
  · rw [if_neg h, if_neg h]
    rfl
theorem ho_done {E : gw_N} {M : Mem} {ov : List (Nat × gw_C)} {a : Nat} {g : Nat → Int32} (ha : 8 ≤ a) (hl : ov.lookup a = none) : ho E M ((a, hpc a g) :: ov) = ho E (up M a g) ov := by
  unfold ho
  refine Prod.ext ?_ rfl
  funext q
  show (match ((a, hpc a g) :: ov).lookup q with
    | some c => c
    | none => (if q < 8 then _ else hpc q (M q))) = (match ov.lookup q with
    | some c => c
    | none => (if q < 8 then _ else hpc q (if q = a then g else M q)))
  rw [ho_lk]
  by_cases h : q = a
  · subst h
    rw [if_pos rfl, hl]
    dsimp only
    rw [if_neg (by omega), if_pos rfl]
  · rw [if_neg h, if_neg h]
theorem ho_arr {X : Nat × (Nat → Int32)} {n z k : Nat} {M : Mem} {ov : List (Nat × gw_C)} {g : Nat → Int32} (ha : 8 ≤ n) (hl : ov.lookup n = none) : gw_new (ho (X, n, z) M ov) (hpc n g) k = ho (X, n + 1, z + k) (up M n g) ov := by
  rw [ho_obj, ho_done ha hl]
section EVH
variable {b m pc : Nat} {L : gw_L} {st : List Value} {res : Option Value × gw_H}
theorem Ev.hto {h h' : gw_H} (e : h = h') (k : Ev b m pc L st h' res) : Ev b m pc L st h res := e ▸ k
end EVH
/-! the constructors, by program (ctor.py) -/
section CTO
variable {b m pc : Nat} {L : gw_L} {st : List Value} {res : Option Value × gw_H} {X : Nat × (Nat → Int32)} {E : gw_N} {M M' : Mem} {ov : List (Nat × gw_C)} {pc' : Nat} {L' : gw_L} {st' : List Value}
theorem Ev.hdn {a : Nat} {c : gw_C} {g : Nat → Int32} (ha : 8 ≤ a) (hl : ov.lookup a = none) (hc : c = hpc a g) (e : up M a g = M') (k : Ev b m pc L st (ho E M' ov) res) : Ev b m pc L st (ho E M ((a, c) :: ov)) res := by
  rw [hc, ho_done ha hl, e]; exact k
theorem Ev.hno {n z k n' z' : Nat} {c : gw_C} (h1 : gw_stp m pc L st (ho (X, n, z) M ov) = some (pc', L', st', gw_new (ho (X, n, z) M ov) c k)) (e1 : n + 1 = n') (e2 : z + k = z') (h : Ev b m pc' L' st' (ho (X, n', z') M ((n, c) :: ov)) res) : Ev b m pc L st (ho (X, n, z) M ov) res := Ev.step h1 (by rw [ho_obj, e1, e2]; exact h)
theorem Ev.hna {n z k n' z' : Nat} {g : Nat → Int32} (ha : 8 ≤ n) (hl : ov.lookup n = none) (h1 : gw_stp m pc L st (ho (X, n, z) M ov) = some (pc', L', st', gw_new (ho (X, n, z) M ov) (hpc n g) k)) (e1 : n + 1 = n') (e2 : z + k = z') (e : up M n g = M') (h : Ev b m pc' L' st' (ho (X, n', z') M' ov) res) : Ev b m pc L st (ho (X, n, z) M ov) res := Ev.step h1 (by rw [ho_arr ha hl, e1, e2, e]; exact h)
theorem Ev.hpf {a : Nat} {c c' : gw_C} (h1 : gw_stp m pc L st (ho E M ((a, c) :: ov)) = some (pc', L', st', gw_set (ho E M ((a, c) :: ov)) a c')) (h : Ev b m pc' L' st' (ho E M ((a, c') :: ov)) res) : Ev b m pc L st (ho E M ((a, c) :: ov)) res := Ev.step h1 (by rw [ho_ov]; exact h)
theorem Ev.hmm {a : Nat} {g : Nat → Int32} (ha : 8 ≤ a) (hl : ov.lookup a = none) (h1 : gw_stp m pc L st (ho E M ov) = some (pc', L', st', gw_set (ho E M ov) a (hpc a g))) (e : up M a g = M') (h : Ev b m pc' L' st' (ho E M' ov) res) : Ev b m pc L st (ho E M ov) res := Ev.step h1 (by rw [ho_mem ha hl, e]; exact h)
theorem Ev.hwr {a n : Nat} {i : Int32} {g : Nat → Int32} (ha : 8 ≤ a) (hl : ov.lookup a = none) (hi : inb i n) (h1 : gw_stp m pc L st (ho E M ov) = if i < 0 ∨ n ≤ i.toNatClampNeg then none else some (pc', L', st', gw_set (ho E M ov) a (hpc a g))) (e : up M a g = M') (h : Ev b m pc' L' st' (ho E M' ov) res) : Ev b m pc L st (ho E M ov) res := Ev.hmm ha hl (h1.trans (if_neg hi)) e h
end CTO
def km0 : Mem := fun _ _ => 0
def km1 : Mem := up km0 10 (fun _ => 0)
def km2 : Mem := up km1 11 (fun _ => 0)
def km3 : Mem := up km2 9 (fun _ => 0)
def km4 : Mem := up km3 9 (upd (km3 9) 2 4)
def km5 : Mem := up km4 9 (upd (km4 9) 3 4)
def km6 : Mem := up km5 10 (upd (km5 10) (0 : Int32).toNatClampNeg 0)
def km7 : Mem := up km6 11 (upd (km6 11) (0 : Int32).toNatClampNeg 0)
def km8 : Mem := up km7 10 (upd (km7 10) (1 : Int32).toNatClampNeg 1)
def km9 : Mem := up km8 11 (upd (km8 11) (1 : Int32).toNatClampNeg 0)
def km10 : Mem := up km9 10 (upd (km9 10) (2 : Int32).toNatClampNeg 2)
def km11 : Mem := up km10 11 (upd (km10 11) (2 : Int32).toNatClampNeg 0)
def km12 : Mem := up km11 10 (upd (km11 10) (3 : Int32).toNatClampNeg 3)
def km13 : Mem := up km12 11 (upd (km12 11) (3 : Int32).toNatClampNeg 0)
def km14 : Mem := up km13 10 (upd (km13 10) (4 : Int32).toNatClampNeg 0)
def km15 : Mem := up km14 11 (upd (km14 11) (4 : Int32).toNatClampNeg 1)
def km16 : Mem := up km15 10 (upd (km15 10) (5 : Int32).toNatClampNeg 1)
def km17 : Mem := up km16 11 (upd (km16 11) (5 : Int32).toNatClampNeg 1)
def km18 : Mem := up km17 10 (upd (km17 10) (6 : Int32).toNatClampNeg 2)
def km19 : Mem := up km18 11 (upd (km18 11) (6 : Int32).toNatClampNeg 1)
def km20 : Mem := up km19 10 (upd (km19 10) (7 : Int32).toNatClampNeg 3)
def km21 : Mem := up km20 11 (upd (km20 11) (7 : Int32).toNatClampNeg 1)
def km22 : Mem := up km21 10 (upd (km21 10) (8 : Int32).toNatClampNeg 0)
def km23 : Mem := up km22 11 (upd (km22 11) (8 : Int32).toNatClampNeg 2)
def km24 : Mem := up km23 10 (upd (km23 10) (9 : Int32).toNatClampNeg 1)
def km25 : Mem := up km24 11 (upd (km24 11) (9 : Int32).toNatClampNeg 2)
def km26 : Mem := up km25 10 (upd (km25 10) (10 : Int32).toNatClampNeg 2)
def km27 : Mem := up km26 11 (upd (km26 11) (10 : Int32).toNatClampNeg 2)
def km28 : Mem := up km27 10 (upd (km27 10) (11 : Int32).toNatClampNeg 3)
def km29 : Mem := up km28 11 (upd (km28 11) (11 : Int32).toNatClampNeg 2)
def km30 : Mem := up km29 10 (upd (km29 10) (12 : Int32).toNatClampNeg 0)
def km31 : Mem := up km30 11 (upd (km30 11) (12 : Int32).toNatClampNeg 3)
def km32 : Mem := up km31 10 (upd (km31 10) (13 : Int32).toNatClampNeg 1)
def km33 : Mem := up km32 11 (upd (km32 11) (13 : Int32).toNatClampNeg 3)
def km34 : Mem := up km33 10 (upd (km33 10) (14 : Int32).toNatClampNeg 2)
def km35 : Mem := up km34 11 (upd (km34 11) (14 : Int32).toNatClampNeg 3)
def km36 : Mem := up km35 10 (upd (km35 10) (15 : Int32).toNatClampNeg 3)
def km37 : Mem := up km36 11 (upd (km36 11) (15 : Int32).toNatClampNeg 3)
def km38 : Mem := up km37 13 (fun _ => 0)
def km39 : Mem := up km38 12 (fun _ => 0)
def km40 : Mem := up km39 15 (fun _ => 0)
def km41 : Mem := up km40 16 (fun _ => 0)
def km42 : Mem := up km41 17 (fun _ => 0)
def km43 : Mem := up km42 18 (fun _ => 0)
def km44 : Mem := up km43 19 (fun _ => 0)
def km45 : Mem := up km44 20 (fun _ => 0)
def km46 : Mem := up km45 21 (fun _ => 0)
def km47 : Mem := up km46 14 (fun _ => 0)
def km48 : Mem := up km47 23 (fun _ => 0)
def km49 : Mem := up km48 24 (fun _ => 0)
def km50 : Mem := up km49 25 (fun _ => 0)
def km51 : Mem := up km50 26 (fun _ => 0)
def km52 : Mem := up km51 27 (fun _ => 0)
def km53 : Mem := up km52 28 (fun _ => 0)
def km54 : Mem := up km53 29 (fun _ => 0)
def km55 : Mem := up km54 30 (fun _ => 0)
def km56 : Mem := up km55 31 (fun _ => 0)
def km57 : Mem := up km56 22 (fun _ => 0)
def km58 : Mem := up km57 33 (fun _ => 0)
def km59 : Mem := up km58 34 (fun _ => 0)
def km60 : Mem := up km59 35 (fun _ => 0)
def km61 : Mem := up km60 32 (fun _ => 0)
def km62 : Mem := up km61 37 (fun _ => 0)
def km63 : Mem := up km62 38 (fun _ => 0)
def km64 : Mem := up km63 39 (fun _ => 0)
def km65 : Mem := up km64 36 (fun _ => 0)
def km66 : Mem := up km65 41 (fun _ => 0)
def km67 : Mem := up km66 42 (fun _ => 0)
def km68 : Mem := up km67 43 (fun _ => 0)
def km69 : Mem := up km68 43 (upd (km68 43) (0 : Int32).toNatClampNeg 20)
def km70 : Mem := up km69 43 (upd (km69 43) (1 : Int32).toNatClampNeg 20)
def km71 : Mem := up km70 43 (upd (km70 43) (2 : Int32).toNatClampNeg 50)
def km72 : Mem := up km71 40 (fun _ => 0)
def km73 : Mem := up km72 41 (upd (km72 41) (0 : Int32).toNatClampNeg 700)
def km74 : Mem := up km73 41 (upd (km73 41) (1 : Int32).toNatClampNeg 3)
def km75 : Mem := up km74 41 (upd (km74 41) (2 : Int32).toNatClampNeg 10)
def km76 : Mem := up km75 41 (upd (km75 41) (3 : Int32).toNatClampNeg 700)
def km77 : Mem := up km76 41 (upd (km76 41) (4 : Int32).toNatClampNeg 3)
def km78 : Mem := up km77 41 (upd (km77 41) (5 : Int32).toNatClampNeg 10)
def km79 : Mem := up km78 41 (upd (km78 41) (6 : Int32).toNatClampNeg 700)
def km80 : Mem := up km79 41 (upd (km79 41) (7 : Int32).toNatClampNeg 3)
def km81 : Mem := up km80 41 (upd (km80 41) (8 : Int32).toNatClampNeg 10)
def km82 : Mem := up km81 41 (upd (km81 41) (9 : Int32).toNatClampNeg 700)
def km83 : Mem := up km82 41 (upd (km82 41) (10 : Int32).toNatClampNeg 3)
def km84 : Mem := up km83 41 (upd (km83 41) (11 : Int32).toNatClampNeg 10)
def km85 : Mem := up km84 41 (upd (km84 41) (12 : Int32).toNatClampNeg 700)
def km86 : Mem := up km85 41 (upd (km85 41) (13 : Int32).toNatClampNeg 3)
def km87 : Mem := up km86 41 (upd (km86 41) (14 : Int32).toNatClampNeg 10)
def km88 : Mem := up km87 41 (upd (km87 41) (15 : Int32).toNatClampNeg 700)
def km89 : Mem := up km88 41 (upd (km88 41) (16 : Int32).toNatClampNeg 3)
def km90 : Mem := up km89 41 (upd (km89 41) (17 : Int32).toNatClampNeg 10)
def km91 : Mem := up km90 41 (upd (km90 41) (18 : Int32).toNatClampNeg 700)
def km92 : Mem := up km91 41 (upd (km91 41) (19 : Int32).toNatClampNeg 3)
def km93 : Mem := up km92 41 (upd (km92 41) (20 : Int32).toNatClampNeg 10)
def km94 : Mem := up km93 41 (upd (km93 41) (21 : Int32).toNatClampNeg 700)
def km95 : Mem := up km94 41 (upd (km94 41) (22 : Int32).toNatClampNeg 3)
def km96 : Mem := up km95 41 (upd (km95 41) (23 : Int32).toNatClampNeg 10)
def km97 : Mem := up km96 45 (fun _ => 0)
def km98 : Mem := up km97 46 (fun _ => 0)
def km99 : Mem := up km98 47 (fun _ => 0)
def km100 : Mem := up km99 48 (fun _ => 0)
def km101 : Mem := up km100 49 (fun _ => 0)
def km102 : Mem := up km101 44 (fun _ => 0)
def km103 : Mem := up km102 51 (fun _ => 0)
def km104 : Mem := up km103 52 (fun _ => 0)
def km105 : Mem := up km104 50 (fun _ => 0)
def km106 : Mem := up km105 53 (fun _ => 0)
def km107 : Mem := up km106 55 (fun _ => 0)
def km108 : Mem := up km107 56 (fun _ => 0)
def km109 : Mem := up km108 57 (fun _ => 0)
def km110 : Mem := up km109 58 (fun _ => 0)
def km111 : Mem := up km110 54 (fun _ => 0)
def km112 : Mem := up km111 8 (fun _ => 0)
theorem ct37 {X : Nat × (Nat → Int32)} : Rn 37 [.ref 9, .int 4, .int 4] (ho (X, 12, 143) km3 [(8, .inr (11, [.null, .null, .null, .null, .null, .null, .null, .null, .null, .null, .null]))]) none (ho (X, 12, 143) km37 [(8, .inr (11, [.null, .null, .null, .null, .null, .null, .null, .null, .null, .null, .null]))]) := by
  show Ev 1 37 0 [some (.ref 9), some (.int 4), some (.int 4), none, none] [] (ho (X, 12, 143) km3 [(8, .inr (11, [.null, .null, .null, .null, .null, .null, .null, .null, .null, .null, .null]))]) _
  refine Ev.steps 2 (pc' := 2) (L' := [some (.ref 9), some (.int 4), some (.int 4), none, none]) (st' := [.int 4, .ref 9]) rfl ?_
  refine Ev.hmm (a := 9) (g := upd (km3 9) 2 4) (M' := km4) (pc' := 5) (L' := [some (.ref 9), some (.int 4), some (.int 4), none, none]) (st' := []) (by decide) rfl rfl rfl ?_
  refine Ev.steps 2 (pc' := 7) (L' := [some (.ref 9), some (.int 4), some (.int 4), none, none]) (st' := [.int 4, .ref 9]) rfl ?_
  refine Ev.hmm (a := 9) (g := upd (km4 9) 3 4) (M' := km5) (pc' := 10) (L' := [some (.ref 9), some (.int 4), some (.int 4), none, none]) (st' := []) (by decide) rfl rfl rfl ?_
  refine Ev.steps 4 (pc' := 14) (L' := [some (.ref 9), some (.int 4), some (.int 4), some (.int 0), none]) (st' := [.int 4, .int 0]) rfl ?_
  refine Ev.sw (p := if (4 : Int32) ≤ 0 then 76 else 17) (pc' := 17) (L' := [some (.ref 9), some (.int 4), some (.int 4), some (.int 0), none]) (st' := []) rfl (by decide +kernel) ?_
  refine Ev.steps 2 (pc' := 20) (L' := [some (.ref 9), some (.int 4), some (.int 4), some (.int 0), none]) (st' := [.int 8, .int 0]) rfl ?_
  refine Ev.sw (p := if (8 : Int32) ≤ 0 then 76 else 23) (pc' := 23) (L' := [some (.ref 9), some (.int 4), some (.int 4), some (.int 0), none]) (st' := []) rfl (by decide +kernel) ?_
  refine Ev.steps 4 (pc' := 29) (L' := [some (.ref 9), some (.int 4), some (.int 4), some (.int 0), some (.int 0)]) (st' := [.int 4, .int 0]) rfl ?_
  refine Ev.sw (p := if (4 : Int32) ≤ 0 then 70 else 32) (pc' := 32) (L' := [some (.ref 9), some (.int 4), some (.int 4), some (.int 0), some (.int 0)]) (st' := []) rfl (by decide +kernel) ?_
  refine Ev.steps 2 (pc' := 36) (L' := [some (.ref 9), some (.int 4), some (.int 4), some (.int 0), some (.int 0)]) (st' := [.int 8, .int 0]) rfl ?_
  refine Ev.sw (p := if (8 : Int32) ≤ 0 then 70 else 39) (pc' := 39) (L' := [some (.ref 9), some (.int 4), some (.int 4), some (.int 0), some (.int 0)]) (st' := []) rfl (by decide +kernel) ?_
  refine Ev.steps 8 (pc' := 51) (L' := [some (.ref 9), some (.int 4), some (.int 4), some (.int 0), some (.int 0)]) (st' := [.int 0, .int 0, .ref 10]) rfl ?_
  refine Ev.hwr (a := 10) (g := upd (km5 10) (0 : Int32).toNatClampNeg 0) (i := 0) (n := 64) (M' := km6) (pc' := 52) (L' := [some (.ref 9), some (.int 4), some (.int 4), some (.int 0), some (.int 0)]) (st' := []) (by decide) rfl (show ¬ ((0 : Int32) < 0 ∨ 64 ≤ (0 : Int32).toNatClampNeg) by decide +kernel) rfl rfl ?_
  refine Ev.steps 8 (pc' := 63) (L' := [some (.ref 9), some (.int 4), some (.int 4), some (.int 0), some (.int 0)]) (st' := [.int 0, .int 0, .ref 11]) rfl ?_
  refine Ev.hwr (a := 11) (g := upd (km6 11) (0 : Int32).toNatClampNeg 0) (i := 0) (n := 64) (M' := km7) (pc' := 64) (L' := [some (.ref 9), some (.int 4), some (.int 4), some (.int 0), some (.int 0)]) (st' := []) (by decide) rfl (show ¬ ((0 : Int32) < 0 ∨ 64 ≤ (0 : Int32).toNatClampNeg) by decide +kernel) rfl rfl ?_
  refine Ev.steps 4 (pc' := 29) (L' := [some (.ref 9), some (.int 4), some (.int 4), some (.int 0), some (.int 1)]) (st' := [.int 4, .int 1]) rfl ?_
  refine Ev.sw (p := if (4 : Int32) ≤ 1 then 70 else 32) (pc' := 32) (L' := [some (.ref 9), some (.int 4), some (.int 4), some (.int 0), some (.int 1)]) (st' := []) rfl (by decide +kernel) ?_
  refine Ev.steps 2 (pc' := 36) (L' := [some (.ref 9), some (.int 4), some (.int 4), some (.int 0), some (.int 1)]) (st' := [.int 8, .int 1]) rfl ?_
  refine Ev.sw (p := if (8 : Int32) ≤ 1 then 70 else 39) (pc' := 39) (L' := [some (.ref 9), some (.int 4), some (.int 4), some (.int 0), some (.int 1)]) (st' := []) rfl (by decide +kernel) ?_
  refine Ev.steps 8 (pc' := 51) (L' := [some (.ref 9), some (.int 4), some (.int 4), some (.int 0), some (.int 1)]) (st' := [.int 1, .int 1, .ref 10]) rfl ?_
  refine Ev.hwr (a := 10) (g := upd (km7 10) (1 : Int32).toNatClampNeg 1) (i := 1) (n := 64) (M' := km8) (pc' := 52) (L' := [some (.ref 9), some (.int 4), some (.int 4), some (.int 0), some (.int 1)]) (st' := []) (by decide) rfl (show ¬ ((1 : Int32) < 0 ∨ 64 ≤ (1 : Int32).toNatClampNeg) by decide +kernel) rfl rfl ?_
  refine Ev.steps 8 (pc' := 63) (L' := [some (.ref 9), some (.int 4), some (.int 4), some (.int 0), some (.int 1)]) (st' := [.int 0, .int 1, .ref 11]) rfl ?_
  refine Ev.hwr (a := 11) (g := upd (km8 11) (1 : Int32).toNatClampNeg 0) (i := 1) (n := 64) (M' := km9) (pc' := 64) (L' := [some (.ref 9), some (.int 4), some (.int 4), some (.int 0), some (.int 1)]) (st' := []) (by decide) rfl (show ¬ ((1 : Int32) < 0 ∨ 64 ≤ (1 : Int32).toNatClampNeg) by decide +kernel) rfl rfl ?_
  refine Ev.steps 4 (pc' := 29) (L' := [some (.ref 9), some (.int 4), some (.int 4), some (.int 0), some (.int 2)]) (st' := [.int 4, .int 2]) rfl ?_
  refine Ev.sw (p := if (4 : Int32) ≤ 2 then 70 else 32) (pc' := 32) (L' := [some (.ref 9), some (.int 4), some (.int 4), some (.int 0), some (.int 2)]) (st' := []) rfl (by decide +kernel) ?_
  refine Ev.steps 2 (pc' := 36) (L' := [some (.ref 9), some (.int 4), some (.int 4), some (.int 0), some (.int 2)]) (st' := [.int 8, .int 2]) rfl ?_
  refine Ev.sw (p := if (8 : Int32) ≤ 2 then 70 else 39) (pc' := 39) (L' := [some (.ref 9), some (.int 4), some (.int 4), some (.int 0), some (.int 2)]) (st' := []) rfl (by decide +kernel) ?_
  refine Ev.steps 8 (pc' := 51) (L' := [some (.ref 9), some (.int 4), some (.int 4), some (.int 0), some (.int 2)]) (st' := [.int 2, .int 2, .ref 10]) rfl ?_
  refine Ev.hwr (a := 10) (g := upd (km9 10) (2 : Int32).toNatClampNeg 2) (i := 2) (n := 64) (M' := km10) (pc' := 52) (L' := [some (.ref 9), some (.int 4), some (.int 4), some (.int 0), some (.int 2)]) (st' := []) (by decide) rfl (show ¬ ((2 : Int32) < 0 ∨ 64 ≤ (2 : Int32).toNatClampNeg) by decide +kernel) rfl rfl ?_
  refine Ev.steps 8 (pc' := 63) (L' := [some (.ref 9), some (.int 4), some (.int 4), some (.int 0), some (.int 2)]) (st' := [.int 0, .int 2, .ref 11]) rfl ?_
  refine Ev.hwr (a := 11) (g := upd (km10 11) (2 : Int32).toNatClampNeg 0) (i := 2) (n := 64) (M' := km11) (pc' := 64) (L' := [some (.ref 9), some (.int 4), some (.int 4), some (.int 0), some (.int 2)]) (st' := []) (by decide) rfl (show ¬ ((2 : Int32) < 0 ∨ 64 ≤ (2 : Int32).toNatClampNeg) by decide +kernel) rfl rfl ?_
  refine Ev.steps 4 (pc' := 29) (L' := [some (.ref 9), some (.int 4), some (.int 4), some (.int 0), some (.int 3)]) (st' := [.int 4, .int 3]) rfl ?_
  refine Ev.sw (p := if (4 : Int32) ≤ 3 then 70 else 32) (pc' := 32) (L' := [some (.ref 9), some (.int 4), some (.int 4), some (.int 0), some (.int 3)]) (st' := []) rfl (by decide +kernel) ?_
  refine Ev.steps 2 (pc' := 36) (L' := [some (.ref 9), some (.int 4), some (.int 4), some (.int 0), some (.int 3)]) (st' := [.int 8, .int 3]) rfl ?_
  refine Ev.sw (p := if (8 : Int32) ≤ 3 then 70 else 39) (pc' := 39) (L' := [some (.ref 9), some (.int 4), some (.int 4), some (.int 0), some (.int 3)]) (st' := []) rfl (by decide +kernel) ?_
  refine Ev.steps 8 (pc' := 51) (L' := [some (.ref 9), some (.int 4), some (.int 4), some (.int 0), some (.int 3)]) (st' := [.int 3, .int 3, .ref 10]) rfl ?_
  refine Ev.hwr (a := 10) (g := upd (km11 10) (3 : Int32).toNatClampNeg 3) (i := 3) (n := 64) (M' := km12) (pc' := 52) (L' := [some (.ref 9), some (.int 4), some (.int 4), some (.int 0), some (.int 3)]) (st' := []) (by decide) rfl (show ¬ ((3 : Int32) < 0 ∨ 64 ≤ (3 : Int32).toNatClampNeg) by decide +kernel) rfl rfl ?_
  refine Ev.steps 8 (pc' := 63) (L' := [some (.ref 9), some (.int 4), some (.int 4), some (.int 0), some (.int 3)]) (st' := [.int 0, .int 3, .ref 11]) rfl ?_
  refine Ev.hwr (a := 11) (g := upd (km12 11) (3 : Int32).toNatClampNeg 0) (i := 3) (n := 64) (M' := km13) (pc' := 64) (L' := [some (.ref 9), some (.int 4), some (.int 4), some (.int 0), some (.int 3)]) (st' := []) (by decide) rfl (show ¬ ((3 : Int32) < 0 ∨ 64 ≤ (3 : Int32).toNatClampNeg) by decide +kernel) rfl rfl ?_
  refine Ev.steps 4 (pc' := 29) (L' := [some (.ref 9), some (.int 4), some (.int 4), some (.int 0), some (.int 4)]) (st' := [.int 4, .int 4]) rfl ?_
  refine Ev.sw (p := if (4 : Int32) ≤ 4 then 70 else 32) (pc' := 70) (L' := [some (.ref 9), some (.int 4), some (.int 4), some (.int 0), some (.int 4)]) (st' := []) rfl (by decide +kernel) ?_
  refine Ev.steps 4 (pc' := 14) (L' := [some (.ref 9), some (.int 4), some (.int 4), some (.int 1), some (.int 4)]) (st' := [.int 4, .int 1]) rfl ?_
  refine Ev.sw (p := if (4 : Int32) ≤ 1 then 76 else 17) (pc' := 17) (L' := [some (.ref 9), some (.int 4), some (.int 4), some (.int 1), some (.int 4)]) (st' := []) rfl (by decide +kernel) ?_
  refine Ev.steps 2 (pc' := 20) (L' := [some (.ref 9), some (.int 4), some (.int 4), some (.int 1), some (.int 4)]) (st' := [.int 8, .int 1]) rfl ?_
  refine Ev.sw (p := if (8 : Int32) ≤ 1 then 76 else 23) (pc' := 23) (L' := [some (.ref 9), some (.int 4), some (.int 4), some (.int 1), some (.int 4)]) (st' := []) rfl (by decide +kernel) ?_
  refine Ev.steps 4 (pc' := 29) (L' := [some (.ref 9), some (.int 4), some (.int 4), some (.int 1), some (.int 0)]) (st' := [.int 4, .int 0]) rfl ?_
  refine Ev.sw (p := if (4 : Int32) ≤ 0 then 70 else 32) (pc' := 32) (L' := [some (.ref 9), some (.int 4), some (.int 4), some (.int 1), some (.int 0)]) (st' := []) rfl (by decide +kernel) ?_
  refine Ev.steps 2 (pc' := 36) (L' := [some (.ref 9), some (.int 4), some (.int 4), some (.int 1), some (.int 0)]) (st' := [.int 8, .int 0]) rfl ?_
  refine Ev.sw (p := if (8 : Int32) ≤ 0 then 70 else 39) (pc' := 39) (L' := [some (.ref 9), some (.int 4), some (.int 4), some (.int 1), some (.int 0)]) (st' := []) rfl (by decide +kernel) ?_
  refine Ev.steps 8 (pc' := 51) (L' := [some (.ref 9), some (.int 4), some (.int 4), some (.int 1), some (.int 0)]) (st' := [.int 0, .int 4, .ref 10]) rfl ?_
  refine Ev.hwr (a := 10) (g := upd (km13 10) (4 : Int32).toNatClampNeg 0) (i := 4) (n := 64) (M' := km14) (pc' := 52) (L' := [some (.ref 9), some (.int 4), some (.int 4), some (.int 1), some (.int 0)]) (st' := []) (by decide) rfl (show ¬ ((4 : Int32) < 0 ∨ 64 ≤ (4 : Int32).toNatClampNeg) by decide +kernel) rfl rfl ?_
  refine Ev.steps 8 (pc' := 63) (L' := [some (.ref 9), some (.int 4), some (.int 4), some (.int 1), some (.int 0)]) (st' := [.int 1, .int 4, .ref 11]) rfl ?_
  refine Ev.hwr (a := 11) (g := upd (km14 11) (4 : Int32).toNatClampNeg 1) (i := 4) (n := 64) (M' := km15) (pc' := 64) (L' := [some (.ref 9), some (.int 4), some (.int 4), some (.int 1), some (.int 0)]) (st' := []) (by decide) rfl (show ¬ ((4 : Int32) < 0 ∨ 64 ≤ (4 : Int32).toNatClampNeg) by decide +kernel) rfl rfl ?_
  refine Ev.steps 4 (pc' := 29) (L' := [some (.ref 9), some (.int 4), some (.int 4), some (.int 1), some (.int 1)]) (st' := [.int 4, .int 1]) rfl ?_
  refine Ev.sw (p := if (4 : Int32) ≤ 1 then 70 else 32) (pc' := 32) (L' := [some (.ref 9), some (.int 4), some (.int 4), some (.int 1), some (.int 1)]) (st' := []) rfl (by decide +kernel) ?_
  refine Ev.steps 2 (pc' := 36) (L' := [some (.ref 9), some (.int 4), some (.int 4), some (.int 1), some (.int 1)]) (st' := [.int 8, .int 1]) rfl ?_
  refine Ev.sw (p := if (8 : Int32) ≤ 1 then 70 else 39) (pc' := 39) (L' := [some (.ref 9), some (.int 4), some (.int 4), some (.int 1), some (.int 1)]) (st' := []) rfl (by decide +kernel) ?_
  refine Ev.steps 8 (pc' := 51) (L' := [some (.ref 9), some (.int 4), some (.int 4), some (.int 1), some (.int 1)]) (st' := [.int 1, .int 5, .ref 10]) rfl ?_
  refine Ev.hwr (a := 10) (g := upd (km15 10) (5 : Int32).toNatClampNeg 1) (i := 5) (n := 64) (M' := km16) (pc' := 52) (L' := [some (.ref 9), some (.int 4), some (.int 4), some (.int 1), some (.int 1)]) (st' := []) (by decide) rfl (show ¬ ((5 : Int32) < 0 ∨ 64 ≤ (5 : Int32).toNatClampNeg) by decide +kernel) rfl rfl ?_
  refine Ev.steps 8 (pc' := 63) (L' := [some (.ref 9), some (.int 4), some (.int 4), some (.int 1), some (.int 1)]) (st' := [.int 1, .int 5, .ref 11]) rfl ?_
  refine Ev.hwr (a := 11) (g := upd (km16 11) (5 : Int32).toNatClampNeg 1) (i := 5) (n := 64) (M' := km17) (pc' := 64) (L' := [some (.ref 9), some (.int 4), some (.int 4), some (.int 1), some (.int 1)]) (st' := []) (by decide) rfl (show ¬ ((5 : Int32) < 0 ∨ 64 ≤ (5 : Int32).toNatClampNeg) by decide +kernel) rfl rfl ?_
  refine Ev.steps 4 (pc' := 29) (L' := [some (.ref 9), some (.int 4), some (.int 4), some (.int 1), some (.int 2)]) (st' := [.int 4, .int 2]) rfl ?_
  refine Ev.sw (p := if (4 : Int32) ≤ 2 then 70 else 32) (pc' := 32) (L' := [some (.ref 9), some (.int 4), some (.int 4), some (.int 1), some (.int 2)]) (st' := []) rfl (by decide +kernel) ?_
  refine Ev.steps 2 (pc' := 36) (L' := [some (.ref 9), some (.int 4), some (.int 4), some (.int 1), some (.int 2)]) (st' := [.int 8, .int 2]) rfl ?_
  refine Ev.sw (p := if (8 : Int32) ≤ 2 then 70 else 39) (pc' := 39) (L' := [some (.ref 9), some (.int 4), some (.int 4), some (.int 1), some (.int 2)]) (st' := []) rfl (by decide +kernel) ?_
  refine Ev.steps 8 (pc' := 51) (L' := [some (.ref 9), some (.int 4), some (.int 4), some (.int 1), some (.int 2)]) (st' := [.int 2, .int 6, .ref 10]) rfl ?_
  refine Ev.hwr (a := 10) (g := upd (km17 10) (6 : Int32).toNatClampNeg 2) (i := 6) (n := 64) (M' := km18) (pc' := 52) (L' := [some (.ref 9), some (.int 4), some (.int 4), some (.int 1), some (.int 2)]) (st' := []) (by decide) rfl (show ¬ ((6 : Int32) < 0 ∨ 64 ≤ (6 : Int32).toNatClampNeg) by decide +kernel) rfl rfl ?_
  refine Ev.steps 8 (pc' := 63) (L' := [some (.ref 9), some (.int 4), some (.int 4), some (.int 1), some (.int 2)]) (st' := [.int 1, .int 6, .ref 11]) rfl ?_
  refine Ev.hwr (a := 11) (g := upd (km18 11) (6 : Int32).toNatClampNeg 1) (i := 6) (n := 64) (M' := km19) (pc' := 64) (L' := [some (.ref 9), some (.int 4), some (.int 4), some (.int 1), some (.int 2)]) (st' := []) (by decide) rfl (show ¬ ((6 : Int32) < 0 ∨ 64 ≤ (6 : Int32).toNatClampNeg) by decide +kernel) rfl rfl ?_
  refine Ev.steps 4 (pc' := 29) (L' := [some (.ref 9), some (.int 4), some (.int 4), some (.int 1), some (.int 3)]) (st' := [.int 4, .int 3]) rfl ?_
  refine Ev.sw (p := if (4 : Int32) ≤ 3 then 70 else 32) (pc' := 32) (L' := [some (.ref 9), some (.int 4), some (.int 4), some (.int 1), some (.int 3)]) (st' := []) rfl (by decide +kernel) ?_
  refine Ev.steps 2 (pc' := 36) (L' := [some (.ref 9), some (.int 4), some (.int 4), some (.int 1), some (.int 3)]) (st' := [.int 8, .int 3]) rfl ?_
  refine Ev.sw (p := if (8 : Int32) ≤ 3 then 70 else 39) (pc' := 39) (L' := [some (.ref 9), some (.int 4), some (.int 4), some (.int 1), some (.int 3)]) (st' := []) rfl (by decide +kernel) ?_
  refine Ev.steps 8 (pc' := 51) (L' := [some (.ref 9), some (.int 4), some (.int 4), some (.int 1), some (.int 3)]) (st' := [.int 3, .int 7, .ref 10]) rfl ?_
  refine Ev.hwr (a := 10) (g := upd (km19 10) (7 : Int32).toNatClampNeg 3) (i := 7) (n := 64) (M' := km20) (pc' := 52) (L' := [some (.ref 9), some (.int 4), some (.int 4), some (.int 1), some (.int 3)]) (st' := []) (by decide) rfl (show ¬ ((7 : Int32) < 0 ∨ 64 ≤ (7 : Int32).toNatClampNeg) by decide +kernel) rfl rfl ?_
  refine Ev.steps 8 (pc' := 63) (L' := [some (.ref 9), some (.int 4), some (.int 4), some (.int 1), some (.int 3)]) (st' := [.int 1, .int 7, .ref 11]) rfl ?_
  refine Ev.hwr (a := 11) (g := upd (km20 11) (7 : Int32).toNatClampNeg 1) (i := 7) (n := 64) (M' := km21) (pc' := 64) (L' := [some (.ref 9), some (.int 4), some (.int 4), some (.int 1), some (.int 3)]) (st' := []) (by decide) rfl (show ¬ ((7 : Int32) < 0 ∨ 64 ≤ (7 : Int32).toNatClampNeg) by decide +kernel) rfl rfl ?_
  refine Ev.steps 4 (pc' := 29) (L' := [some (.ref 9), some (.int 4), some (.int 4), some (.int 1), some (.int 4)]) (st' := [.int 4, .int 4]) rfl ?_
  refine Ev.sw (p := if (4 : Int32) ≤ 4 then 70 else 32) (pc' := 70) (L' := [some (.ref 9), some (.int 4), some (.int 4), some (.int 1), some (.int 4)]) (st' := []) rfl (by decide +kernel) ?_
  refine Ev.steps 4 (pc' := 14) (L' := [some (.ref 9), some (.int 4), some (.int 4), some (.int 2), some (.int 4)]) (st' := [.int 4, .int 2]) rfl ?_
  refine Ev.sw (p := if (4 : Int32) ≤ 2 then 76 else 17) (pc' := 17) (L' := [some (.ref 9), some (.int 4), some (.int 4), some (.int 2), some (.int 4)]) (st' := []) rfl (by decide +kernel) ?_
  refine Ev.steps 2 (pc' := 20) (L' := [some (.ref 9), some (.int 4), some (.int 4), some (.int 2), some (.int 4)]) (st' := [.int 8, .int 2]) rfl ?_
  refine Ev.sw (p := if (8 : Int32) ≤ 2 then 76 else 23) (pc' := 23) (L' := [some (.ref 9), some (.int 4), some (.int 4), some (.int 2), some (.int 4)]) (st' := []) rfl (by decide +kernel) ?_
  refine Ev.steps 4 (pc' := 29) (L' := [some (.ref 9), some (.int 4), some (.int 4), some (.int 2), some (.int 0)]) (st' := [.int 4, .int 0]) rfl ?_
  refine Ev.sw (p := if (4 : Int32) ≤ 0 then 70 else 32) (pc' := 32) (L' := [some (.ref 9), some (.int 4), some (.int 4), some (.int 2), some (.int 0)]) (st' := []) rfl (by decide +kernel) ?_
  refine Ev.steps 2 (pc' := 36) (L' := [some (.ref 9), some (.int 4), some (.int 4), some (.int 2), some (.int 0)]) (st' := [.int 8, .int 0]) rfl ?_
  refine Ev.sw (p := if (8 : Int32) ≤ 0 then 70 else 39) (pc' := 39) (L' := [some (.ref 9), some (.int 4), some (.int 4), some (.int 2), some (.int 0)]) (st' := []) rfl (by decide +kernel) ?_
  refine Ev.steps 8 (pc' := 51) (L' := [some (.ref 9), some (.int 4), some (.int 4), some (.int 2), some (.int 0)]) (st' := [.int 0, .int 8, .ref 10]) rfl ?_
  refine Ev.hwr (a := 10) (g := upd (km21 10) (8 : Int32).toNatClampNeg 0) (i := 8) (n := 64) (M' := km22) (pc' := 52) (L' := [some (.ref 9), some (.int 4), some (.int 4), some (.int 2), some (.int 0)]) (st' := []) (by decide) rfl (show ¬ ((8 : Int32) < 0 ∨ 64 ≤ (8 : Int32).toNatClampNeg) by decide +kernel) rfl rfl ?_
  refine Ev.steps 8 (pc' := 63) (L' := [some (.ref 9), some (.int 4), some (.int 4), some (.int 2), some (.int 0)]) (st' := [.int 2, .int 8, .ref 11]) rfl ?_
  refine Ev.hwr (a := 11) (g := upd (km22 11) (8 : Int32).toNatClampNeg 2) (i := 8) (n := 64) (M' := km23) (pc' := 64) (L' := [some (.ref 9), some (.int 4), some (.int 4), some (.int 2), some (.int 0)]) (st' := []) (by decide) rfl (show ¬ ((8 : Int32) < 0 ∨ 64 ≤ (8 : Int32).toNatClampNeg) by decide +kernel) rfl rfl ?_
  refine Ev.steps 4 (pc' := 29) (L' := [some (.ref 9), some (.int 4), some (.int 4), some (.int 2), some (.int 1)]) (st' := [.int 4, .int 1]) rfl ?_
  refine Ev.sw (p := if (4 : Int32) ≤ 1 then 70 else 32) (pc' := 32) (L' := [some (.ref 9), some (.int 4), some (.int 4), some (.int 2), some (.int 1)]) (st' := []) rfl (by decide +kernel) ?_
  refine Ev.steps 2 (pc' := 36) (L' := [some (.ref 9), some (.int 4), some (.int 4), some (.int 2), some (.int 1)]) (st' := [.int 8, .int 1]) rfl ?_
  refine Ev.sw (p := if (8 : Int32) ≤ 1 then 70 else 39) (pc' := 39) (L' := [some (.ref 9), some (.int 4), some (.int 4), some (.int 2), some (.int 1)]) (st' := []) rfl (by decide +kernel) ?_
  refine Ev.steps 8 (pc' := 51) (L' := [some (.ref 9), some (.int 4), some (.int 4), some (.int 2), some (.int 1)]) (st' := [.int 1, .int 9, .ref 10]) rfl ?_
  refine Ev.hwr (a := 10) (g := upd (km23 10) (9 : Int32).toNatClampNeg 1) (i := 9) (n := 64) (M' := km24) (pc' := 52) (L' := [some (.ref 9), some (.int 4), some (.int 4), some (.int 2), some (.int 1)]) (st' := []) (by decide) rfl (show ¬ ((9 : Int32) < 0 ∨ 64 ≤ (9 : Int32).toNatClampNeg) by decide +kernel) rfl rfl ?_
  refine Ev.steps 8 (pc' := 63) (L' := [some (.ref 9), some (.int 4), some (.int 4), some (.int 2), some (.int 1)]) (st' := [.int 2, .int 9, .ref 11]) rfl ?_
  refine Ev.hwr (a := 11) (g := upd (km24 11) (9 : Int32).toNatClampNeg 2) (i := 9) (n := 64) (M' := km25) (pc' := 64) (L' := [some (.ref 9), some (.int 4), some (.int 4), some (.int 2), some (.int 1)]) (st' := []) (by decide) rfl (show ¬ ((9 : Int32) < 0 ∨ 64 ≤ (9 : Int32).toNatClampNeg) by decide +kernel) rfl rfl ?_
  refine Ev.steps 4 (pc' := 29) (L' := [some (.ref 9), some (.int 4), some (.int 4), some (.int 2), some (.int 2)]) (st' := [.int 4, .int 2]) rfl ?_
  refine Ev.sw (p := if (4 : Int32) ≤ 2 then 70 else 32) (pc' := 32) (L' := [some (.ref 9), some (.int 4), some (.int 4), some (.int 2), some (.int 2)]) (st' := []) rfl (by decide +kernel) ?_
  refine Ev.steps 2 (pc' := 36) (L' := [some (.ref 9), some (.int 4), some (.int 4), some (.int 2), some (.int 2)]) (st' := [.int 8, .int 2]) rfl ?_
  refine Ev.sw (p := if (8 : Int32) ≤ 2 then 70 else 39) (pc' := 39) (L' := [some (.ref 9), some (.int 4), some (.int 4), some (.int 2), some (.int 2)]) (st' := []) rfl (by decide +kernel) ?_
  refine Ev.steps 8 (pc' := 51) (L' := [some (.ref 9), some (.int 4), some (.int 4), some (.int 2), some (.int 2)]) (st' := [.int 2, .int 10, .ref 10]) rfl ?_
  refine Ev.hwr (a := 10) (g := upd (km25 10) (10 : Int32).toNatClampNeg 2) (i := 10) (n := 64) (M' := km26) (pc' := 52) (L' := [some (.ref 9), some (.int 4), some (.int 4), some (.int 2), some (.int 2)]) (st' := []) (by decide) rfl (show ¬ ((10 : Int32) < 0 ∨ 64 ≤ (10 : Int32).toNatClampNeg) by decide +kernel) rfl rfl ?_
  refine Ev.steps 8 (pc' := 63) (L' := [some (.ref 9), some (.int 4), some (.int 4), some (.int 2), some (.int 2)]) (st' := [.int 2, .int 10, .ref 11]) rfl ?_
  refine Ev.hwr (a := 11) (g := upd (km26 11) (10 : Int32).toNatClampNeg 2) (i := 10) (n := 64) (M' := km27) (pc' := 64) (L' := [some (.ref 9), some (.int 4), some (.int 4), some (.int 2), some (.int 2)]) (st' := []) (by decide) rfl (show ¬ ((10 : Int32) < 0 ∨ 64 ≤ (10 : Int32).toNatClampNeg) by decide +kernel) rfl rfl ?_
  refine Ev.steps 4 (pc' := 29) (L' := [some (.ref 9), some (.int 4), some (.int 4), some (.int 2), some (.int 3)]) (st' := [.int 4, .int 3]) rfl ?_
  refine Ev.sw (p := if (4 : Int32) ≤ 3 then 70 else 32) (pc' := 32) (L' := [some (.ref 9), some (.int 4), some (.int 4), some (.int 2), some (.int 3)]) (st' := []) rfl (by decide +kernel) ?_
  refine Ev.steps 2 (pc' := 36) (L' := [some (.ref 9), some (.int 4), some (.int 4), some (.int 2), some (.int 3)]) (st' := [.int 8, .int 3]) rfl ?_
  refine Ev.sw (p := if (8 : Int32) ≤ 3 then 70 else 39) (pc' := 39) (L' := [some (.ref 9), some (.int 4), some (.int 4), some (.int 2), some (.int 3)]) (st' := []) rfl (by decide +kernel) ?_
  refine Ev.steps 8 (pc' := 51) (L' := [some (.ref 9), some (.int 4), some (.int 4), some (.int 2), some (.int 3)]) (st' := [.int 3, .int 11, .ref 10]) rfl ?_
  refine Ev.hwr (a := 10) (g := upd (km27 10) (11 : Int32).toNatClampNeg 3) (i := 11) (n := 64) (M' := km28) (pc' := 52) (L' := [some (.ref 9), some (.int 4), some (.int 4), some (.int 2), some (.int 3)]) (st' := []) (by decide) rfl (show ¬ ((11 : Int32) < 0 ∨ 64 ≤ (11 : Int32).toNatClampNeg) by decide +kernel) rfl rfl ?_
  refine Ev.steps 8 (pc' := 63) (L' := [some (.ref 9), some (.int 4), some (.int 4), some (.int 2), some (.int 3)]) (st' := [.int 2, .int 11, .ref 11]) rfl ?_
  refine Ev.hwr (a := 11) (g := upd (km28 11) (11 : Int32).toNatClampNeg 2) (i := 11) (n := 64) (M' := km29) (pc' := 64) (L' := [some (.ref 9), some (.int 4), some (.int 4), some (.int 2), some (.int 3)]) (st' := []) (by decide) rfl (show ¬ ((11 : Int32) < 0 ∨ 64 ≤ (11 : Int32).toNatClampNeg) by decide +kernel) rfl rfl ?_
  refine Ev.steps 4 (pc' := 29) (L' := [some (.ref 9), some (.int 4), some (.int 4), some (.int 2), some (.int 4)]) (st' := [.int 4, .int 4]) rfl ?_
  refine Ev.sw (p := if (4 : Int32) ≤ 4 then 70 else 32) (pc' := 70) (L' := [some (.ref 9), some (.int 4), some (.int 4), some (.int 2), some (.int 4)]) (st' := []) rfl (by decide +kernel) ?_
  refine Ev.steps 4 (pc' := 14) (L' := [some (.ref 9), some (.int 4), some (.int 4), some (.int 3), some (.int 4)]) (st' := [.int 4, .int 3]) rfl ?_
  refine Ev.sw (p := if (4 : Int32) ≤ 3 then 76 else 17) (pc' := 17) (L' := [some (.ref 9), some (.int 4), some (.int 4), some (.int 3), some (.int 4)]) (st' := []) rfl (by decide +kernel) ?_
  refine Ev.steps 2 (pc' := 20) (L' := [some (.ref 9), some (.int 4), some (.int 4), some (.int 3), some (.int 4)]) (st' := [.int 8, .int 3]) rfl ?_
  refine Ev.sw (p := if (8 : Int32) ≤ 3 then 76 else 23) (pc' := 23) (L' := [some (.ref 9), some (.int 4), some (.int 4), some (.int 3), some (.int 4)]) (st' := []) rfl (by decide +kernel) ?_
  refine Ev.steps 4 (pc' := 29) (L' := [some (.ref 9), some (.int 4), some (.int 4), some (.int 3), some (.int 0)]) (st' := [.int 4, .int 0]) rfl ?_
  refine Ev.sw (p := if (4 : Int32) ≤ 0 then 70 else 32) (pc' := 32) (L' := [some (.ref 9), some (.int 4), some (.int 4), some (.int 3), some (.int 0)]) (st' := []) rfl (by decide +kernel) ?_
  refine Ev.steps 2 (pc' := 36) (L' := [some (.ref 9), some (.int 4), some (.int 4), some (.int 3), some (.int 0)]) (st' := [.int 8, .int 0]) rfl ?_
  refine Ev.sw (p := if (8 : Int32) ≤ 0 then 70 else 39) (pc' := 39) (L' := [some (.ref 9), some (.int 4), some (.int 4), some (.int 3), some (.int 0)]) (st' := []) rfl (by decide +kernel) ?_
  refine Ev.steps 8 (pc' := 51) (L' := [some (.ref 9), some (.int 4), some (.int 4), some (.int 3), some (.int 0)]) (st' := [.int 0, .int 12, .ref 10]) rfl ?_
  refine Ev.hwr (a := 10) (g := upd (km29 10) (12 : Int32).toNatClampNeg 0) (i := 12) (n := 64) (M' := km30) (pc' := 52) (L' := [some (.ref 9), some (.int 4), some (.int 4), some (.int 3), some (.int 0)]) (st' := []) (by decide) rfl (show ¬ ((12 : Int32) < 0 ∨ 64 ≤ (12 : Int32).toNatClampNeg) by decide +kernel) rfl rfl ?_
  refine Ev.steps 8 (pc' := 63) (L' := [some (.ref 9), some (.int 4), some (.int 4), some (.int 3), some (.int 0)]) (st' := [.int 3, .int 12, .ref 11]) rfl ?_
  refine Ev.hwr (a := 11) (g := upd (km30 11) (12 : Int32).toNatClampNeg 3) (i := 12) (n := 64) (M' := km31) (pc' := 64) (L' := [some (.ref 9), some (.int 4), some (.int 4), some (.int 3), some (.int 0)]) (st' := []) (by decide) rfl (show ¬ ((12 : Int32) < 0 ∨ 64 ≤ (12 : Int32).toNatClampNeg) by decide +kernel) rfl rfl ?_
  refine Ev.steps 4 (pc' := 29) (L' := [some (.ref 9), some (.int 4), some (.int 4), some (.int 3), some (.int 1)]) (st' := [.int 4, .int 1]) rfl ?_
  refine Ev.sw (p := if (4 : Int32) ≤ 1 then 70 else 32) (pc' := 32) (L' := [some (.ref 9), some (.int 4), some (.int 4), some (.int 3), some (.int 1)]) (st' := []) rfl (by decide +kernel) ?_
  refine Ev.steps 2 (pc' := 36) (L' := [some (.ref 9), some (.int 4), some (.int 4), some (.int 3), some (.int 1)]) (st' := [.int 8, .int 1]) rfl ?_
  refine Ev.sw (p := if (8 : Int32) ≤ 1 then 70 else 39) (pc' := 39) (L' := [some (.ref 9), some (.int 4), some (.int 4), some (.int 3), some (.int 1)]) (st' := []) rfl (by decide +kernel) ?_
  refine Ev.steps 8 (pc' := 51) (L' := [some (.ref 9), some (.int 4), some (.int 4), some (.int 3), some (.int 1)]) (st' := [.int 1, .int 13, .ref 10]) rfl ?_
  refine Ev.hwr (a := 10) (g := upd (km31 10) (13 : Int32).toNatClampNeg 1) (i := 13) (n := 64) (M' := km32) (pc' := 52) (L' := [some (.ref 9), some (.int 4), some (.int 4), some (.int 3), some (.int 1)]) (st' := []) (by decide) rfl (show ¬ ((13 : Int32) < 0 ∨ 64 ≤ (13 : Int32).toNatClampNeg) by decide +kernel) rfl rfl ?_
  refine Ev.steps 8 (pc' := 63) (L' := [some (.ref 9), some (.int 4), some (.int 4), some (.int 3), some (.int 1)]) (st' := [.int 3, .int 13, .ref 11]) rfl ?_
  refine Ev.hwr (a := 11) (g := upd (km32 11) (13 : Int32).toNatClampNeg 3) (i := 13) (n := 64) (M' := km33) (pc' := 64) (L' := [some (.ref 9), some (.int 4), some (.int 4), some (.int 3), some (.int 1)]) (st' := []) (by decide) rfl (show ¬ ((13 : Int32) < 0 ∨ 64 ≤ (13 : Int32).toNatClampNeg) by decide +kernel) rfl rfl ?_
  refine Ev.steps 4 (pc' := 29) (L' := [some (.ref 9), some (.int 4), some (.int 4), some (.int 3), some (.int 2)]) (st' := [.int 4, .int 2]) rfl ?_
  refine Ev.sw (p := if (4 : Int32) ≤ 2 then 70 else 32) (pc' := 32) (L' := [some (.ref 9), some (.int 4), some (.int 4), some (.int 3), some (.int 2)]) (st' := []) rfl (by decide +kernel) ?_
  refine Ev.steps 2 (pc' := 36) (L' := [some (.ref 9), some (.int 4), some (.int 4), some (.int 3), some (.int 2)]) (st' := [.int 8, .int 2]) rfl ?_
  refine Ev.sw (p := if (8 : Int32) ≤ 2 then 70 else 39) (pc' := 39) (L' := [some (.ref 9), some (.int 4), some (.int 4), some (.int 3), some (.int 2)]) (st' := []) rfl (by decide +kernel) ?_
  refine Ev.steps 8 (pc' := 51) (L' := [some (.ref 9), some (.int 4), some (.int 4), some (.int 3), some (.int 2)]) (st' := [.int 2, .int 14, .ref 10]) rfl ?_
  refine Ev.hwr (a := 10) (g := upd (km33 10) (14 : Int32).toNatClampNeg 2) (i := 14) (n := 64) (M' := km34) (pc' := 52) (L' := [some (.ref 9), some (.int 4), some (.int 4), some (.int 3), some (.int 2)]) (st' := []) (by decide) rfl (show ¬ ((14 : Int32) < 0 ∨ 64 ≤ (14 : Int32).toNatClampNeg) by decide +kernel) rfl rfl ?_
  refine Ev.steps 8 (pc' := 63) (L' := [some (.ref 9), some (.int 4), some (.int 4), some (.int 3), some (.int 2)]) (st' := [.int 3, .int 14, .ref 11]) rfl ?_
  refine Ev.hwr (a := 11) (g := upd (km34 11) (14 : Int32).toNatClampNeg 3) (i := 14) (n := 64) (M' := km35) (pc' := 64) (L' := [some (.ref 9), some (.int 4), some (.int 4), some (.int 3), some (.int 2)]) (st' := []) (by decide) rfl (show ¬ ((14 : Int32) < 0 ∨ 64 ≤ (14 : Int32).toNatClampNeg) by decide +kernel) rfl rfl ?_
  refine Ev.steps 4 (pc' := 29) (L' := [some (.ref 9), some (.int 4), some (.int 4), some (.int 3), some (.int 3)]) (st' := [.int 4, .int 3]) rfl ?_
  refine Ev.sw (p := if (4 : Int32) ≤ 3 then 70 else 32) (pc' := 32) (L' := [some (.ref 9), some (.int 4), some (.int 4), some (.int 3), some (.int 3)]) (st' := []) rfl (by decide +kernel) ?_
  refine Ev.steps 2 (pc' := 36) (L' := [some (.ref 9), some (.int 4), some (.int 4), some (.int 3), some (.int 3)]) (st' := [.int 8, .int 3]) rfl ?_
  refine Ev.sw (p := if (8 : Int32) ≤ 3 then 70 else 39) (pc' := 39) (L' := [some (.ref 9), some (.int 4), some (.int 4), some (.int 3), some (.int 3)]) (st' := []) rfl (by decide +kernel) ?_
  refine Ev.steps 8 (pc' := 51) (L' := [some (.ref 9), some (.int 4), some (.int 4), some (.int 3), some (.int 3)]) (st' := [.int 3, .int 15, .ref 10]) rfl ?_
  refine Ev.hwr (a := 10) (g := upd (km35 10) (15 : Int32).toNatClampNeg 3) (i := 15) (n := 64) (M' := km36) (pc' := 52) (L' := [some (.ref 9), some (.int 4), some (.int 4), some (.int 3), some (.int 3)]) (st' := []) (by decide) rfl (show ¬ ((15 : Int32) < 0 ∨ 64 ≤ (15 : Int32).toNatClampNeg) by decide +kernel) rfl rfl ?_
  refine Ev.steps 8 (pc' := 63) (L' := [some (.ref 9), some (.int 4), some (.int 4), some (.int 3), some (.int 3)]) (st' := [.int 3, .int 15, .ref 11]) rfl ?_
  refine Ev.hwr (a := 11) (g := upd (km36 11) (15 : Int32).toNatClampNeg 3) (i := 15) (n := 64) (M' := km37) (pc' := 64) (L' := [some (.ref 9), some (.int 4), some (.int 4), some (.int 3), some (.int 3)]) (st' := []) (by decide) rfl (show ¬ ((15 : Int32) < 0 ∨ 64 ≤ (15 : Int32).toNatClampNeg) by decide +kernel) rfl rfl ?_
  refine Ev.steps 4 (pc' := 29) (L' := [some (.ref 9), some (.int 4), some (.int 4), some (.int 3), some (.int 4)]) (st' := [.int 4, .int 4]) rfl ?_
  refine Ev.sw (p := if (4 : Int32) ≤ 4 then 70 else 32) (pc' := 70) (L' := [some (.ref 9), some (.int 4), some (.int 4), some (.int 3), some (.int 4)]) (st' := []) rfl (by decide +kernel) ?_
  refine Ev.steps 4 (pc' := 14) (L' := [some (.ref 9), some (.int 4), some (.int 4), some (.int 4), some (.int 4)]) (st' := [.int 4, .int 4]) rfl ?_
  refine Ev.sw (p := if (4 : Int32) ≤ 4 then 76 else 17) (pc' := 76) (L' := [some (.ref 9), some (.int 4), some (.int 4), some (.int 4), some (.int 4)]) (st' := []) rfl (by decide +kernel) ?_
  exact Ev.ret rfl
theorem ct35 {X : Nat × (Nat → Int32)} : Rn 35 [.ref 9] (ho (X, 10, 15) km0 [(9, .inr (2, [.null, .null, .int 0, .int 0])), (8, .inr (11, [.null, .null, .null, .null, .null, .null, .null, .null, .null, .null, .null]))]) none (ho (X, 12, 143) km37 [(8, .inr (11, [.null, .null, .null, .null, .null, .null, .null, .null, .null, .null, .null]))]) := by
  show Ev 2 35 0 [some (.ref 9)] [] (ho (X, 10, 15) km0 [(9, .inr (2, [.null, .null, .int 0, .int 0])), (8, .inr (11, [.null, .null, .null, .null, .null, .null, .null, .null, .null, .null, .null]))]) _
  refine Ev.steps 4 (pc' := 7) (L' := [some (.ref 9)]) (st' := [.int 64, .ref 9]) rfl ?_
  refine Ev.hna (n := 10) (g := fun _ => 0) (k := 64) (n' := 11) (z' := 79) (M' := km1) (pc' := 9) (L' := [some (.ref 9)]) (st' := [.ref 10, .ref 9]) (by decide) rfl rfl rfl rfl rfl ?_
  refine Ev.hpf (a := 9) (c' := .inr (2, [.ref 10, .null, .int 0, .int 0])) (pc' := 12) (L' := [some (.ref 9)]) (st' := []) rfl ?_
  refine Ev.steps 2 (pc' := 15) (L' := [some (.ref 9)]) (st' := [.int 64, .ref 9]) rfl ?_
  refine Ev.hna (n := 11) (g := fun _ => 0) (k := 64) (n' := 12) (z' := 143) (M' := km2) (pc' := 17) (L' := [some (.ref 9)]) (st' := [.ref 11, .ref 9]) (by decide) rfl rfl rfl rfl rfl ?_
  refine Ev.hpf (a := 9) (c' := .inr (2, [.ref 10, .ref 11, .int 0, .int 0])) (pc' := 20) (L' := [some (.ref 9)]) (st' := []) rfl ?_
  refine Ev.hdn (a := 9) (g := fun _ => 0) (M' := km3) (by decide) rfl rfl rfl ?_
  refine Ev.steps 3 (pc' := 23) (L' := [some (.ref 9)]) (st' := [.int 4, .int 4, .ref 9]) rfl ?_
  refine Ev.call (y := 37) (args := [.ref 9, .int 4, .int 4]) (rest := []) (r := none) (h1 := (ho (X, 12, 143) km37 [(8, .inr (11, [.null, .null, .null, .null, .null, .null, .null, .null, .null, .null, .null]))])) rfl ct37 ?_
  show Ev 2 35 26 [some (.ref 9)] [] (ho (X, 12, 143) km37 [(8, .inr (11, [.null, .null, .null, .null, .null, .null, .null, .null, .null, .null, .null]))]) _
  exact Ev.ret rfl
theorem ct77 {X : Nat × (Nat → Int32)} : Rn 77 [.ref 12] (ho (X, 13, 145) km37 [(12, .inr (4, [.null, .int 0])), (8, .inr (11, [.ref 9, .null, .null, .null, .null, .null, .null, .null, .null, .null, .null]))]) none (ho (X, 14, 185) km39 [(8, .inr (11, [.ref 9, .null, .null, .null, .null, .null, .null, .null, .null, .null, .null]))]) := by
  show Ev 1 77 0 [some (.ref 12)] [] (ho (X, 13, 145) km37 [(12, .inr (4, [.null, .int 0])), (8, .inr (11, [.ref 9, .null, .null, .null, .null, .null, .null, .null, .null, .null, .null]))]) _
  refine Ev.steps 4 (pc' := 7) (L' := [some (.ref 12)]) (st' := [.int 40, .ref 12]) rfl ?_
  refine Ev.hna (n := 13) (g := fun _ => 0) (k := 40) (n' := 14) (z' := 185) (M' := km38) (pc' := 9) (L' := [some (.ref 12)]) (st' := [.ref 13, .ref 12]) (by decide) rfl rfl rfl rfl rfl ?_
  refine Ev.hpf (a := 12) (c' := .inr (4, [.ref 13, .int 0])) (pc' := 12) (L' := [some (.ref 12)]) (st' := []) rfl ?_
  refine Ev.hdn (a := 12) (g := fun _ => 0) (M' := km39) (by decide) rfl rfl rfl ?_
  exact Ev.ret rfl
theorem ct141 {X : Nat × (Nat → Int32)} : Rn 141 [.ref 14] (ho (X, 15, 193) km39 [(14, .inr (10, [.null, .null, .null, .null, .null, .null, .null, .int 0])), (8, .inr (11, [.ref 9, .ref 12, .null, .null, .null, .null, .null, .null, .null, .null, .null]))]) none (ho (X, 22, 1813) km47 [(8, .inr (11, [.ref 9, .ref 12, .null, .null, .null, .null, .null, .null, .null, .null, .null]))]) := by
  show Ev 1 141 0 [some (.ref 14)] [] (ho (X, 15, 193) km39 [(14, .inr (10, [.null, .null, .null, .null, .null, .null, .null, .int 0])), (8, .inr (11, [.ref 9, .ref 12, .null, .null, .null, .null, .null, .null, .null, .null, .null]))]) _
  refine Ev.steps 4 (pc' := 7) (L' := [some (.ref 14)]) (st' := [.int 30, .ref 14]) rfl ?_
  refine Ev.hna (n := 15) (g := fun _ => 0) (k := 30) (n' := 16) (z' := 223) (M' := km40) (pc' := 9) (L' := [some (.ref 14)]) (st' := [.ref 15, .ref 14]) (by decide) rfl rfl rfl rfl rfl ?_
  refine Ev.hpf (a := 14) (c' := .inr (10, [.ref 15, .null, .null, .null, .null, .null, .null, .int 0])) (pc' := 12) (L' := [some (.ref 14)]) (st' := []) rfl ?_
  refine Ev.steps 2 (pc' := 15) (L' := [some (.ref 14)]) (st' := [.int 30, .ref 14]) rfl ?_
  refine Ev.hna (n := 16) (g := fun _ => 0) (k := 30) (n' := 17) (z' := 253) (M' := km41) (pc' := 17) (L' := [some (.ref 14)]) (st' := [.ref 16, .ref 14]) (by decide) rfl rfl rfl rfl rfl ?_
  refine Ev.hpf (a := 14) (c' := .inr (10, [.ref 15, .ref 16, .null, .null, .null, .null, .null, .int 0])) (pc' := 20) (L' := [some (.ref 14)]) (st' := []) rfl ?_
  refine Ev.steps 2 (pc' := 23) (L' := [some (.ref 14)]) (st' := [.int 30, .ref 14]) rfl ?_
  refine Ev.hna (n := 17) (g := fun _ => 0) (k := 30) (n' := 18) (z' := 283) (M' := km42) (pc' := 25) (L' := [some (.ref 14)]) (st' := [.ref 17, .ref 14]) (by decide) rfl rfl rfl rfl rfl ?_
  refine Ev.hpf (a := 14) (c' := .inr (10, [.ref 15, .ref 16, .ref 17, .null, .null, .null, .null, .int 0])) (pc' := 28) (L' := [some (.ref 14)]) (st' := []) rfl ?_
  refine Ev.steps 2 (pc' := 31) (L' := [some (.ref 14)]) (st' := [.int 30, .ref 14]) rfl ?_
  refine Ev.hna (n := 18) (g := fun _ => 0) (k := 30) (n' := 19) (z' := 313) (M' := km43) (pc' := 33) (L' := [some (.ref 14)]) (st' := [.ref 18, .ref 14]) (by decide) rfl rfl rfl rfl rfl ?_
  refine Ev.hpf (a := 14) (c' := .inr (10, [.ref 15, .ref 16, .ref 17, .ref 18, .null, .null, .null, .int 0])) (pc' := 36) (L' := [some (.ref 14)]) (st' := []) rfl ?_
  refine Ev.steps 2 (pc' := 39) (L' := [some (.ref 14)]) (st' := [.int 30, .ref 14]) rfl ?_
  refine Ev.hna (n := 19) (g := fun _ => 0) (k := 30) (n' := 20) (z' := 343) (M' := km44) (pc' := 41) (L' := [some (.ref 14)]) (st' := [.ref 19, .ref 14]) (by decide) rfl rfl rfl rfl rfl ?_
  refine Ev.hpf (a := 14) (c' := .inr (10, [.ref 15, .ref 16, .ref 17, .ref 18, .ref 19, .null, .null, .int 0])) (pc' := 44) (L' := [some (.ref 14)]) (st' := []) rfl ?_
  refine Ev.steps 2 (pc' := 48) (L' := [some (.ref 14)]) (st' := [.int 750, .ref 14]) rfl ?_
  refine Ev.hna (n := 20) (g := fun _ => 0) (k := 750) (n' := 21) (z' := 1093) (M' := km45) (pc' := 50) (L' := [some (.ref 14)]) (st' := [.ref 20, .ref 14]) (by decide) rfl rfl rfl rfl rfl ?_
  refine Ev.hpf (a := 14) (c' := .inr (10, [.ref 15, .ref 16, .ref 17, .ref 18, .ref 19, .ref 20, .null, .int 0])) (pc' := 53) (L' := [some (.ref 14)]) (st' := []) rfl ?_
  refine Ev.steps 2 (pc' := 57) (L' := [some (.ref 14)]) (st' := [.int 720, .ref 14]) rfl ?_
  refine Ev.hna (n := 21) (g := fun _ => 0) (k := 720) (n' := 22) (z' := 1813) (M' := km46) (pc' := 59) (L' := [some (.ref 14)]) (st' := [.ref 21, .ref 14]) (by decide) rfl rfl rfl rfl rfl ?_
  refine Ev.hpf (a := 14) (c' := .inr (10, [.ref 15, .ref 16, .ref 17, .ref 18, .ref 19, .ref 20, .ref 21, .int 0])) (pc' := 62) (L' := [some (.ref 14)]) (st' := []) rfl ?_
  refine Ev.hdn (a := 14) (g := fun _ => 0) (M' := km47) (by decide) rfl rfl rfl ?_
  exact Ev.ret rfl
theorem ct56 {X : Nat × (Nat → Int32)} : Rn 56 [.ref 22, .ref 9, .ref 14] (ho (X, 23, 1824) km47 [(22, .inr (3, [.null, .null, .null, .null, .null, .null, .null, .null, .null, .null, .null])), (8, .inr (11, [.ref 9, .ref 12, .ref 14, .null, .null, .null, .null, .null, .null, .null, .null]))]) none (ho (X, 32, 2833) km57 [(8, .inr (11, [.ref 9, .ref 12, .ref 14, .null, .null, .null, .null, .null, .null, .null, .null]))]) := by
  show Ev 1 56 0 [some (.ref 22), some (.ref 9), some (.ref 14)] [] (ho (X, 23, 1824) km47 [(22, .inr (3, [.null, .null, .null, .null, .null, .null, .null, .null, .null, .null, .null])), (8, .inr (11, [.ref 9, .ref 12, .ref 14, .null, .null, .null, .null, .null, .null, .null, .null]))]) _
  refine Ev.steps 4 (pc' := 8) (L' := [some (.ref 22), some (.ref 9), some (.ref 14)]) (st' := [.int 178, .ref 22]) rfl ?_
  refine Ev.hna (n := 23) (g := fun _ => 0) (k := 178) (n' := 24) (z' := 2002) (M' := km48) (pc' := 10) (L' := [some (.ref 22), some (.ref 9), some (.ref 14)]) (st' := [.ref 23, .ref 22]) (by decide) rfl rfl rfl rfl rfl ?_
  refine Ev.hpf (a := 22) (c' := .inr (3, [.null, .null, .ref 23, .null, .null, .null, .null, .null, .null, .null, .null])) (pc' := 13) (L' := [some (.ref 22), some (.ref 9), some (.ref 14)]) (st' := []) rfl ?_
  refine Ev.steps 2 (pc' := 17) (L' := [some (.ref 22), some (.ref 9), some (.ref 14)]) (st' := [.int 178, .ref 22]) rfl ?_
  refine Ev.hna (n := 24) (g := fun _ => 0) (k := 178) (n' := 25) (z' := 2180) (M' := km49) (pc' := 19) (L' := [some (.ref 22), some (.ref 9), some (.ref 14)]) (st' := [.ref 24, .ref 22]) (by decide) rfl rfl rfl rfl rfl ?_
  refine Ev.hpf (a := 22) (c' := .inr (3, [.null, .null, .ref 23, .ref 24, .null, .null, .null, .null, .null, .null, .null])) (pc' := 22) (L' := [some (.ref 22), some (.ref 9), some (.ref 14)]) (st' := []) rfl ?_
  refine Ev.steps 2 (pc' := 25) (L' := [some (.ref 22), some (.ref 9), some (.ref 14)]) (st' := [.int 89, .ref 22]) rfl ?_
  refine Ev.hna (n := 25) (g := fun _ => 0) (k := 89) (n' := 26) (z' := 2269) (M' := km50) (pc' := 27) (L' := [some (.ref 22), some (.ref 9), some (.ref 14)]) (st' := [.ref 25, .ref 22]) (by decide) rfl rfl rfl rfl rfl ?_
  refine Ev.hpf (a := 22) (c' := .inr (3, [.null, .null, .ref 23, .ref 24, .ref 25, .null, .null, .null, .null, .null, .null])) (pc' := 30) (L' := [some (.ref 22), some (.ref 9), some (.ref 14)]) (st' := []) rfl ?_
  refine Ev.steps 2 (pc' := 34) (L' := [some (.ref 22), some (.ref 9), some (.ref 14)]) (st' := [.int 178, .ref 22]) rfl ?_
  refine Ev.hna (n := 26) (g := fun _ => 0) (k := 178) (n' := 27) (z' := 2447) (M' := km51) (pc' := 36) (L' := [some (.ref 22), some (.ref 9), some (.ref 14)]) (st' := [.ref 26, .ref 22]) (by decide) rfl rfl rfl rfl rfl ?_
  refine Ev.hpf (a := 22) (c' := .inr (3, [.null, .null, .ref 23, .ref 24, .ref 25, .ref 26, .null, .null, .null, .null, .null])) (pc' := 39) (L' := [some (.ref 22), some (.ref 9), some (.ref 14)]) (st' := []) rfl ?_
  refine Ev.steps 2 (pc' := 42) (L' := [some (.ref 22), some (.ref 9), some (.ref 14)]) (st' := [.int 89, .ref 22]) rfl ?_
  refine Ev.hna (n := 27) (g := fun _ => 0) (k := 89) (n' := 28) (z' := 2536) (M' := km52) (pc' := 44) (L' := [some (.ref 22), some (.ref 9), some (.ref 14)]) (st' := [.ref 27, .ref 22]) (by decide) rfl rfl rfl rfl rfl ?_
  refine Ev.hpf (a := 22) (c' := .inr (3, [.null, .null, .ref 23, .ref 24, .ref 25, .ref 26, .ref 27, .null, .null, .null, .null])) (pc' := 47) (L' := [some (.ref 22), some (.ref 9), some (.ref 14)]) (st' := []) rfl ?_
  refine Ev.steps 2 (pc' := 50) (L' := [some (.ref 22), some (.ref 9), some (.ref 14)]) (st' := [.int 30, .ref 22]) rfl ?_
  refine Ev.hna (n := 28) (g := fun _ => 0) (k := 30) (n' := 29) (z' := 2566) (M' := km53) (pc' := 52) (L' := [some (.ref 22), some (.ref 9), some (.ref 14)]) (st' := [.ref 28, .ref 22]) (by decide) rfl rfl rfl rfl rfl ?_
  refine Ev.hpf (a := 22) (c' := .inr (3, [.null, .null, .ref 23, .ref 24, .ref 25, .ref 26, .ref 27, .ref 28, .null, .null, .null])) (pc' := 55) (L' := [some (.ref 22), some (.ref 9), some (.ref 14)]) (st' := []) rfl ?_
  refine Ev.steps 2 (pc' := 58) (L' := [some (.ref 22), some (.ref 9), some (.ref 14)]) (st' := [.int 89, .ref 22]) rfl ?_
  refine Ev.hna (n := 29) (g := fun _ => 0) (k := 89) (n' := 30) (z' := 2655) (M' := km54) (pc' := 60) (L' := [some (.ref 22), some (.ref 9), some (.ref 14)]) (st' := [.ref 29, .ref 22]) (by decide) rfl rfl rfl rfl rfl ?_
  refine Ev.hpf (a := 22) (c' := .inr (3, [.null, .null, .ref 23, .ref 24, .ref 25, .ref 26, .ref 27, .ref 28, .ref 29, .null, .null])) (pc' := 63) (L' := [some (.ref 22), some (.ref 9), some (.ref 14)]) (st' := []) rfl ?_
  refine Ev.steps 2 (pc' := 66) (L' := [some (.ref 22), some (.ref 9), some (.ref 14)]) (st' := [.int 89, .ref 22]) rfl ?_
  refine Ev.hna (n := 30) (g := fun _ => 0) (k := 89) (n' := 31) (z' := 2744) (M' := km55) (pc' := 68) (L' := [some (.ref 22), some (.ref 9), some (.ref 14)]) (st' := [.ref 30, .ref 22]) (by decide) rfl rfl rfl rfl rfl ?_
  refine Ev.hpf (a := 22) (c' := .inr (3, [.null, .null, .ref 23, .ref 24, .ref 25, .ref 26, .ref 27, .ref 28, .ref 29, .ref 30, .null])) (pc' := 71) (L' := [some (.ref 22), some (.ref 9), some (.ref 14)]) (st' := []) rfl ?_
  refine Ev.steps 2 (pc' := 74) (L' := [some (.ref 22), some (.ref 9), some (.ref 14)]) (st' := [.int 89, .ref 22]) rfl ?_
  refine Ev.hna (n := 31) (g := fun _ => 0) (k := 89) (n' := 32) (z' := 2833) (M' := km56) (pc' := 76) (L' := [some (.ref 22), some (.ref 9), some (.ref 14)]) (st' := [.ref 31, .ref 22]) (by decide) rfl rfl rfl rfl rfl ?_
  refine Ev.hpf (a := 22) (c' := .inr (3, [.null, .null, .ref 23, .ref 24, .ref 25, .ref 26, .ref 27, .ref 28, .ref 29, .ref 30, .ref 31])) (pc' := 79) (L' := [some (.ref 22), some (.ref 9), some (.ref 14)]) (st' := []) rfl ?_
  refine Ev.steps 2 (pc' := 81) (L' := [some (.ref 22), some (.ref 9), some (.ref 14)]) (st' := [.ref 9, .ref 22]) rfl ?_
  refine Ev.hpf (a := 22) (c' := .inr (3, [.ref 9, .null, .ref 23, .ref 24, .ref 25, .ref 26, .ref 27, .ref 28, .ref 29, .ref 30, .ref 31])) (pc' := 84) (L' := [some (.ref 22), some (.ref 9), some (.ref 14)]) (st' := []) rfl ?_
  refine Ev.steps 2 (pc' := 86) (L' := [some (.ref 22), some (.ref 9), some (.ref 14)]) (st' := [.ref 14, .ref 22]) rfl ?_
  refine Ev.hpf (a := 22) (c' := .inr (3, [.ref 9, .ref 14, .ref 23, .ref 24, .ref 25, .ref 26, .ref 27, .ref 28, .ref 29, .ref 30, .ref 31])) (pc' := 89) (L' := [some (.ref 22), some (.ref 9), some (.ref 14)]) (st' := []) rfl ?_
  refine Ev.hdn (a := 22) (g := fun _ => 0) (M' := km57) (by decide) rfl rfl rfl ?_
  exact Ev.ret rfl
theorem ct0 {X : Nat × (Nat → Int32)} : Rn 0 [.ref 32, .ref 9, .ref 22] (ho (X, 33, 2839) km57 [(32, .inr (0, [.null, .null, .null, .null, .null, .int 0])), (8, .inr (11, [.ref 9, .ref 12, .ref 14, .ref 22, .null, .null, .null, .null, .null, .null, .null]))]) none (ho (X, 36, 3031) km61 [(8, .inr (11, [.ref 9, .ref 12, .ref 14, .ref 22, .null, .null, .null, .null, .null, .null, .null]))]) := by
  show Ev 1 0 0 [some (.ref 32), some (.ref 9), some (.ref 22)] [] (ho (X, 33, 2839) km57 [(32, .inr (0, [.null, .null, .null, .null, .null, .int 0])), (8, .inr (11, [.ref 9, .ref 12, .ref 14, .ref 22, .null, .null, .null, .null, .null, .null, .null]))]) _
  refine Ev.steps 4 (pc' := 7) (L' := [some (.ref 32), some (.ref 9), some (.ref 22)]) (st' := [.int 64, .ref 32]) rfl ?_
  refine Ev.hna (n := 33) (g := fun _ => 0) (k := 64) (n' := 34) (z' := 2903) (M' := km58) (pc' := 9) (L' := [some (.ref 32), some (.ref 9), some (.ref 22)]) (st' := [.ref 33, .ref 32]) (by decide) rfl rfl rfl rfl rfl ?_
  refine Ev.hpf (a := 32) (c' := .inr (0, [.null, .null, .ref 33, .null, .null, .int 0])) (pc' := 12) (L' := [some (.ref 32), some (.ref 9), some (.ref 22)]) (st' := []) rfl ?_
  refine Ev.steps 2 (pc' := 15) (L' := [some (.ref 32), some (.ref 9), some (.ref 22)]) (st' := [.int 64, .ref 32]) rfl ?_
  refine Ev.hna (n := 34) (g := fun _ => 0) (k := 64) (n' := 35) (z' := 2967) (M' := km59) (pc' := 17) (L' := [some (.ref 32), some (.ref 9), some (.ref 22)]) (st' := [.ref 34, .ref 32]) (by decide) rfl rfl rfl rfl rfl ?_
  refine Ev.hpf (a := 32) (c' := .inr (0, [.null, .null, .ref 33, .ref 34, .null, .int 0])) (pc' := 20) (L' := [some (.ref 32), some (.ref 9), some (.ref 22)]) (st' := []) rfl ?_
  refine Ev.steps 2 (pc' := 23) (L' := [some (.ref 32), some (.ref 9), some (.ref 22)]) (st' := [.int 64, .ref 32]) rfl ?_
  refine Ev.hna (n := 35) (g := fun _ => 0) (k := 64) (n' := 36) (z' := 3031) (M' := km60) (pc' := 25) (L' := [some (.ref 32), some (.ref 9), some (.ref 22)]) (st' := [.ref 35, .ref 32]) (by decide) rfl rfl rfl rfl rfl ?_
  refine Ev.hpf (a := 32) (c' := .inr (0, [.null, .null, .ref 33, .ref 34, .ref 35, .int 0])) (pc' := 28) (L' := [some (.ref 32), some (.ref 9), some (.ref 22)]) (st' := []) rfl ?_
  refine Ev.steps 2 (pc' := 30) (L' := [some (.ref 32), some (.ref 9), some (.ref 22)]) (st' := [.ref 9, .ref 32]) rfl ?_
  refine Ev.hpf (a := 32) (c' := .inr (0, [.ref 9, .null, .ref 33, .ref 34, .ref 35, .int 0])) (pc' := 33) (L' := [some (.ref 32), some (.ref 9), some (.ref 22)]) (st' := []) rfl ?_
  refine Ev.steps 2 (pc' := 35) (L' := [some (.ref 32), some (.ref 9), some (.ref 22)]) (st' := [.ref 22, .ref 32]) rfl ?_
  refine Ev.hpf (a := 32) (c' := .inr (0, [.ref 9, .ref 22, .ref 33, .ref 34, .ref 35, .int 0])) (pc' := 38) (L' := [some (.ref 32), some (.ref 9), some (.ref 22)]) (st' := []) rfl ?_
  refine Ev.hdn (a := 32) (g := fun _ => 0) (M' := km61) (by decide) rfl rfl rfl ?_
  exact Ev.ret rfl
theorem ct87 {X : Nat × (Nat → Int32)} : Rn 87 [.ref 36, .ref 9, .ref 32] (ho (X, 37, 3036) km61 [(36, .inr (5, [.null, .null, .null, .null, .null])), (8, .inr (11, [.ref 9, .ref 12, .ref 14, .ref 22, .ref 32, .null, .null, .null, .null, .null, .null]))]) none (ho (X, 40, 3120) km65 [(8, .inr (11, [.ref 9, .ref 12, .ref 14, .ref 22, .ref 32, .null, .null, .null, .null, .null, .null]))]) := by
  show Ev 1 87 0 [some (.ref 36), some (.ref 9), some (.ref 32)] [] (ho (X, 37, 3036) km61 [(36, .inr (5, [.null, .null, .null, .null, .null])), (8, .inr (11, [.ref 9, .ref 12, .ref 14, .ref 22, .ref 32, .null, .null, .null, .null, .null, .null]))]) _
  refine Ev.steps 4 (pc' := 7) (L' := [some (.ref 36), some (.ref 9), some (.ref 32)]) (st' := [.int 64, .ref 36]) rfl ?_
  refine Ev.hna (n := 37) (g := fun _ => 0) (k := 64) (n' := 38) (z' := 3100) (M' := km62) (pc' := 9) (L' := [some (.ref 36), some (.ref 9), some (.ref 32)]) (st' := [.ref 37, .ref 36]) (by decide) rfl rfl rfl rfl rfl ?_
  refine Ev.hpf (a := 36) (c' := .inr (5, [.null, .null, .ref 37, .null, .null])) (pc' := 12) (L' := [some (.ref 36), some (.ref 9), some (.ref 32)]) (st' := []) rfl ?_
  refine Ev.steps 2 (pc' := 15) (L' := [some (.ref 36), some (.ref 9), some (.ref 32)]) (st' := [.int 10, .ref 36]) rfl ?_
  refine Ev.hna (n := 38) (g := fun _ => 0) (k := 10) (n' := 39) (z' := 3110) (M' := km63) (pc' := 17) (L' := [some (.ref 36), some (.ref 9), some (.ref 32)]) (st' := [.ref 38, .ref 36]) (by decide) rfl rfl rfl rfl rfl ?_
  refine Ev.hpf (a := 36) (c' := .inr (5, [.null, .null, .ref 37, .ref 38, .null])) (pc' := 20) (L' := [some (.ref 36), some (.ref 9), some (.ref 32)]) (st' := []) rfl ?_
  refine Ev.steps 2 (pc' := 23) (L' := [some (.ref 36), some (.ref 9), some (.ref 32)]) (st' := [.int 10, .ref 36]) rfl ?_
  refine Ev.hna (n := 39) (g := fun _ => 0) (k := 10) (n' := 40) (z' := 3120) (M' := km64) (pc' := 25) (L' := [some (.ref 36), some (.ref 9), some (.ref 32)]) (st' := [.ref 39, .ref 36]) (by decide) rfl rfl rfl rfl rfl ?_
  refine Ev.hpf (a := 36) (c' := .inr (5, [.null, .null, .ref 37, .ref 38, .ref 39])) (pc' := 28) (L' := [some (.ref 36), some (.ref 9), some (.ref 32)]) (st' := []) rfl ?_
  refine Ev.steps 2 (pc' := 30) (L' := [some (.ref 36), some (.ref 9), some (.ref 32)]) (st' := [.ref 9, .ref 36]) rfl ?_
  refine Ev.hpf (a := 36) (c' := .inr (5, [.ref 9, .null, .ref 37, .ref 38, .ref 39])) (pc' := 33) (L' := [some (.ref 36), some (.ref 9), some (.ref 32)]) (st' := []) rfl ?_
  refine Ev.steps 2 (pc' := 35) (L' := [some (.ref 36), some (.ref 9), some (.ref 32)]) (st' := [.ref 32, .ref 36]) rfl ?_
  refine Ev.hpf (a := 36) (c' := .inr (5, [.ref 9, .ref 32, .ref 37, .ref 38, .ref 39])) (pc' := 38) (L' := [some (.ref 36), some (.ref 9), some (.ref 32)]) (st' := []) rfl ?_
  refine Ev.hdn (a := 36) (g := fun _ => 0) (M' := km65) (by decide) rfl rfl rfl ?_
  exact Ev.ret rfl
theorem ct93 {X : Nat × (Nat → Int32)} : Rn 93 [.ref 40] (ho (X, 41, 3123) km65 [(40, .inr (6, [.null, .null, .null])), (8, .inr (11, [.ref 9, .ref 12, .ref 14, .ref 22, .ref 32, .ref 36, .null, .null, .null, .null, .null]))]) none (ho (X, 44, 3158) km96 [(8, .inr (11, [.ref 9, .ref 12, .ref 14, .ref 22, .ref 32, .ref 36, .null, .null, .null, .null, .null]))]) := by
  show Ev 1 93 0 [some (.ref 40), none, none] [] (ho (X, 41, 3123) km65 [(40, .inr (6, [.null, .null, .null])), (8, .inr (11, [.ref 9, .ref 12, .ref 14, .ref 22, .ref 32, .ref 36, .null, .null, .null, .null, .null]))]) _
  refine Ev.steps 4 (pc' := 7) (L' := [some (.ref 40), none, none]) (st' := [.int 24, .ref 40]) rfl ?_
  refine Ev.hna (n := 41) (g := fun _ => 0) (k := 24) (n' := 42) (z' := 3147) (M' := km66) (pc' := 9) (L' := [some (.ref 40), none, none]) (st' := [.ref 41, .ref 40]) (by decide) rfl rfl rfl rfl rfl ?_
  refine Ev.hpf (a := 40) (c' := .inr (6, [.ref 41, .null, .null])) (pc' := 12) (L' := [some (.ref 40), none, none]) (st' := []) rfl ?_
  refine Ev.steps 2 (pc' := 15) (L' := [some (.ref 40), none, none]) (st' := [.int 8, .ref 40]) rfl ?_
  refine Ev.hna (n := 42) (g := fun _ => 0) (k := 8) (n' := 43) (z' := 3155) (M' := km67) (pc' := 17) (L' := [some (.ref 40), none, none]) (st' := [.ref 42, .ref 40]) (by decide) rfl rfl rfl rfl rfl ?_
  refine Ev.hpf (a := 40) (c' := .inr (6, [.ref 41, .ref 42, .null])) (pc' := 20) (L' := [some (.ref 40), none, none]) (st' := []) rfl ?_
  refine Ev.steps 2 (pc' := 22) (L' := [some (.ref 40), none, none]) (st' := [.int 3, .ref 40]) rfl ?_
  refine Ev.hna (n := 43) (g := fun _ => 0) (k := 3) (n' := 44) (z' := 3158) (M' := km68) (pc' := 24) (L' := [some (.ref 40), none, none]) (st' := [.ref 43, .ref 40]) (by decide) rfl rfl rfl rfl rfl ?_
  refine Ev.steps 3 (pc' := 28) (L' := [some (.ref 40), none, none]) (st' := [.int 20, .int 0, .ref 43, .ref 43, .ref 40]) rfl ?_
  refine Ev.hwr (a := 43) (g := upd (km68 43) (0 : Int32).toNatClampNeg 20) (i := 0) (n := 3) (M' := km69) (pc' := 29) (L' := [some (.ref 40), none, none]) (st' := [.ref 43, .ref 40]) (by decide) rfl (show ¬ ((0 : Int32) < 0 ∨ 3 ≤ (0 : Int32).toNatClampNeg) by decide +kernel) rfl rfl ?_
  refine Ev.steps 3 (pc' := 33) (L' := [some (.ref 40), none, none]) (st' := [.int 20, .int 1, .ref 43, .ref 43, .ref 40]) rfl ?_
  refine Ev.hwr (a := 43) (g := upd (km69 43) (1 : Int32).toNatClampNeg 20) (i := 1) (n := 3) (M' := km70) (pc' := 34) (L' := [some (.ref 40), none, none]) (st' := [.ref 43, .ref 40]) (by decide) rfl (show ¬ ((1 : Int32) < 0 ∨ 3 ≤ (1 : Int32).toNatClampNeg) by decide +kernel) rfl rfl ?_
  refine Ev.steps 3 (pc' := 38) (L' := [some (.ref 40), none, none]) (st' := [.int 50, .int 2, .ref 43, .ref 43, .ref 40]) rfl ?_
  refine Ev.hwr (a := 43) (g := upd (km70 43) (2 : Int32).toNatClampNeg 50) (i := 2) (n := 3) (M' := km71) (pc' := 39) (L' := [some (.ref 40), none, none]) (st' := [.ref 43, .ref 40]) (by decide) rfl (show ¬ ((2 : Int32) < 0 ∨ 3 ≤ (2 : Int32).toNatClampNeg) by decide +kernel) rfl rfl ?_
  refine Ev.hpf (a := 40) (c' := .inr (6, [.ref 41, .ref 42, .ref 43])) (pc' := 42) (L' := [some (.ref 40), none, none]) (st' := []) rfl ?_
  refine Ev.hdn (a := 40) (g := fun _ => 0) (M' := km72) (by decide) rfl rfl rfl ?_
  refine Ev.steps 4 (pc' := 47) (L' := [some (.ref 40), some (.int 0), none]) (st' := [.int 8, .int 0]) rfl ?_
  refine Ev.sw (p := if (8 : Int32) ≤ 0 then 84 else 50) (pc' := 50) (L' := [some (.ref 40), some (.int 0), none]) (st' := []) rfl (by decide +kernel) ?_
  refine Ev.steps 4 (pc' := 54) (L' := [some (.ref 40), some (.int 0), some (.int 0)]) (st' := [.int 3, .int 0]) rfl ?_
  refine Ev.sw (p := if (3 : Int32) ≤ 0 then 78 else 57) (pc' := 57) (L' := [some (.ref 40), some (.int 0), some (.int 0)]) (st' := []) rfl (by decide +kernel) ?_
  refine Ev.steps 9 (pc' := 70) (L' := [some (.ref 40), some (.int 0), some (.int 0)]) (st' := [.int 0, .ref 3, .int 0, .ref 41]) rfl ?_
  refine Ev.rd (i := 0) (n := 3) (pc' := 71) (L' := [some (.ref 40), some (.int 0), some (.int 0)]) (st' := [.int 700, .int 0, .ref 41]) (show ¬ ((0 : Int32) < 0 ∨ 3 ≤ (0 : Int32).toNatClampNeg) by decide +kernel) rfl ?_
  refine Ev.hwr (a := 41) (g := upd (km72 41) (0 : Int32).toNatClampNeg 700) (i := 0) (n := 24) (M' := km73) (pc' := 72) (L' := [some (.ref 40), some (.int 0), some (.int 0)]) (st' := []) (by decide) rfl (show ¬ ((0 : Int32) < 0 ∨ 24 ≤ (0 : Int32).toNatClampNeg) by decide +kernel) rfl rfl ?_
  refine Ev.steps 4 (pc' := 54) (L' := [some (.ref 40), some (.int 0), some (.int 1)]) (st' := [.int 3, .int 1]) rfl ?_
  refine Ev.sw (p := if (3 : Int32) ≤ 1 then 78 else 57) (pc' := 57) (L' := [some (.ref 40), some (.int 0), some (.int 1)]) (st' := []) rfl (by decide +kernel) ?_
  refine Ev.steps 9 (pc' := 70) (L' := [some (.ref 40), some (.int 0), some (.int 1)]) (st' := [.int 1, .ref 3, .int 1, .ref 41]) rfl ?_
  refine Ev.rd (i := 1) (n := 3) (pc' := 71) (L' := [some (.ref 40), some (.int 0), some (.int 1)]) (st' := [.int 3, .int 1, .ref 41]) (show ¬ ((1 : Int32) < 0 ∨ 3 ≤ (1 : Int32).toNatClampNeg) by decide +kernel) rfl ?_
  refine Ev.hwr (a := 41) (g := upd (km73 41) (1 : Int32).toNatClampNeg 3) (i := 1) (n := 24) (M' := km74) (pc' := 72) (L' := [some (.ref 40), some (.int 0), some (.int 1)]) (st' := []) (by decide) rfl (show ¬ ((1 : Int32) < 0 ∨ 24 ≤ (1 : Int32).toNatClampNeg) by decide +kernel) rfl rfl ?_
  refine Ev.steps 4 (pc' := 54) (L' := [some (.ref 40), some (.int 0), some (.int 2)]) (st' := [.int 3, .int 2]) rfl ?_
  refine Ev.sw (p := if (3 : Int32) ≤ 2 then 78 else 57) (pc' := 57) (L' := [some (.ref 40), some (.int 0), some (.int 2)]) (st' := []) rfl (by decide +kernel) ?_
  refine Ev.steps 9 (pc' := 70) (L' := [some (.ref 40), some (.int 0), some (.int 2)]) (st' := [.int 2, .ref 3, .int 2, .ref 41]) rfl ?_
  refine Ev.rd (i := 2) (n := 3) (pc' := 71) (L' := [some (.ref 40), some (.int 0), some (.int 2)]) (st' := [.int 10, .int 2, .ref 41]) (show ¬ ((2 : Int32) < 0 ∨ 3 ≤ (2 : Int32).toNatClampNeg) by decide +kernel) rfl ?_
  refine Ev.hwr (a := 41) (g := upd (km74 41) (2 : Int32).toNatClampNeg 10) (i := 2) (n := 24) (M' := km75) (pc' := 72) (L' := [some (.ref 40), some (.int 0), some (.int 2)]) (st' := []) (by decide) rfl (show ¬ ((2 : Int32) < 0 ∨ 24 ≤ (2 : Int32).toNatClampNeg) by decide +kernel) rfl rfl ?_
  refine Ev.steps 4 (pc' := 54) (L' := [some (.ref 40), some (.int 0), some (.int 3)]) (st' := [.int 3, .int 3]) rfl ?_
  refine Ev.sw (p := if (3 : Int32) ≤ 3 then 78 else 57) (pc' := 78) (L' := [some (.ref 40), some (.int 0), some (.int 3)]) (st' := []) rfl (by decide +kernel) ?_
  refine Ev.steps 4 (pc' := 47) (L' := [some (.ref 40), some (.int 1), some (.int 3)]) (st' := [.int 8, .int 1]) rfl ?_
  refine Ev.sw (p := if (8 : Int32) ≤ 1 then 84 else 50) (pc' := 50) (L' := [some (.ref 40), some (.int 1), some (.int 3)]) (st' := []) rfl (by decide +kernel) ?_
  refine Ev.steps 4 (pc' := 54) (L' := [some (.ref 40), some (.int 1), some (.int 0)]) (st' := [.int 3, .int 0]) rfl ?_
  refine Ev.sw (p := if (3 : Int32) ≤ 0 then 78 else 57) (pc' := 57) (L' := [some (.ref 40), some (.int 1), some (.int 0)]) (st' := []) rfl (by decide +kernel) ?_
  refine Ev.steps 9 (pc' := 70) (L' := [some (.ref 40), some (.int 1), some (.int 0)]) (st' := [.int 0, .ref 3, .int 3, .ref 41]) rfl ?_
  refine Ev.rd (i := 0) (n := 3) (pc' := 71) (L' := [some (.ref 40), some (.int 1), some (.int 0)]) (st' := [.int 700, .int 3, .ref 41]) (show ¬ ((0 : Int32) < 0 ∨ 3 ≤ (0 : Int32).toNatClampNeg) by decide +kernel) rfl ?_
  refine Ev.hwr (a := 41) (g := upd (km75 41) (3 : Int32).toNatClampNeg 700) (i := 3) (n := 24) (M' := km76) (pc' := 72) (L' := [some (.ref 40), some (.int 1), some (.int 0)]) (st' := []) (by decide) rfl (show ¬ ((3 : Int32) < 0 ∨ 24 ≤ (3 : Int32).toNatClampNeg) by decide +kernel) rfl rfl ?_
  refine Ev.steps 4 (pc' := 54) (L' := [some (.ref 40), some (.int 1), some (.int 1)]) (st' := [.int 3, .int 1]) rfl ?_
  refine Ev.sw (p := if (3 : Int32) ≤ 1 then 78 else 57) (pc' := 57) (L' := [some (.ref 40), some (.int 1), some (.int 1)]) (st' := []) rfl (by decide +kernel) ?_
  refine Ev.steps 9 (pc' := 70) (L' := [some (.ref 40), some (.int 1), some (.int 1)]) (st' := [.int 1, .ref 3, .int 4, .ref 41]) rfl ?_
  refine Ev.rd (i := 1) (n := 3) (pc' := 71) (L' := [some (.ref 40), some (.int 1), some (.int 1)]) (st' := [.int 3, .int 4, .ref 41]) (show ¬ ((1 : Int32) < 0 ∨ 3 ≤ (1 : Int32).toNatClampNeg) by decide +kernel) rfl ?_
  refine Ev.hwr (a := 41) (g := upd (km76 41) (4 : Int32).toNatClampNeg 3) (i := 4) (n := 24) (M' := km77) (pc' := 72) (L' := [some (.ref 40), some (.int 1), some (.int 1)]) (st' := []) (by decide) rfl (show ¬ ((4 : Int32) < 0 ∨ 24 ≤ (4 : Int32).toNatClampNeg) by decide +kernel) rfl rfl ?_
  refine Ev.steps 4 (pc' := 54) (L' := [some (.ref 40), some (.int 1), some (.int 2)]) (st' := [.int 3, .int 2]) rfl ?_
  refine Ev.sw (p := if (3 : Int32) ≤ 2 then 78 else 57) (pc' := 57) (L' := [some (.ref 40), some (.int 1), some (.int 2)]) (st' := []) rfl (by decide +kernel) ?_
  refine Ev.steps 9 (pc' := 70) (L' := [some (.ref 40), some (.int 1), some (.int 2)]) (st' := [.int 2, .ref 3, .int 5, .ref 41]) rfl ?_
  refine Ev.rd (i := 2) (n := 3) (pc' := 71) (L' := [some (.ref 40), some (.int 1), some (.int 2)]) (st' := [.int 10, .int 5, .ref 41]) (show ¬ ((2 : Int32) < 0 ∨ 3 ≤ (2 : Int32).toNatClampNeg) by decide +kernel) rfl ?_
  refine Ev.hwr (a := 41) (g := upd (km77 41) (5 : Int32).toNatClampNeg 10) (i := 5) (n := 24) (M' := km78) (pc' := 72) (L' := [some (.ref 40), some (.int 1), some (.int 2)]) (st' := []) (by decide) rfl (show ¬ ((5 : Int32) < 0 ∨ 24 ≤ (5 : Int32).toNatClampNeg) by decide +kernel) rfl rfl ?_
  refine Ev.steps 4 (pc' := 54) (L' := [some (.ref 40), some (.int 1), some (.int 3)]) (st' := [.int 3, .int 3]) rfl ?_
  refine Ev.sw (p := if (3 : Int32) ≤ 3 then 78 else 57) (pc' := 78) (L' := [some (.ref 40), some (.int 1), some (.int 3)]) (st' := []) rfl (by decide +kernel) ?_
  refine Ev.steps 4 (pc' := 47) (L' := [some (.ref 40), some (.int 2), some (.int 3)]) (st' := [.int 8, .int 2]) rfl ?_
  refine Ev.sw (p := if (8 : Int32) ≤ 2 then 84 else 50) (pc' := 50) (L' := [some (.ref 40), some (.int 2), some (.int 3)]) (st' := []) rfl (by decide +kernel) ?_
  refine Ev.steps 4 (pc' := 54) (L' := [some (.ref 40), some (.int 2), some (.int 0)]) (st' := [.int 3, .int 0]) rfl ?_
  refine Ev.sw (p := if (3 : Int32) ≤ 0 then 78 else 57) (pc' := 57) (L' := [some (.ref 40), some (.int 2), some (.int 0)]) (st' := []) rfl (by decide +kernel) ?_
  refine Ev.steps 9 (pc' := 70) (L' := [some (.ref 40), some (.int 2), some (.int 0)]) (st' := [.int 0, .ref 3, .int 6, .ref 41]) rfl ?_
  refine Ev.rd (i := 0) (n := 3) (pc' := 71) (L' := [some (.ref 40), some (.int 2), some (.int 0)]) (st' := [.int 700, .int 6, .ref 41]) (show ¬ ((0 : Int32) < 0 ∨ 3 ≤ (0 : Int32).toNatClampNeg) by decide +kernel) rfl ?_
  refine Ev.hwr (a := 41) (g := upd (km78 41) (6 : Int32).toNatClampNeg 700) (i := 6) (n := 24) (M' := km79) (pc' := 72) (L' := [some (.ref 40), some (.int 2), some (.int 0)]) (st' := []) (by decide) rfl (show ¬ ((6 : Int32) < 0 ∨ 24 ≤ (6 : Int32).toNatClampNeg) by decide +kernel) rfl rfl ?_
  refine Ev.steps 4 (pc' := 54) (L' := [some (.ref 40), some (.int 2), some (.int 1)]) (st' := [.int 3, .int 1]) rfl ?_
  refine Ev.sw (p := if (3 : Int32) ≤ 1 then 78 else 57) (pc' := 57) (L' := [some (.ref 40), some (.int 2), some (.int 1)]) (st' := []) rfl (by decide +kernel) ?_
  refine Ev.steps 9 (pc' := 70) (L' := [some (.ref 40), some (.int 2), some (.int 1)]) (st' := [.int 1, .ref 3, .int 7, .ref 41]) rfl ?_
  refine Ev.rd (i := 1) (n := 3) (pc' := 71) (L' := [some (.ref 40), some (.int 2), some (.int 1)]) (st' := [.int 3, .int 7, .ref 41]) (show ¬ ((1 : Int32) < 0 ∨ 3 ≤ (1 : Int32).toNatClampNeg) by decide +kernel) rfl ?_
  refine Ev.hwr (a := 41) (g := upd (km79 41) (7 : Int32).toNatClampNeg 3) (i := 7) (n := 24) (M' := km80) (pc' := 72) (L' := [some (.ref 40), some (.int 2), some (.int 1)]) (st' := []) (by decide) rfl (show ¬ ((7 : Int32) < 0 ∨ 24 ≤ (7 : Int32).toNatClampNeg) by decide +kernel) rfl rfl ?_
  refine Ev.steps 4 (pc' := 54) (L' := [some (.ref 40), some (.int 2), some (.int 2)]) (st' := [.int 3, .int 2]) rfl ?_
  refine Ev.sw (p := if (3 : Int32) ≤ 2 then 78 else 57) (pc' := 57) (L' := [some (.ref 40), some (.int 2), some (.int 2)]) (st' := []) rfl (by decide +kernel) ?_
  refine Ev.steps 9 (pc' := 70) (L' := [some (.ref 40), some (.int 2), some (.int 2)]) (st' := [.int 2, .ref 3, .int 8, .ref 41]) rfl ?_
  refine Ev.rd (i := 2) (n := 3) (pc' := 71) (L' := [some (.ref 40), some (.int 2), some (.int 2)]) (st' := [.int 10, .int 8, .ref 41]) (show ¬ ((2 : Int32) < 0 ∨ 3 ≤ (2 : Int32).toNatClampNeg) by decide +kernel) rfl ?_
  refine Ev.hwr (a := 41) (g := upd (km80 41) (8 : Int32).toNatClampNeg 10) (i := 8) (n := 24) (M' := km81) (pc' := 72) (L' := [some (.ref 40), some (.int 2), some (.int 2)]) (st' := []) (by decide) rfl (show ¬ ((8 : Int32) < 0 ∨ 24 ≤ (8 : Int32).toNatClampNeg) by decide +kernel) rfl rfl ?_
  refine Ev.steps 4 (pc' := 54) (L' := [some (.ref 40), some (.int 2), some (.int 3)]) (st' := [.int 3, .int 3]) rfl ?_
  refine Ev.sw (p := if (3 : Int32) ≤ 3 then 78 else 57) (pc' := 78) (L' := [some (.ref 40), some (.int 2), some (.int 3)]) (st' := []) rfl (by decide +kernel) ?_
  refine Ev.steps 4 (pc' := 47) (L' := [some (.ref 40), some (.int 3), some (.int 3)]) (st' := [.int 8, .int 3]) rfl ?_
  refine Ev.sw (p := if (8 : Int32) ≤ 3 then 84 else 50) (pc' := 50) (L' := [some (.ref 40), some (.int 3), some (.int 3)]) (st' := []) rfl (by decide +kernel) ?_
  refine Ev.steps 4 (pc' := 54) (L' := [some (.ref 40), some (.int 3), some (.int 0)]) (st' := [.int 3, .int 0]) rfl ?_
  refine Ev.sw (p := if (3 : Int32) ≤ 0 then 78 else 57) (pc' := 57) (L' := [some (.ref 40), some (.int 3), some (.int 0)]) (st' := []) rfl (by decide +kernel) ?_
  refine Ev.steps 9 (pc' := 70) (L' := [some (.ref 40), some (.int 3), some (.int 0)]) (st' := [.int 0, .ref 3, .int 9, .ref 41]) rfl ?_
  refine Ev.rd (i := 0) (n := 3) (pc' := 71) (L' := [some (.ref 40), some (.int 3), some (.int 0)]) (st' := [.int 700, .int 9, .ref 41]) (show ¬ ((0 : Int32) < 0 ∨ 3 ≤ (0 : Int32).toNatClampNeg) by decide +kernel) rfl ?_
  refine Ev.hwr (a := 41) (g := upd (km81 41) (9 : Int32).toNatClampNeg 700) (i := 9) (n := 24) (M' := km82) (pc' := 72) (L' := [some (.ref 40), some (.int 3), some (.int 0)]) (st' := []) (by decide) rfl (show ¬ ((9 : Int32) < 0 ∨ 24 ≤ (9 : Int32).toNatClampNeg) by decide +kernel) rfl rfl ?_
  refine Ev.steps 4 (pc' := 54) (L' := [some (.ref 40), some (.int 3), some (.int 1)]) (st' := [.int 3, .int 1]) rfl ?_
  refine Ev.sw (p := if (3 : Int32) ≤ 1 then 78 else 57) (pc' := 57) (L' := [some (.ref 40), some (.int 3), some (.int 1)]) (st' := []) rfl (by decide +kernel) ?_
  refine Ev.steps 9 (pc' := 70) (L' := [some (.ref 40), some (.int 3), some (.int 1)]) (st' := [.int 1, .ref 3, .int 10, .ref 41]) rfl ?_
  refine Ev.rd (i := 1) (n := 3) (pc' := 71) (L' := [some (.ref 40), some (.int 3), some (.int 1)]) (st' := [.int 3, .int 10, .ref 41]) (show ¬ ((1 : Int32) < 0 ∨ 3 ≤ (1 : Int32).toNatClampNeg) by decide +kernel) rfl ?_
  refine Ev.hwr (a := 41) (g := upd (km82 41) (10 : Int32).toNatClampNeg 3) (i := 10) (n := 24) (M' := km83) (pc' := 72) (L' := [some (.ref 40), some (.int 3), some (.int 1)]) (st' := []) (by decide) rfl (show ¬ ((10 : Int32) < 0 ∨ 24 ≤ (10 : Int32).toNatClampNeg) by decide +kernel) rfl rfl ?_
  refine Ev.steps 4 (pc' := 54) (L' := [some (.ref 40), some (.int 3), some (.int 2)]) (st' := [.int 3, .int 2]) rfl ?_
  refine Ev.sw (p := if (3 : Int32) ≤ 2 then 78 else 57) (pc' := 57) (L' := [some (.ref 40), some (.int 3), some (.int 2)]) (st' := []) rfl (by decide +kernel) ?_
  refine Ev.steps 9 (pc' := 70) (L' := [some (.ref 40), some (.int 3), some (.int 2)]) (st' := [.int 2, .ref 3, .int 11, .ref 41]) rfl ?_
  refine Ev.rd (i := 2) (n := 3) (pc' := 71) (L' := [some (.ref 40), some (.int 3), some (.int 2)]) (st' := [.int 10, .int 11, .ref 41]) (show ¬ ((2 : Int32) < 0 ∨ 3 ≤ (2 : Int32).toNatClampNeg) by decide +kernel) rfl ?_
  refine Ev.hwr (a := 41) (g := upd (km83 41) (11 : Int32).toNatClampNeg 10) (i := 11) (n := 24) (M' := km84) (pc' := 72) (L' := [some (.ref 40), some (.int 3), some (.int 2)]) (st' := []) (by decide) rfl (show ¬ ((11 : Int32) < 0 ∨ 24 ≤ (11 : Int32).toNatClampNeg) by decide +kernel) rfl rfl ?_
  refine Ev.steps 4 (pc' := 54) (L' := [some (.ref 40), some (.int 3), some (.int 3)]) (st' := [.int 3, .int 3]) rfl ?_
  refine Ev.sw (p := if (3 : Int32) ≤ 3 then 78 else 57) (pc' := 78) (L' := [some (.ref 40), some (.int 3), some (.int 3)]) (st' := []) rfl (by decide +kernel) ?_
  refine Ev.steps 4 (pc' := 47) (L' := [some (.ref 40), some (.int 4), some (.int 3)]) (st' := [.int 8, .int 4]) rfl ?_
  refine Ev.sw (p := if (8 : Int32) ≤ 4 then 84 else 50) (pc' := 50) (L' := [some (.ref 40), some (.int 4), some (.int 3)]) (st' := []) rfl (by decide +kernel) ?_
  refine Ev.steps 4 (pc' := 54) (L' := [some (.ref 40), some (.int 4), some (.int 0)]) (st' := [.int 3, .int 0]) rfl ?_
  refine Ev.sw (p := if (3 : Int32) ≤ 0 then 78 else 57) (pc' := 57) (L' := [some (.ref 40), some (.int 4), some (.int 0)]) (st' := []) rfl (by decide +kernel) ?_
  refine Ev.steps 9 (pc' := 70) (L' := [some (.ref 40), some (.int 4), some (.int 0)]) (st' := [.int 0, .ref 3, .int 12, .ref 41]) rfl ?_
  refine Ev.rd (i := 0) (n := 3) (pc' := 71) (L' := [some (.ref 40), some (.int 4), some (.int 0)]) (st' := [.int 700, .int 12, .ref 41]) (show ¬ ((0 : Int32) < 0 ∨ 3 ≤ (0 : Int32).toNatClampNeg) by decide +kernel) rfl ?_
  refine Ev.hwr (a := 41) (g := upd (km84 41) (12 : Int32).toNatClampNeg 700) (i := 12) (n := 24) (M' := km85) (pc' := 72) (L' := [some (.ref 40), some (.int 4), some (.int 0)]) (st' := []) (by decide) rfl (show ¬ ((12 : Int32) < 0 ∨ 24 ≤ (12 : Int32).toNatClampNeg) by decide +kernel) rfl rfl ?_
  refine Ev.steps 4 (pc' := 54) (L' := [some (.ref 40), some (.int 4), some (.int 1)]) (st' := [.int 3, .int 1]) rfl ?_
  refine Ev.sw (p := if (3 : Int32) ≤ 1 then 78 else 57) (pc' := 57) (L' := [some (.ref 40), some (.int 4), some (.int 1)]) (st' := []) rfl (by decide +kernel) ?_
  refine Ev.steps 9 (pc' := 70) (L' := [some (.ref 40), some (.int 4), some (.int 1)]) (st' := [.int 1, .ref 3, .int 13, .ref 41]) rfl ?_
  refine Ev.rd (i := 1) (n := 3) (pc' := 71) (L' := [some (.ref 40), some (.int 4), some (.int 1)]) (st' := [.int 3, .int 13, .ref 41]) (show ¬ ((1 : Int32) < 0 ∨ 3 ≤ (1 : Int32).toNatClampNeg) by decide +kernel) rfl ?_
  refine Ev.hwr (a := 41) (g := upd (km85 41) (13 : Int32).toNatClampNeg 3) (i := 13) (n := 24) (M' := km86) (pc' := 72) (L' := [some (.ref 40), some (.int 4), some (.int 1)]) (st' := []) (by decide) rfl (show ¬ ((13 : Int32) < 0 ∨ 24 ≤ (13 : Int32).toNatClampNeg) by decide +kernel) rfl rfl ?_
  refine Ev.steps 4 (pc' := 54) (L' := [some (.ref 40), some (.int 4), some (.int 2)]) (st' := [.int 3, .int 2]) rfl ?_
  refine Ev.sw (p := if (3 : Int32) ≤ 2 then 78 else 57) (pc' := 57) (L' := [some (.ref 40), some (.int 4), some (.int 2)]) (st' := []) rfl (by decide +kernel) ?_
  refine Ev.steps 9 (pc' := 70) (L' := [some (.ref 40), some (.int 4), some (.int 2)]) (st' := [.int 2, .ref 3, .int 14, .ref 41]) rfl ?_
  refine Ev.rd (i := 2) (n := 3) (pc' := 71) (L' := [some (.ref 40), some (.int 4), some (.int 2)]) (st' := [.int 10, .int 14, .ref 41]) (show ¬ ((2 : Int32) < 0 ∨ 3 ≤ (2 : Int32).toNatClampNeg) by decide +kernel) rfl ?_
  refine Ev.hwr (a := 41) (g := upd (km86 41) (14 : Int32).toNatClampNeg 10) (i := 14) (n := 24) (M' := km87) (pc' := 72) (L' := [some (.ref 40), some (.int 4), some (.int 2)]) (st' := []) (by decide) rfl (show ¬ ((14 : Int32) < 0 ∨ 24 ≤ (14 : Int32).toNatClampNeg) by decide +kernel) rfl rfl ?_
  refine Ev.steps 4 (pc' := 54) (L' := [some (.ref 40), some (.int 4), some (.int 3)]) (st' := [.int 3, .int 3]) rfl ?_
  refine Ev.sw (p := if (3 : Int32) ≤ 3 then 78 else 57) (pc' := 78) (L' := [some (.ref 40), some (.int 4), some (.int 3)]) (st' := []) rfl (by decide +kernel) ?_
  refine Ev.steps 4 (pc' := 47) (L' := [some (.ref 40), some (.int 5), some (.int 3)]) (st' := [.int 8, .int 5]) rfl ?_
  refine Ev.sw (p := if (8 : Int32) ≤ 5 then 84 else 50) (pc' := 50) (L' := [some (.ref 40), some (.int 5), some (.int 3)]) (st' := []) rfl (by decide +kernel) ?_
  refine Ev.steps 4 (pc' := 54) (L' := [some (.ref 40), some (.int 5), some (.int 0)]) (st' := [.int 3, .int 0]) rfl ?_
  refine Ev.sw (p := if (3 : Int32) ≤ 0 then 78 else 57) (pc' := 57) (L' := [some (.ref 40), some (.int 5), some (.int 0)]) (st' := []) rfl (by decide +kernel) ?_
  refine Ev.steps 9 (pc' := 70) (L' := [some (.ref 40), some (.int 5), some (.int 0)]) (st' := [.int 0, .ref 3, .int 15, .ref 41]) rfl ?_
  refine Ev.rd (i := 0) (n := 3) (pc' := 71) (L' := [some (.ref 40), some (.int 5), some (.int 0)]) (st' := [.int 700, .int 15, .ref 41]) (show ¬ ((0 : Int32) < 0 ∨ 3 ≤ (0 : Int32).toNatClampNeg) by decide +kernel) rfl ?_
  refine Ev.hwr (a := 41) (g := upd (km87 41) (15 : Int32).toNatClampNeg 700) (i := 15) (n := 24) (M' := km88) (pc' := 72) (L' := [some (.ref 40), some (.int 5), some (.int 0)]) (st' := []) (by decide) rfl (show ¬ ((15 : Int32) < 0 ∨ 24 ≤ (15 : Int32).toNatClampNeg) by decide +kernel) rfl rfl ?_
  refine Ev.steps 4 (pc' := 54) (L' := [some (.ref 40), some (.int 5), some (.int 1)]) (st' := [.int 3, .int 1]) rfl ?_
  refine Ev.sw (p := if (3 : Int32) ≤ 1 then 78 else 57) (pc' := 57) (L' := [some (.ref 40), some (.int 5), some (.int 1)]) (st' := []) rfl (by decide +kernel) ?_
  refine Ev.steps 9 (pc' := 70) (L' := [some (.ref 40), some (.int 5), some (.int 1)]) (st' := [.int 1, .ref 3, .int 16, .ref 41]) rfl ?_
  refine Ev.rd (i := 1) (n := 3) (pc' := 71) (L' := [some (.ref 40), some (.int 5), some (.int 1)]) (st' := [.int 3, .int 16, .ref 41]) (show ¬ ((1 : Int32) < 0 ∨ 3 ≤ (1 : Int32).toNatClampNeg) by decide +kernel) rfl ?_
  refine Ev.hwr (a := 41) (g := upd (km88 41) (16 : Int32).toNatClampNeg 3) (i := 16) (n := 24) (M' := km89) (pc' := 72) (L' := [some (.ref 40), some (.int 5), some (.int 1)]) (st' := []) (by decide) rfl (show ¬ ((16 : Int32) < 0 ∨ 24 ≤ (16 : Int32).toNatClampNeg) by decide +kernel) rfl rfl ?_
  refine Ev.steps 4 (pc' := 54) (L' := [some (.ref 40), some (.int 5), some (.int 2)]) (st' := [.int 3, .int 2]) rfl ?_
  refine Ev.sw (p := if (3 : Int32) ≤ 2 then 78 else 57) (pc' := 57) (L' := [some (.ref 40), some (.int 5), some (.int 2)]) (st' := []) rfl (by decide +kernel) ?_
  refine Ev.steps 9 (pc' := 70) (L' := [some (.ref 40), some (.int 5), some (.int 2)]) (st' := [.int 2, .ref 3, .int 17, .ref 41]) rfl ?_
  refine Ev.rd (i := 2) (n := 3) (pc' := 71) (L' := [some (.ref 40), some (.int 5), some (.int 2)]) (st' := [.int 10, .int 17, .ref 41]) (show ¬ ((2 : Int32) < 0 ∨ 3 ≤ (2 : Int32).toNatClampNeg) by decide +kernel) rfl ?_
  refine Ev.hwr (a := 41) (g := upd (km89 41) (17 : Int32).toNatClampNeg 10) (i := 17) (n := 24) (M' := km90) (pc' := 72) (L' := [some (.ref 40), some (.int 5), some (.int 2)]) (st' := []) (by decide) rfl (show ¬ ((17 : Int32) < 0 ∨ 24 ≤ (17 : Int32).toNatClampNeg) by decide +kernel) rfl rfl ?_
  refine Ev.steps 4 (pc' := 54) (L' := [some (.ref 40), some (.int 5), some (.int 3)]) (st' := [.int 3, .int 3]) rfl ?_
  refine Ev.sw (p := if (3 : Int32) ≤ 3 then 78 else 57) (pc' := 78) (L' := [some (.ref 40), some (.int 5), some (.int 3)]) (st' := []) rfl (by decide +kernel) ?_
  refine Ev.steps 4 (pc' := 47) (L' := [some (.ref 40), some (.int 6), some (.int 3)]) (st' := [.int 8, .int 6]) rfl ?_
  refine Ev.sw (p := if (8 : Int32) ≤ 6 then 84 else 50) (pc' := 50) (L' := [some (.ref 40), some (.int 6), some (.int 3)]) (st' := []) rfl (by decide +kernel) ?_
  refine Ev.steps 4 (pc' := 54) (L' := [some (.ref 40), some (.int 6), some (.int 0)]) (st' := [.int 3, .int 0]) rfl ?_
  refine Ev.sw (p := if (3 : Int32) ≤ 0 then 78 else 57) (pc' := 57) (L' := [some (.ref 40), some (.int 6), some (.int 0)]) (st' := []) rfl (by decide +kernel) ?_
  refine Ev.steps 9 (pc' := 70) (L' := [some (.ref 40), some (.int 6), some (.int 0)]) (st' := [.int 0, .ref 3, .int 18, .ref 41]) rfl ?_
  refine Ev.rd (i := 0) (n := 3) (pc' := 71) (L' := [some (.ref 40), some (.int 6), some (.int 0)]) (st' := [.int 700, .int 18, .ref 41]) (show ¬ ((0 : Int32) < 0 ∨ 3 ≤ (0 : Int32).toNatClampNeg) by decide +kernel) rfl ?_
  refine Ev.hwr (a := 41) (g := upd (km90 41) (18 : Int32).toNatClampNeg 700) (i := 18) (n := 24) (M' := km91) (pc' := 72) (L' := [some (.ref 40), some (.int 6), some (.int 0)]) (st' := []) (by decide) rfl (show ¬ ((18 : Int32) < 0 ∨ 24 ≤ (18 : Int32).toNatClampNeg) by decide +kernel) rfl rfl ?_
  refine Ev.steps 4 (pc' := 54) (L' := [some (.ref 40), some (.int 6), some (.int 1)]) (st' := [.int 3, .int 1]) rfl ?_
  refine Ev.sw (p := if (3 : Int32) ≤ 1 then 78 else 57) (pc' := 57) (L' := [some (.ref 40), some (.int 6), some (.int 1)]) (st' := []) rfl (by decide +kernel) ?_
  refine Ev.steps 9 (pc' := 70) (L' := [some (.ref 40), some (.int 6), some (.int 1)]) (st' := [.int 1, .ref 3, .int 19, .ref 41]) rfl ?_
  refine Ev.rd (i := 1) (n := 3) (pc' := 71) (L' := [some (.ref 40), some (.int 6), some (.int 1)]) (st' := [.int 3, .int 19, .ref 41]) (show ¬ ((1 : Int32) < 0 ∨ 3 ≤ (1 : Int32).toNatClampNeg) by decide +kernel) rfl ?_
  refine Ev.hwr (a := 41) (g := upd (km91 41) (19 : Int32).toNatClampNeg 3) (i := 19) (n := 24) (M' := km92) (pc' := 72) (L' := [some (.ref 40), some (.int 6), some (.int 1)]) (st' := []) (by decide) rfl (show ¬ ((19 : Int32) < 0 ∨ 24 ≤ (19 : Int32).toNatClampNeg) by decide +kernel) rfl rfl ?_
  refine Ev.steps 4 (pc' := 54) (L' := [some (.ref 40), some (.int 6), some (.int 2)]) (st' := [.int 3, .int 2]) rfl ?_
  refine Ev.sw (p := if (3 : Int32) ≤ 2 then 78 else 57) (pc' := 57) (L' := [some (.ref 40), some (.int 6), some (.int 2)]) (st' := []) rfl (by decide +kernel) ?_
  refine Ev.steps 9 (pc' := 70) (L' := [some (.ref 40), some (.int 6), some (.int 2)]) (st' := [.int 2, .ref 3, .int 20, .ref 41]) rfl ?_
  refine Ev.rd (i := 2) (n := 3) (pc' := 71) (L' := [some (.ref 40), some (.int 6), some (.int 2)]) (st' := [.int 10, .int 20, .ref 41]) (show ¬ ((2 : Int32) < 0 ∨ 3 ≤ (2 : Int32).toNatClampNeg) by decide +kernel) rfl ?_
  refine Ev.hwr (a := 41) (g := upd (km92 41) (20 : Int32).toNatClampNeg 10) (i := 20) (n := 24) (M' := km93) (pc' := 72) (L' := [some (.ref 40), some (.int 6), some (.int 2)]) (st' := []) (by decide) rfl (show ¬ ((20 : Int32) < 0 ∨ 24 ≤ (20 : Int32).toNatClampNeg) by decide +kernel) rfl rfl ?_
  refine Ev.steps 4 (pc' := 54) (L' := [some (.ref 40), some (.int 6), some (.int 3)]) (st' := [.int 3, .int 3]) rfl ?_
  refine Ev.sw (p := if (3 : Int32) ≤ 3 then 78 else 57) (pc' := 78) (L' := [some (.ref 40), some (.int 6), some (.int 3)]) (st' := []) rfl (by decide +kernel) ?_
  refine Ev.steps 4 (pc' := 47) (L' := [some (.ref 40), some (.int 7), some (.int 3)]) (st' := [.int 8, .int 7]) rfl ?_
  refine Ev.sw (p := if (8 : Int32) ≤ 7 then 84 else 50) (pc' := 50) (L' := [some (.ref 40), some (.int 7), some (.int 3)]) (st' := []) rfl (by decide +kernel) ?_
  refine Ev.steps 4 (pc' := 54) (L' := [some (.ref 40), some (.int 7), some (.int 0)]) (st' := [.int 3, .int 0]) rfl ?_
  refine Ev.sw (p := if (3 : Int32) ≤ 0 then 78 else 57) (pc' := 57) (L' := [some (.ref 40), some (.int 7), some (.int 0)]) (st' := []) rfl (by decide +kernel) ?_
  refine Ev.steps 9 (pc' := 70) (L' := [some (.ref 40), some (.int 7), some (.int 0)]) (st' := [.int 0, .ref 3, .int 21, .ref 41]) rfl ?_
  refine Ev.rd (i := 0) (n := 3) (pc' := 71) (L' := [some (.ref 40), some (.int 7), some (.int 0)]) (st' := [.int 700, .int 21, .ref 41]) (show ¬ ((0 : Int32) < 0 ∨ 3 ≤ (0 : Int32).toNatClampNeg) by decide +kernel) rfl ?_
  refine Ev.hwr (a := 41) (g := upd (km93 41) (21 : Int32).toNatClampNeg 700) (i := 21) (n := 24) (M' := km94) (pc' := 72) (L' := [some (.ref 40), some (.int 7), some (.int 0)]) (st' := []) (by decide) rfl (show ¬ ((21 : Int32) < 0 ∨ 24 ≤ (21 : Int32).toNatClampNeg) by decide +kernel) rfl rfl ?_
  refine Ev.steps 4 (pc' := 54) (L' := [some (.ref 40), some (.int 7), some (.int 1)]) (st' := [.int 3, .int 1]) rfl ?_
  refine Ev.sw (p := if (3 : Int32) ≤ 1 then 78 else 57) (pc' := 57) (L' := [some (.ref 40), some (.int 7), some (.int 1)]) (st' := []) rfl (by decide +kernel) ?_
  refine Ev.steps 9 (pc' := 70) (L' := [some (.ref 40), some (.int 7), some (.int 1)]) (st' := [.int 1, .ref 3, .int 22, .ref 41]) rfl ?_
  refine Ev.rd (i := 1) (n := 3) (pc' := 71) (L' := [some (.ref 40), some (.int 7), some (.int 1)]) (st' := [.int 3, .int 22, .ref 41]) (show ¬ ((1 : Int32) < 0 ∨ 3 ≤ (1 : Int32).toNatClampNeg) by decide +kernel) rfl ?_
  refine Ev.hwr (a := 41) (g := upd (km94 41) (22 : Int32).toNatClampNeg 3) (i := 22) (n := 24) (M' := km95) (pc' := 72) (L' := [some (.ref 40), some (.int 7), some (.int 1)]) (st' := []) (by decide) rfl (show ¬ ((22 : Int32) < 0 ∨ 24 ≤ (22 : Int32).toNatClampNeg) by decide +kernel) rfl rfl ?_
  refine Ev.steps 4 (pc' := 54) (L' := [some (.ref 40), some (.int 7), some (.int 2)]) (st' := [.int 3, .int 2]) rfl ?_
  refine Ev.sw (p := if (3 : Int32) ≤ 2 then 78 else 57) (pc' := 57) (L' := [some (.ref 40), some (.int 7), some (.int 2)]) (st' := []) rfl (by decide +kernel) ?_
  refine Ev.steps 9 (pc' := 70) (L' := [some (.ref 40), some (.int 7), some (.int 2)]) (st' := [.int 2, .ref 3, .int 23, .ref 41]) rfl ?_
  refine Ev.rd (i := 2) (n := 3) (pc' := 71) (L' := [some (.ref 40), some (.int 7), some (.int 2)]) (st' := [.int 10, .int 23, .ref 41]) (show ¬ ((2 : Int32) < 0 ∨ 3 ≤ (2 : Int32).toNatClampNeg) by decide +kernel) rfl ?_
  refine Ev.hwr (a := 41) (g := upd (km95 41) (23 : Int32).toNatClampNeg 10) (i := 23) (n := 24) (M' := km96) (pc' := 72) (L' := [some (.ref 40), some (.int 7), some (.int 2)]) (st' := []) (by decide) rfl (show ¬ ((23 : Int32) < 0 ∨ 24 ≤ (23 : Int32).toNatClampNeg) by decide +kernel) rfl rfl ?_
  refine Ev.steps 4 (pc' := 54) (L' := [some (.ref 40), some (.int 7), some (.int 3)]) (st' := [.int 3, .int 3]) rfl ?_
  refine Ev.sw (p := if (3 : Int32) ≤ 3 then 78 else 57) (pc' := 78) (L' := [some (.ref 40), some (.int 7), some (.int 3)]) (st' := []) rfl (by decide +kernel) ?_
  refine Ev.steps 4 (pc' := 47) (L' := [some (.ref 40), some (.int 8), some (.int 3)]) (st' := [.int 8, .int 8]) rfl ?_
  refine Ev.sw (p := if (8 : Int32) ≤ 8 then 84 else 50) (pc' := 84) (L' := [some (.ref 40), some (.int 8), some (.int 3)]) (st' := []) rfl (by decide +kernel) ?_
  exact Ev.ret rfl
theorem ct8 {X : Nat × (Nat → Int32)} : Rn 8 [.ref 44, .ref 9, .ref 22, .ref 32, .ref 40] (ho (X, 45, 3168) km96 [(44, .inr (1, [.null, .null, .null, .null, .null, .null, .null, .null, .null, .int 0])), (8, .inr (11, [.ref 9, .ref 12, .ref 14, .ref 22, .ref 32, .ref 36, .ref 40, .null, .null, .null, .null]))]) none (ho (X, 50, 5600) km102 [(8, .inr (11, [.ref 9, .ref 12, .ref 14, .ref 22, .ref 32, .ref 36, .ref 40, .null, .null, .null, .null]))]) := by
  show Ev 1 8 0 [some (.ref 44), some (.ref 9), some (.ref 22), some (.ref 32), some (.ref 40)] [] (ho (X, 45, 3168) km96 [(44, .inr (1, [.null, .null, .null, .null, .null, .null, .null, .null, .null, .int 0])), (8, .inr (11, [.ref 9, .ref 12, .ref 14, .ref 22, .ref 32, .ref 36, .ref 40, .null, .null, .null, .null]))]) _
  refine Ev.steps 4 (pc' := 7) (L' := [some (.ref 44), some (.ref 9), some (.ref 22), some (.ref 32), some (.ref 40)]) (st' := [.int 64, .ref 44]) rfl ?_
  refine Ev.hna (n := 45) (g := fun _ => 0) (k := 64) (n' := 46) (z' := 3232) (M' := km97) (pc' := 9) (L' := [some (.ref 44), some (.ref 9), some (.ref 22), some (.ref 32), some (.ref 40)]) (st' := [.ref 45, .ref 44]) (by decide) rfl rfl rfl rfl rfl ?_
  refine Ev.hpf (a := 44) (c' := .inr (1, [.null, .null, .null, .null, .ref 45, .null, .null, .null, .null, .int 0])) (pc' := 12) (L' := [some (.ref 44), some (.ref 9), some (.ref 22), some (.ref 32), some (.ref 40)]) (st' := []) rfl ?_
  refine Ev.steps 2 (pc' := 16) (L' := [some (.ref 44), some (.ref 9), some (.ref 22), some (.ref 32), some (.ref 40)]) (st' := [.int 768, .ref 44]) rfl ?_
  refine Ev.hna (n := 46) (g := fun _ => 0) (k := 768) (n' := 47) (z' := 4000) (M' := km98) (pc' := 18) (L' := [some (.ref 44), some (.ref 9), some (.ref 22), some (.ref 32), some (.ref 40)]) (st' := [.ref 46, .ref 44]) (by decide) rfl rfl rfl rfl rfl ?_
  refine Ev.hpf (a := 44) (c' := .inr (1, [.null, .null, .null, .null, .ref 45, .ref 46, .null, .null, .null, .int 0])) (pc' := 21) (L' := [some (.ref 44), some (.ref 9), some (.ref 22), some (.ref 32), some (.ref 40)]) (st' := []) rfl ?_
  refine Ev.steps 2 (pc' := 25) (L' := [some (.ref 44), some (.ref 9), some (.ref 22), some (.ref 32), some (.ref 40)]) (st' := [.int 768, .ref 44]) rfl ?_
  refine Ev.hna (n := 47) (g := fun _ => 0) (k := 768) (n' := 48) (z' := 4768) (M' := km99) (pc' := 27) (L' := [some (.ref 44), some (.ref 9), some (.ref 22), some (.ref 32), some (.ref 40)]) (st' := [.ref 47, .ref 44]) (by decide) rfl rfl rfl rfl rfl ?_
  refine Ev.hpf (a := 44) (c' := .inr (1, [.null, .null, .null, .null, .ref 45, .ref 46, .ref 47, .null, .null, .int 0])) (pc' := 30) (L' := [some (.ref 44), some (.ref 9), some (.ref 22), some (.ref 32), some (.ref 40)]) (st' := []) rfl ?_
  refine Ev.steps 2 (pc' := 34) (L' := [some (.ref 44), some (.ref 9), some (.ref 22), some (.ref 32), some (.ref 40)]) (st' := [.int 768, .ref 44]) rfl ?_
  refine Ev.hna (n := 48) (g := fun _ => 0) (k := 768) (n' := 49) (z' := 5536) (M' := km100) (pc' := 36) (L' := [some (.ref 44), some (.ref 9), some (.ref 22), some (.ref 32), some (.ref 40)]) (st' := [.ref 48, .ref 44]) (by decide) rfl rfl rfl rfl rfl ?_
  refine Ev.hpf (a := 44) (c' := .inr (1, [.null, .null, .null, .null, .ref 45, .ref 46, .ref 47, .ref 48, .null, .int 0])) (pc' := 39) (L' := [some (.ref 44), some (.ref 9), some (.ref 22), some (.ref 32), some (.ref 40)]) (st' := []) rfl ?_
  refine Ev.steps 2 (pc' := 42) (L' := [some (.ref 44), some (.ref 9), some (.ref 22), some (.ref 32), some (.ref 40)]) (st' := [.int 64, .ref 44]) rfl ?_
  refine Ev.hna (n := 49) (g := fun _ => 0) (k := 64) (n' := 50) (z' := 5600) (M' := km101) (pc' := 44) (L' := [some (.ref 44), some (.ref 9), some (.ref 22), some (.ref 32), some (.ref 40)]) (st' := [.ref 49, .ref 44]) (by decide) rfl rfl rfl rfl rfl ?_
  refine Ev.hpf (a := 44) (c' := .inr (1, [.null, .null, .null, .null, .ref 45, .ref 46, .ref 47, .ref 48, .ref 49, .int 0])) (pc' := 47) (L' := [some (.ref 44), some (.ref 9), some (.ref 22), some (.ref 32), some (.ref 40)]) (st' := []) rfl ?_
  refine Ev.steps 2 (pc' := 49) (L' := [some (.ref 44), some (.ref 9), some (.ref 22), some (.ref 32), some (.ref 40)]) (st' := [.ref 9, .ref 44]) rfl ?_
  refine Ev.hpf (a := 44) (c' := .inr (1, [.ref 9, .null, .null, .null, .ref 45, .ref 46, .ref 47, .ref 48, .ref 49, .int 0])) (pc' := 52) (L' := [some (.ref 44), some (.ref 9), some (.ref 22), some (.ref 32), some (.ref 40)]) (st' := []) rfl ?_
  refine Ev.steps 2 (pc' := 54) (L' := [some (.ref 44), some (.ref 9), some (.ref 22), some (.ref 32), some (.ref 40)]) (st' := [.ref 22, .ref 44]) rfl ?_
  refine Ev.hpf (a := 44) (c' := .inr (1, [.ref 9, .ref 22, .null, .null, .ref 45, .ref 46, .ref 47, .ref 48, .ref 49, .int 0])) (pc' := 57) (L' := [some (.ref 44), some (.ref 9), some (.ref 22), some (.ref 32), some (.ref 40)]) (st' := []) rfl ?_
  refine Ev.steps 2 (pc' := 59) (L' := [some (.ref 44), some (.ref 9), some (.ref 22), some (.ref 32), some (.ref 40)]) (st' := [.ref 32, .ref 44]) rfl ?_
  refine Ev.hpf (a := 44) (c' := .inr (1, [.ref 9, .ref 22, .ref 32, .null, .ref 45, .ref 46, .ref 47, .ref 48, .ref 49, .int 0])) (pc' := 62) (L' := [some (.ref 44), some (.ref 9), some (.ref 22), some (.ref 32), some (.ref 40)]) (st' := []) rfl ?_
  refine Ev.steps 2 (pc' := 65) (L' := [some (.ref 44), some (.ref 9), some (.ref 22), some (.ref 32), some (.ref 40)]) (st' := [.ref 40, .ref 44]) rfl ?_
  refine Ev.hpf (a := 44) (c' := .inr (1, [.ref 9, .ref 22, .ref 32, .ref 40, .ref 45, .ref 46, .ref 47, .ref 48, .ref 49, .int 0])) (pc' := 68) (L' := [some (.ref 44), some (.ref 9), some (.ref 22), some (.ref 32), some (.ref 40)]) (st' := []) rfl ?_
  refine Ev.hdn (a := 44) (g := fun _ => 0) (M' := km102) (by decide) rfl rfl rfl ?_
  exact Ev.ret rfl
theorem ct110 {X : Nat × (Nat → Int32)} : Rn 110 [.ref 50, .ref 40] (ho (X, 51, 5604) km102 [(50, .inr (7, [.null, .null, .null, .int 0])), (8, .inr (11, [.ref 9, .ref 12, .ref 14, .ref 22, .ref 32, .ref 36, .ref 40, .ref 44, .null, .null, .null]))]) none (ho (X, 53, 5620) km105 [(8, .inr (11, [.ref 9, .ref 12, .ref 14, .ref 22, .ref 32, .ref 36, .ref 40, .ref 44, .null, .null, .null]))]) := by
  show Ev 1 110 0 [some (.ref 50), some (.ref 40)] [] (ho (X, 51, 5604) km102 [(50, .inr (7, [.null, .null, .null, .int 0])), (8, .inr (11, [.ref 9, .ref 12, .ref 14, .ref 22, .ref 32, .ref 36, .ref 40, .ref 44, .null, .null, .null]))]) _
  refine Ev.steps 4 (pc' := 7) (L' := [some (.ref 50), some (.ref 40)]) (st' := [.int 8, .ref 50]) rfl ?_
  refine Ev.hna (n := 51) (g := fun _ => 0) (k := 8) (n' := 52) (z' := 5612) (M' := km103) (pc' := 9) (L' := [some (.ref 50), some (.ref 40)]) (st' := [.ref 51, .ref 50]) (by decide) rfl rfl rfl rfl rfl ?_
  refine Ev.hpf (a := 50) (c' := .inr (7, [.null, .ref 51, .null, .int 0])) (pc' := 12) (L' := [some (.ref 50), some (.ref 40)]) (st' := []) rfl ?_
  refine Ev.steps 2 (pc' := 15) (L' := [some (.ref 50), some (.ref 40)]) (st' := [.int 8, .ref 50]) rfl ?_
  refine Ev.hna (n := 52) (g := fun _ => 0) (k := 8) (n' := 53) (z' := 5620) (M' := km104) (pc' := 17) (L' := [some (.ref 50), some (.ref 40)]) (st' := [.ref 52, .ref 50]) (by decide) rfl rfl rfl rfl rfl ?_
  refine Ev.hpf (a := 50) (c' := .inr (7, [.null, .ref 51, .ref 52, .int 0])) (pc' := 20) (L' := [some (.ref 50), some (.ref 40)]) (st' := []) rfl ?_
  refine Ev.steps 2 (pc' := 22) (L' := [some (.ref 50), some (.ref 40)]) (st' := [.ref 40, .ref 50]) rfl ?_
  refine Ev.hpf (a := 50) (c' := .inr (7, [.ref 40, .ref 51, .ref 52, .int 0])) (pc' := 25) (L' := [some (.ref 50), some (.ref 40)]) (st' := []) rfl ?_
  refine Ev.hdn (a := 50) (g := fun _ => 0) (M' := km105) (by decide) rfl rfl rfl ?_
  exact Ev.ret rfl
theorem ct128 {X : Nat × (Nat → Int32)} : Rn 128 [.ref 53, .ref 9, .ref 40, .ref 44] (ho (X, 54, 5625) km105 [(53, .inr (9, [.null, .null, .null, .int 0, .int 0])), (8, .inr (11, [.ref 9, .ref 12, .ref 14, .ref 22, .ref 32, .ref 36, .ref 40, .ref 44, .ref 50, .null, .null]))]) none (ho (X, 54, 5625) km106 [(8, .inr (11, [.ref 9, .ref 12, .ref 14, .ref 22, .ref 32, .ref 36, .ref 40, .ref 44, .ref 50, .null, .null]))]) := by
  show Ev 1 128 0 [some (.ref 53), some (.ref 9), some (.ref 40), some (.ref 44)] [] (ho (X, 54, 5625) km105 [(53, .inr (9, [.null, .null, .null, .int 0, .int 0])), (8, .inr (11, [.ref 9, .ref 12, .ref 14, .ref 22, .ref 32, .ref 36, .ref 40, .ref 44, .ref 50, .null, .null]))]) _
  refine Ev.steps 4 (pc' := 6) (L' := [some (.ref 53), some (.ref 9), some (.ref 40), some (.ref 44)]) (st' := [.ref 9, .ref 53]) rfl ?_
  refine Ev.hpf (a := 53) (c' := .inr (9, [.ref 9, .null, .null, .int 0, .int 0])) (pc' := 9) (L' := [some (.ref 53), some (.ref 9), some (.ref 40), some (.ref 44)]) (st' := []) rfl ?_
  refine Ev.steps 2 (pc' := 11) (L' := [some (.ref 53), some (.ref 9), some (.ref 40), some (.ref 44)]) (st' := [.ref 40, .ref 53]) rfl ?_
  refine Ev.hpf (a := 53) (c' := .inr (9, [.ref 9, .ref 40, .null, .int 0, .int 0])) (pc' := 14) (L' := [some (.ref 53), some (.ref 9), some (.ref 40), some (.ref 44)]) (st' := []) rfl ?_
  refine Ev.steps 2 (pc' := 16) (L' := [some (.ref 53), some (.ref 9), some (.ref 40), some (.ref 44)]) (st' := [.ref 44, .ref 53]) rfl ?_
  refine Ev.hpf (a := 53) (c' := .inr (9, [.ref 9, .ref 40, .ref 44, .int 0, .int 0])) (pc' := 19) (L' := [some (.ref 53), some (.ref 9), some (.ref 40), some (.ref 44)]) (st' := []) rfl ?_
  refine Ev.hdn (a := 53) (g := fun _ => 0) (M' := km106) (by decide) rfl rfl rfl ?_
  exact Ev.ret rfl
theorem ct117 {X : Nat × (Nat → Int32)} : Rn 117 [.ref 54] (ho (X, 55, 5630) km106 [(54, .inr (8, [.null, .null, .null, .null, .int 0])), (8, .inr (11, [.ref 9, .ref 12, .ref 14, .ref 22, .ref 32, .ref 36, .ref 40, .ref 44, .ref 50, .ref 53, .null]))]) none (ho (X, 59, 6158) km111 [(8, .inr (11, [.ref 9, .ref 12, .ref 14, .ref 22, .ref 32, .ref 36, .ref 40, .ref 44, .ref 50, .ref 53, .null]))]) := by
  show Ev 1 117 0 [some (.ref 54)] [] (ho (X, 55, 5630) km106 [(54, .inr (8, [.null, .null, .null, .null, .int 0])), (8, .inr (11, [.ref 9, .ref 12, .ref 14, .ref 22, .ref 32, .ref 36, .ref 40, .ref 44, .ref 50, .ref 53, .null]))]) _
  refine Ev.steps 4 (pc' := 7) (L' := [some (.ref 54)]) (st' := [.int 8, .ref 54]) rfl ?_
  refine Ev.hna (n := 55) (g := fun _ => 0) (k := 8) (n' := 56) (z' := 5638) (M' := km107) (pc' := 9) (L' := [some (.ref 54)]) (st' := [.ref 55, .ref 54]) (by decide) rfl rfl rfl rfl rfl ?_
  refine Ev.hpf (a := 54) (c' := .inr (8, [.ref 55, .null, .null, .null, .int 0])) (pc' := 12) (L' := [some (.ref 54)]) (st' := []) rfl ?_
  refine Ev.steps 2 (pc' := 15) (L' := [some (.ref 54)]) (st' := [.int 8, .ref 54]) rfl ?_
  refine Ev.hna (n := 56) (g := fun _ => 0) (k := 8) (n' := 57) (z' := 5646) (M' := km108) (pc' := 17) (L' := [some (.ref 54)]) (st' := [.ref 56, .ref 54]) (by decide) rfl rfl rfl rfl rfl ?_
  refine Ev.hpf (a := 54) (c' := .inr (8, [.ref 55, .ref 56, .null, .null, .int 0])) (pc' := 20) (L' := [some (.ref 54)]) (st' := []) rfl ?_
  refine Ev.steps 2 (pc' := 24) (L' := [some (.ref 54)]) (st' := [.int 256, .ref 54]) rfl ?_
  refine Ev.hna (n := 57) (g := fun _ => 0) (k := 256) (n' := 58) (z' := 5902) (M' := km109) (pc' := 26) (L' := [some (.ref 54)]) (st' := [.ref 57, .ref 54]) (by decide) rfl rfl rfl rfl rfl ?_
  refine Ev.hpf (a := 54) (c' := .inr (8, [.ref 55, .ref 56, .ref 57, .null, .int 0])) (pc' := 29) (L' := [some (.ref 54)]) (st' := []) rfl ?_
  refine Ev.steps 2 (pc' := 33) (L' := [some (.ref 54)]) (st' := [.int 256, .ref 54]) rfl ?_
  refine Ev.hna (n := 58) (g := fun _ => 0) (k := 256) (n' := 59) (z' := 6158) (M' := km110) (pc' := 35) (L' := [some (.ref 54)]) (st' := [.ref 58, .ref 54]) (by decide) rfl rfl rfl rfl rfl ?_
  refine Ev.hpf (a := 54) (c' := .inr (8, [.ref 55, .ref 56, .ref 57, .ref 58, .int 0])) (pc' := 38) (L' := [some (.ref 54)]) (st' := []) rfl ?_
  refine Ev.hdn (a := 54) (g := fun _ => 0) (M' := km111) (by decide) rfl rfl rfl ?_
  exact Ev.ret rfl
theorem ct160 {X : Nat × (Nat → Int32)} {res : Option Value × gw_H} (H : Ev 7 160 182 [some (.ref 8)] [.ref 8] (ho (X, 59, 6158) km112 []) res) : Ev 7 160 0 [some (.ref 8)] [] (ho (X, 9, 11) km0 [(8, .inr (11, [.null, .null, .null, .null, .null, .null, .null, .null, .null, .null, .null]))]) res := by
  refine Ev.steps 3 (pc' := 5) (L' := [some (.ref 8)]) (st' := [.ref 8]) rfl ?_
  refine Ev.hno (n := 9) (c := .inr (2, [.null, .null, .int 0, .int 0])) (k := 4) (n' := 10) (z' := 15) (pc' := 8) (L' := [some (.ref 8)]) (st' := [.ref 9, .ref 8]) rfl rfl rfl ?_
  refine Ev.steps 1 (pc' := 9) (L' := [some (.ref 8)]) (st' := [.ref 9, .ref 9, .ref 8]) rfl ?_
  refine Ev.call (y := 35) (args := [.ref 9]) (rest := [.ref 9, .ref 8]) (r := none) (h1 := (ho (X, 12, 143) km37 [(8, .inr (11, [.null, .null, .null, .null, .null, .null, .null, .null, .null, .null, .null]))])) rfl ct35 ?_
  show Ev 7 160 12 [some (.ref 8)] [.ref 9, .ref 8] (ho (X, 12, 143) km37 [(8, .inr (11, [.null, .null, .null, .null, .null, .null, .null, .null, .null, .null, .null]))]) _
  refine Ev.hpf (a := 8) (c' := .inr (11, [.ref 9, .null, .null, .null, .null, .null, .null, .null, .null, .null, .null])) (pc' := 15) (L' := [some (.ref 8)]) (st' := []) rfl ?_
  refine Ev.steps 1 (pc' := 16) (L' := [some (.ref 8)]) (st' := [.ref 8]) rfl ?_
  refine Ev.hno (n := 12) (c := .inr (4, [.null, .int 0])) (k := 2) (n' := 13) (z' := 145) (pc' := 19) (L' := [some (.ref 8)]) (st' := [.ref 12, .ref 8]) rfl rfl rfl ?_
  refine Ev.steps 1 (pc' := 20) (L' := [some (.ref 8)]) (st' := [.ref 12, .ref 12, .ref 8]) rfl ?_
  refine Ev.call (y := 77) (args := [.ref 12]) (rest := [.ref 12, .ref 8]) (r := none) (h1 := (ho (X, 14, 185) km39 [(8, .inr (11, [.ref 9, .null, .null, .null, .null, .null, .null, .null, .null, .null, .null]))])) rfl ct77 ?_
  show Ev 7 160 23 [some (.ref 8)] [.ref 12, .ref 8] (ho (X, 14, 185) km39 [(8, .inr (11, [.ref 9, .null, .null, .null, .null, .null, .null, .null, .null, .null, .null]))]) _
  refine Ev.hpf (a := 8) (c' := .inr (11, [.ref 9, .ref 12, .null, .null, .null, .null, .null, .null, .null, .null, .null])) (pc' := 26) (L' := [some (.ref 8)]) (st' := []) rfl ?_
  refine Ev.steps 1 (pc' := 27) (L' := [some (.ref 8)]) (st' := [.ref 8]) rfl ?_
  refine Ev.hno (n := 14) (c := .inr (10, [.null, .null, .null, .null, .null, .null, .null, .int 0])) (k := 8) (n' := 15) (z' := 193) (pc' := 30) (L' := [some (.ref 8)]) (st' := [.ref 14, .ref 8]) rfl rfl rfl ?_
  refine Ev.steps 1 (pc' := 31) (L' := [some (.ref 8)]) (st' := [.ref 14, .ref 14, .ref 8]) rfl ?_
  refine Ev.call (y := 141) (args := [.ref 14]) (rest := [.ref 14, .ref 8]) (r := none) (h1 := (ho (X, 22, 1813) km47 [(8, .inr (11, [.ref 9, .ref 12, .null, .null, .null, .null, .null, .null, .null, .null, .null]))])) rfl ct141 ?_
  show Ev 7 160 34 [some (.ref 8)] [.ref 14, .ref 8] (ho (X, 22, 1813) km47 [(8, .inr (11, [.ref 9, .ref 12, .null, .null, .null, .null, .null, .null, .null, .null, .null]))]) _
  refine Ev.hpf (a := 8) (c' := .inr (11, [.ref 9, .ref 12, .ref 14, .null, .null, .null, .null, .null, .null, .null, .null])) (pc' := 37) (L' := [some (.ref 8)]) (st' := []) rfl ?_
  refine Ev.steps 1 (pc' := 38) (L' := [some (.ref 8)]) (st' := [.ref 8]) rfl ?_
  refine Ev.hno (n := 22) (c := .inr (3, [.null, .null, .null, .null, .null, .null, .null, .null, .null, .null, .null])) (k := 11) (n' := 23) (z' := 1824) (pc' := 41) (L' := [some (.ref 8)]) (st' := [.ref 22, .ref 8]) rfl rfl rfl ?_
  refine Ev.steps 5 (pc' := 50) (L' := [some (.ref 8)]) (st' := [.ref 14, .ref 9, .ref 22, .ref 22, .ref 8]) rfl ?_
  refine Ev.call (y := 56) (args := [.ref 22, .ref 9, .ref 14]) (rest := [.ref 22, .ref 8]) (r := none) (h1 := (ho (X, 32, 2833) km57 [(8, .inr (11, [.ref 9, .ref 12, .ref 14, .null, .null, .null, .null, .null, .null, .null, .null]))])) rfl ct56 ?_
  show Ev 7 160 53 [some (.ref 8)] [.ref 22, .ref 8] (ho (X, 32, 2833) km57 [(8, .inr (11, [.ref 9, .ref 12, .ref 14, .null, .null, .null, .null, .null, .null, .null, .null]))]) _
  refine Ev.hpf (a := 8) (c' := .inr (11, [.ref 9, .ref 12, .ref 14, .ref 22, .null, .null, .null, .null, .null, .null, .null])) (pc' := 56) (L' := [some (.ref 8)]) (st' := []) rfl ?_
  refine Ev.steps 1 (pc' := 57) (L' := [some (.ref 8)]) (st' := [.ref 8]) rfl ?_
  refine Ev.hno (n := 32) (c := .inr (0, [.null, .null, .null, .null, .null, .int 0])) (k := 6) (n' := 33) (z' := 2839) (pc' := 60) (L' := [some (.ref 8)]) (st' := [.ref 32, .ref 8]) rfl rfl rfl ?_
  refine Ev.steps 5 (pc' := 69) (L' := [some (.ref 8)]) (st' := [.ref 22, .ref 9, .ref 32, .ref 32, .ref 8]) rfl ?_
  refine Ev.call (y := 0) (args := [.ref 32, .ref 9, .ref 22]) (rest := [.ref 32, .ref 8]) (r := none) (h1 := (ho (X, 36, 3031) km61 [(8, .inr (11, [.ref 9, .ref 12, .ref 14, .ref 22, .null, .null, .null, .null, .null, .null, .null]))])) rfl ct0 ?_
  show Ev 7 160 72 [some (.ref 8)] [.ref 32, .ref 8] (ho (X, 36, 3031) km61 [(8, .inr (11, [.ref 9, .ref 12, .ref 14, .ref 22, .null, .null, .null, .null, .null, .null, .null]))]) _
  refine Ev.hpf (a := 8) (c' := .inr (11, [.ref 9, .ref 12, .ref 14, .ref 22, .ref 32, .null, .null, .null, .null, .null, .null])) (pc' := 75) (L' := [some (.ref 8)]) (st' := []) rfl ?_
  refine Ev.steps 1 (pc' := 76) (L' := [some (.ref 8)]) (st' := [.ref 8]) rfl ?_
  refine Ev.hno (n := 36) (c := .inr (5, [.null, .null, .null, .null, .null])) (k := 5) (n' := 37) (z' := 3036) (pc' := 79) (L' := [some (.ref 8)]) (st' := [.ref 36, .ref 8]) rfl rfl rfl ?_
  refine Ev.steps 5 (pc' := 88) (L' := [some (.ref 8)]) (st' := [.ref 32, .ref 9, .ref 36, .ref 36, .ref 8]) rfl ?_
  refine Ev.call (y := 87) (args := [.ref 36, .ref 9, .ref 32]) (rest := [.ref 36, .ref 8]) (r := none) (h1 := (ho (X, 40, 3120) km65 [(8, .inr (11, [.ref 9, .ref 12, .ref 14, .ref 22, .ref 32, .null, .null, .null, .null, .null, .null]))])) rfl ct87 ?_
  show Ev 7 160 91 [some (.ref 8)] [.ref 36, .ref 8] (ho (X, 40, 3120) km65 [(8, .inr (11, [.ref 9, .ref 12, .ref 14, .ref 22, .ref 32, .null, .null, .null, .null, .null, .null]))]) _
  refine Ev.hpf (a := 8) (c' := .inr (11, [.ref 9, .ref 12, .ref 14, .ref 22, .ref 32, .ref 36, .null, .null, .null, .null, .null])) (pc' := 94) (L' := [some (.ref 8)]) (st' := []) rfl ?_
  refine Ev.steps 1 (pc' := 95) (L' := [some (.ref 8)]) (st' := [.ref 8]) rfl ?_
  refine Ev.hno (n := 40) (c := .inr (6, [.null, .null, .null])) (k := 3) (n' := 41) (z' := 3123) (pc' := 98) (L' := [some (.ref 8)]) (st' := [.ref 40, .ref 8]) rfl rfl rfl ?_
  refine Ev.steps 1 (pc' := 99) (L' := [some (.ref 8)]) (st' := [.ref 40, .ref 40, .ref 8]) rfl ?_
  refine Ev.call (y := 93) (args := [.ref 40]) (rest := [.ref 40, .ref 8]) (r := none) (h1 := (ho (X, 44, 3158) km96 [(8, .inr (11, [.ref 9, .ref 12, .ref 14, .ref 22, .ref 32, .ref 36, .null, .null, .null, .null, .null]))])) rfl ct93 ?_
  show Ev 7 160 102 [some (.ref 8)] [.ref 40, .ref 8] (ho (X, 44, 3158) km96 [(8, .inr (11, [.ref 9, .ref 12, .ref 14, .ref 22, .ref 32, .ref 36, .null, .null, .null, .null, .null]))]) _
  refine Ev.hpf (a := 8) (c' := .inr (11, [.ref 9, .ref 12, .ref 14, .ref 22, .ref 32, .ref 36, .ref 40, .null, .null, .null, .null])) (pc' := 105) (L' := [some (.ref 8)]) (st' := []) rfl ?_
  refine Ev.steps 1 (pc' := 106) (L' := [some (.ref 8)]) (st' := [.ref 8]) rfl ?_
  refine Ev.hno (n := 44) (c := .inr (1, [.null, .null, .null, .null, .null, .null, .null, .null, .null, .int 0])) (k := 10) (n' := 45) (z' := 3168) (pc' := 109) (L' := [some (.ref 8)]) (st' := [.ref 44, .ref 8]) rfl rfl rfl ?_
  refine Ev.steps 9 (pc' := 126) (L' := [some (.ref 8)]) (st' := [.ref 40, .ref 32, .ref 22, .ref 9, .ref 44, .ref 44, .ref 8]) rfl ?_
  refine Ev.call (y := 8) (args := [.ref 44, .ref 9, .ref 22, .ref 32, .ref 40]) (rest := [.ref 44, .ref 8]) (r := none) (h1 := (ho (X, 50, 5600) km102 [(8, .inr (11, [.ref 9, .ref 12, .ref 14, .ref 22, .ref 32, .ref 36, .ref 40, .null, .null, .null, .null]))])) rfl ct8 ?_
  show Ev 7 160 129 [some (.ref 8)] [.ref 44, .ref 8] (ho (X, 50, 5600) km102 [(8, .inr (11, [.ref 9, .ref 12, .ref 14, .ref 22, .ref 32, .ref 36, .ref 40, .null, .null, .null, .null]))]) _
  refine Ev.hpf (a := 8) (c' := .inr (11, [.ref 9, .ref 12, .ref 14, .ref 22, .ref 32, .ref 36, .ref 40, .ref 44, .null, .null, .null])) (pc' := 132) (L' := [some (.ref 8)]) (st' := []) rfl ?_
  refine Ev.steps 1 (pc' := 133) (L' := [some (.ref 8)]) (st' := [.ref 8]) rfl ?_
  refine Ev.hno (n := 50) (c := .inr (7, [.null, .null, .null, .int 0])) (k := 4) (n' := 51) (z' := 5604) (pc' := 136) (L' := [some (.ref 8)]) (st' := [.ref 50, .ref 8]) rfl rfl rfl ?_
  refine Ev.steps 3 (pc' := 141) (L' := [some (.ref 8)]) (st' := [.ref 40, .ref 50, .ref 50, .ref 8]) rfl ?_
  refine Ev.call (y := 110) (args := [.ref 50, .ref 40]) (rest := [.ref 50, .ref 8]) (r := none) (h1 := (ho (X, 53, 5620) km105 [(8, .inr (11, [.ref 9, .ref 12, .ref 14, .ref 22, .ref 32, .ref 36, .ref 40, .ref 44, .null, .null, .null]))])) rfl ct110 ?_
  show Ev 7 160 144 [some (.ref 8)] [.ref 50, .ref 8] (ho (X, 53, 5620) km105 [(8, .inr (11, [.ref 9, .ref 12, .ref 14, .ref 22, .ref 32, .ref 36, .ref 40, .ref 44, .null, .null, .null]))]) _
  refine Ev.hpf (a := 8) (c' := .inr (11, [.ref 9, .ref 12, .ref 14, .ref 22, .ref 32, .ref 36, .ref 40, .ref 44, .ref 50, .null, .null])) (pc' := 147) (L' := [some (.ref 8)]) (st' := []) rfl ?_
  refine Ev.steps 1 (pc' := 148) (L' := [some (.ref 8)]) (st' := [.ref 8]) rfl ?_
  refine Ev.hno (n := 53) (c := .inr (9, [.null, .null, .null, .int 0, .int 0])) (k := 5) (n' := 54) (z' := 5625) (pc' := 151) (L' := [some (.ref 8)]) (st' := [.ref 53, .ref 8]) rfl rfl rfl ?_
  refine Ev.steps 7 (pc' := 164) (L' := [some (.ref 8)]) (st' := [.ref 44, .ref 40, .ref 9, .ref 53, .ref 53, .ref 8]) rfl ?_
  refine Ev.call (y := 128) (args := [.ref 53, .ref 9, .ref 40, .ref 44]) (rest := [.ref 53, .ref 8]) (r := none) (h1 := (ho (X, 54, 5625) km106 [(8, .inr (11, [.ref 9, .ref 12, .ref 14, .ref 22, .ref 32, .ref 36, .ref 40, .ref 44, .ref 50, .null, .null]))])) rfl ct128 ?_
  show Ev 7 160 167 [some (.ref 8)] [.ref 53, .ref 8] (ho (X, 54, 5625) km106 [(8, .inr (11, [.ref 9, .ref 12, .ref 14, .ref 22, .ref 32, .ref 36, .ref 40, .ref 44, .ref 50, .null, .null]))]) _
  refine Ev.hpf (a := 8) (c' := .inr (11, [.ref 9, .ref 12, .ref 14, .ref 22, .ref 32, .ref 36, .ref 40, .ref 44, .ref 50, .ref 53, .null])) (pc' := 170) (L' := [some (.ref 8)]) (st' := []) rfl ?_
  refine Ev.steps 1 (pc' := 171) (L' := [some (.ref 8)]) (st' := [.ref 8]) rfl ?_
  refine Ev.hno (n := 54) (c := .inr (8, [.null, .null, .null, .null, .int 0])) (k := 5) (n' := 55) (z' := 5630) (pc' := 174) (L' := [some (.ref 8)]) (st' := [.ref 54, .ref 8]) rfl rfl rfl ?_
  refine Ev.steps 1 (pc' := 175) (L' := [some (.ref 8)]) (st' := [.ref 54, .ref 54, .ref 8]) rfl ?_
  refine Ev.call (y := 117) (args := [.ref 54]) (rest := [.ref 54, .ref 8]) (r := none) (h1 := (ho (X, 59, 6158) km111 [(8, .inr (11, [.ref 9, .ref 12, .ref 14, .ref 22, .ref 32, .ref 36, .ref 40, .ref 44, .ref 50, .ref 53, .null]))])) rfl ct117 ?_
  show Ev 7 160 178 [some (.ref 8)] [.ref 54, .ref 8] (ho (X, 59, 6158) km111 [(8, .inr (11, [.ref 9, .ref 12, .ref 14, .ref 22, .ref 32, .ref 36, .ref 40, .ref 44, .ref 50, .ref 53, .null]))]) _
  refine Ev.hpf (a := 8) (c' := .inr (11, [.ref 9, .ref 12, .ref 14, .ref 22, .ref 32, .ref 36, .ref 40, .ref 44, .ref 50, .ref 53, .ref 54])) (pc' := 181) (L' := [some (.ref 8)]) (st' := []) rfl ?_
  refine Ev.hdn (a := 8) (g := fun _ => 0) (M' := km112) (by decide) rfl rfl rfl ?_
  refine Ev.steps 1 (pc' := 182) (L' := [some (.ref 8)]) (st' := [.ref 8]) rfl ?_
  exact H
