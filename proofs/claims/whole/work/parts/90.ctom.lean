/-! the constructor of the reference, by program (ctor.py) -/
def kn1 (M : Mem) : Mem := up M 60 (fun _ => 0)
def kn2 (M : Mem) : Mem := up (kn1 M) 61 (fun _ => 0)
def kn3 (M : Mem) : Mem := up (kn2 M) 62 (fun _ => 0)
def kn4 (M : Mem) : Mem := up (kn3 M) 63 (fun _ => 0)
def kn5 (M : Mem) : Mem := up (kn4 M) 64 (fun _ => 0)
def kn6 (M : Mem) : Mem := up (kn5 M) 65 (fun _ => 0)
def kn7 (M : Mem) : Mem := up (kn6 M) 66 (fun _ => 0)
def kn8 (M : Mem) : Mem := up (kn7 M) 67 (fun _ => 0)
def kn9 (M : Mem) : Mem := up (kn8 M) 68 (fun _ => 0)
def kn10 (M : Mem) : Mem := up (kn9 M) 69 (fun _ => 0)
def kn11 (M : Mem) : Mem := up (kn10 M) 70 (fun _ => 0)
def kn12 (M : Mem) : Mem := up (kn11 M) 71 (fun _ => 0)
def kn13 (M : Mem) : Mem := up (kn12 M) 72 (fun _ => 0)
def kn14 (M : Mem) : Mem := up (kn13 M) 73 (fun _ => 0)
def kn15 (M : Mem) : Mem := up (kn14 M) 74 (fun _ => 0)
def kn16 (M : Mem) : Mem := up (kn15 M) 75 (fun _ => 0)
def kn17 (M : Mem) : Mem := up (kn16 M) 76 (fun _ => 0)
def kn18 (M : Mem) : Mem := up (kn17 M) 77 (fun _ => 0)
def kn19 (M : Mem) : Mem := up (kn18 M) 78 (fun _ => 0)
def kn20 (M : Mem) : Mem := up (kn19 M) 79 (fun _ => 0)
def kn21 (M : Mem) : Mem := up (kn20 M) 80 (fun _ => 0)
def kn22 (M : Mem) : Mem := up (kn21 M) 81 (fun _ => 0)
def kn23 (M : Mem) : Mem := up (kn22 M) 82 (fun _ => 0)
def kn24 (M : Mem) : Mem := up (kn23 M) 83 (fun _ => 0)
def kn25 (M : Mem) : Mem := up (kn24 M) 84 (fun _ => 0)
def kn26 (M : Mem) : Mem := up (kn25 M) 85 (fun _ => 0)
def kn27 (M : Mem) : Mem := up (kn26 M) 86 (fun _ => 0)
def kn28 (M : Mem) : Mem := up (kn27 M) 87 (fun _ => 0)
def kn29 (M : Mem) : Mem := up (kn28 M) 88 (fun _ => 0)
def kn30 (M : Mem) : Mem := up (kn29 M) 89 (fun _ => 0)
def kn31 (M : Mem) : Mem := up (kn30 M) 59 (fun _ => 0)
def ko1 (M : Mem) : Mem := up M 73 (upd (M 73) (0 : Int32).toNatClampNeg 700)
def ko2 (M : Mem) : Mem := up (ko1 M) 74 (upd ((ko1 M) 74) (0 : Int32).toNatClampNeg 3)
def ko3 (M : Mem) : Mem := up (ko2 M) 75 (upd ((ko2 M) 75) (0 : Int32).toNatClampNeg 10)
def ko4 (M : Mem) : Mem := up (ko3 M) 73 (upd ((ko3 M) 73) (1 : Int32).toNatClampNeg 700)
def ko5 (M : Mem) : Mem := up (ko4 M) 74 (upd ((ko4 M) 74) (1 : Int32).toNatClampNeg 3)
def ko6 (M : Mem) : Mem := up (ko5 M) 75 (upd ((ko5 M) 75) (1 : Int32).toNatClampNeg 10)
def ko7 (M : Mem) : Mem := up (ko6 M) 73 (upd ((ko6 M) 73) (2 : Int32).toNatClampNeg 700)
def ko8 (M : Mem) : Mem := up (ko7 M) 74 (upd ((ko7 M) 74) (2 : Int32).toNatClampNeg 3)
def ko9 (M : Mem) : Mem := up (ko8 M) 75 (upd ((ko8 M) 75) (2 : Int32).toNatClampNeg 10)
def ko10 (M : Mem) : Mem := up (ko9 M) 73 (upd ((ko9 M) 73) (3 : Int32).toNatClampNeg 700)
def ko11 (M : Mem) : Mem := up (ko10 M) 74 (upd ((ko10 M) 74) (3 : Int32).toNatClampNeg 3)
def ko12 (M : Mem) : Mem := up (ko11 M) 75 (upd ((ko11 M) 75) (3 : Int32).toNatClampNeg 10)
def ko13 (M : Mem) : Mem := up (ko12 M) 73 (upd ((ko12 M) 73) (4 : Int32).toNatClampNeg 700)
def ko14 (M : Mem) : Mem := up (ko13 M) 74 (upd ((ko13 M) 74) (4 : Int32).toNatClampNeg 3)
def ko15 (M : Mem) : Mem := up (ko14 M) 75 (upd ((ko14 M) 75) (4 : Int32).toNatClampNeg 10)
def ko16 (M : Mem) : Mem := up (ko15 M) 73 (upd ((ko15 M) 73) (5 : Int32).toNatClampNeg 700)
def ko17 (M : Mem) : Mem := up (ko16 M) 74 (upd ((ko16 M) 74) (5 : Int32).toNatClampNeg 3)
def ko18 (M : Mem) : Mem := up (ko17 M) 75 (upd ((ko17 M) 75) (5 : Int32).toNatClampNeg 10)
def ko19 (M : Mem) : Mem := up (ko18 M) 73 (upd ((ko18 M) 73) (6 : Int32).toNatClampNeg 700)
def ko20 (M : Mem) : Mem := up (ko19 M) 74 (upd ((ko19 M) 74) (6 : Int32).toNatClampNeg 3)
def ko21 (M : Mem) : Mem := up (ko20 M) 75 (upd ((ko20 M) 75) (6 : Int32).toNatClampNeg 10)
def ko22 (M : Mem) : Mem := up (ko21 M) 73 (upd ((ko21 M) 73) (7 : Int32).toNatClampNeg 700)
def ko23 (M : Mem) : Mem := up (ko22 M) 74 (upd ((ko22 M) 74) (7 : Int32).toNatClampNeg 3)
def ko24 (M : Mem) : Mem := up (ko23 M) 75 (upd ((ko23 M) 75) (7 : Int32).toNatClampNeg 10)
def kp1 (M : Mem) : Mem := up M 59 (upd (M 59) 22 20)
def kp2 (M : Mem) : Mem := up (kp1 M) 59 (upd ((kp1 M) 59) 23 20)
def kp3 (M : Mem) : Mem := up (kp2 M) 59 (upd ((kp2 M) 59) 24 50)
theorem ct208a {X : Nat × (Nat → Int32)} {M : Mem} {res : Option Value × gw_H} (H : Ev 2 208 251 [some (.ref 59), none] [] (ho (X, 90, 11875) (kn31 M) []) res) : Ev 2 208 0 [some (.ref 59), none] [] (ho (X, 60, 6202) M [(59, .inr (12, [.int 0, .int 0, .null, .int 0, .int 0, .null, .null, .null, .null, .null, .null, .null, .null, .null, .null, .int 0, .null, .null, .null, .null, .null, .null, .int 0, .int 0, .int 0, .null, .null, .null, .null, .int 0, .null, .null, .null, .int 0, .int 0, .int 0, .int 0, .null, .null, .null, .int 0, .null, .null, .null]))]) res := by
  refine Ev.steps 4 (pc' := 7) (L' := [some (.ref 59), none]) (st' := [.int 40, .ref 59]) rfl ?_
  refine Ev.hna (n := 60) (g := fun _ => 0) (k := 40) (n' := 61) (z' := 6242) (M' := (kn1 M)) (pc' := 9) (L' := [some (.ref 59), none]) (st' := [.ref 60, .ref 59]) (by decide) rfl rfl rfl rfl rfl ?_
  refine Ev.hpf (a := 59) (c' := .inr (12, [.int 0, .int 0, .ref 60, .int 0, .int 0, .null, .null, .null, .null, .null, .null, .null, .null, .null, .null, .int 0, .null, .null, .null, .null, .null, .null, .int 0, .int 0, .int 0, .null, .null, .null, .null, .int 0, .null, .null, .null, .int 0, .int 0, .int 0, .int 0, .null, .null, .null, .int 0, .null, .null, .null])) (pc' := 12) (L' := [some (.ref 59), none]) (st' := []) rfl ?_
  refine Ev.steps 2 (pc' := 16) (L' := [some (.ref 59), none]) (st' := [.int 750, .ref 59]) rfl ?_
  refine Ev.hna (n := 61) (g := fun _ => 0) (k := 750) (n' := 62) (z' := 6992) (M' := (kn2 M)) (pc' := 18) (L' := [some (.ref 59), none]) (st' := [.ref 61, .ref 59]) (by decide) rfl rfl rfl rfl rfl ?_
  refine Ev.hpf (a := 59) (c' := .inr (12, [.int 0, .int 0, .ref 60, .int 0, .int 0, .ref 61, .null, .null, .null, .null, .null, .null, .null, .null, .null, .int 0, .null, .null, .null, .null, .null, .null, .int 0, .int 0, .int 0, .null, .null, .null, .null, .int 0, .null, .null, .null, .int 0, .int 0, .int 0, .int 0, .null, .null, .null, .int 0, .null, .null, .null])) (pc' := 21) (L' := [some (.ref 59), none]) (st' := []) rfl ?_
  refine Ev.steps 2 (pc' := 25) (L' := [some (.ref 59), none]) (st' := [.int 750, .ref 59]) rfl ?_
  refine Ev.hna (n := 62) (g := fun _ => 0) (k := 750) (n' := 63) (z' := 7742) (M' := (kn3 M)) (pc' := 27) (L' := [some (.ref 59), none]) (st' := [.ref 62, .ref 59]) (by decide) rfl rfl rfl rfl rfl ?_
  refine Ev.hpf (a := 59) (c' := .inr (12, [.int 0, .int 0, .ref 60, .int 0, .int 0, .ref 61, .ref 62, .null, .null, .null, .null, .null, .null, .null, .null, .int 0, .null, .null, .null, .null, .null, .null, .int 0, .int 0, .int 0, .null, .null, .null, .null, .int 0, .null, .null, .null, .int 0, .int 0, .int 0, .int 0, .null, .null, .null, .int 0, .null, .null, .null])) (pc' := 30) (L' := [some (.ref 59), none]) (st' := []) rfl ?_
  refine Ev.steps 2 (pc' := 33) (L' := [some (.ref 59), none]) (st' := [.int 30, .ref 59]) rfl ?_
  refine Ev.hna (n := 63) (g := fun _ => 0) (k := 30) (n' := 64) (z' := 7772) (M' := (kn4 M)) (pc' := 35) (L' := [some (.ref 59), none]) (st' := [.ref 63, .ref 59]) (by decide) rfl rfl rfl rfl rfl ?_
  refine Ev.hpf (a := 59) (c' := .inr (12, [.int 0, .int 0, .ref 60, .int 0, .int 0, .ref 61, .ref 62, .ref 63, .null, .null, .null, .null, .null, .null, .null, .int 0, .null, .null, .null, .null, .null, .null, .int 0, .int 0, .int 0, .null, .null, .null, .null, .int 0, .null, .null, .null, .int 0, .int 0, .int 0, .int 0, .null, .null, .null, .int 0, .null, .null, .null])) (pc' := 38) (L' := [some (.ref 59), none]) (st' := []) rfl ?_
  refine Ev.steps 2 (pc' := 41) (L' := [some (.ref 59), none]) (st' := [.int 30, .ref 59]) rfl ?_
  refine Ev.hna (n := 64) (g := fun _ => 0) (k := 30) (n' := 65) (z' := 7802) (M' := (kn5 M)) (pc' := 43) (L' := [some (.ref 59), none]) (st' := [.ref 64, .ref 59]) (by decide) rfl rfl rfl rfl rfl ?_
  refine Ev.hpf (a := 59) (c' := .inr (12, [.int 0, .int 0, .ref 60, .int 0, .int 0, .ref 61, .ref 62, .ref 63, .ref 64, .null, .null, .null, .null, .null, .null, .int 0, .null, .null, .null, .null, .null, .null, .int 0, .int 0, .int 0, .null, .null, .null, .null, .int 0, .null, .null, .null, .int 0, .int 0, .int 0, .int 0, .null, .null, .null, .int 0, .null, .null, .null])) (pc' := 46) (L' := [some (.ref 59), none]) (st' := []) rfl ?_
  refine Ev.steps 2 (pc' := 49) (L' := [some (.ref 59), none]) (st' := [.int 30, .ref 59]) rfl ?_
  refine Ev.hna (n := 65) (g := fun _ => 0) (k := 30) (n' := 66) (z' := 7832) (M' := (kn6 M)) (pc' := 51) (L' := [some (.ref 59), none]) (st' := [.ref 65, .ref 59]) (by decide) rfl rfl rfl rfl rfl ?_
  refine Ev.hpf (a := 59) (c' := .inr (12, [.int 0, .int 0, .ref 60, .int 0, .int 0, .ref 61, .ref 62, .ref 63, .ref 64, .ref 65, .null, .null, .null, .null, .null, .int 0, .null, .null, .null, .null, .null, .null, .int 0, .int 0, .int 0, .null, .null, .null, .null, .int 0, .null, .null, .null, .int 0, .int 0, .int 0, .int 0, .null, .null, .null, .int 0, .null, .null, .null])) (pc' := 54) (L' := [some (.ref 59), none]) (st' := []) rfl ?_
  refine Ev.steps 2 (pc' := 57) (L' := [some (.ref 59), none]) (st' := [.int 30, .ref 59]) rfl ?_
  refine Ev.hna (n := 66) (g := fun _ => 0) (k := 30) (n' := 67) (z' := 7862) (M' := (kn7 M)) (pc' := 59) (L' := [some (.ref 59), none]) (st' := [.ref 66, .ref 59]) (by decide) rfl rfl rfl rfl rfl ?_
  refine Ev.hpf (a := 59) (c' := .inr (12, [.int 0, .int 0, .ref 60, .int 0, .int 0, .ref 61, .ref 62, .ref 63, .ref 64, .ref 65, .ref 66, .null, .null, .null, .null, .int 0, .null, .null, .null, .null, .null, .null, .int 0, .int 0, .int 0, .null, .null, .null, .null, .int 0, .null, .null, .null, .int 0, .int 0, .int 0, .int 0, .null, .null, .null, .int 0, .null, .null, .null])) (pc' := 62) (L' := [some (.ref 59), none]) (st' := []) rfl ?_
  refine Ev.steps 2 (pc' := 66) (L' := [some (.ref 59), none]) (st' := [.int 162, .ref 59]) rfl ?_
  refine Ev.hna (n := 67) (g := fun _ => 0) (k := 162) (n' := 68) (z' := 8024) (M' := (kn8 M)) (pc' := 68) (L' := [some (.ref 59), none]) (st' := [.ref 67, .ref 59]) (by decide) rfl rfl rfl rfl rfl ?_
  refine Ev.hpf (a := 59) (c' := .inr (12, [.int 0, .int 0, .ref 60, .int 0, .int 0, .ref 61, .ref 62, .ref 63, .ref 64, .ref 65, .ref 66, .ref 67, .null, .null, .null, .int 0, .null, .null, .null, .null, .null, .null, .int 0, .int 0, .int 0, .null, .null, .null, .null, .int 0, .null, .null, .null, .int 0, .int 0, .int 0, .int 0, .null, .null, .null, .int 0, .null, .null, .null])) (pc' := 71) (L' := [some (.ref 59), none]) (st' := []) rfl ?_
  refine Ev.steps 2 (pc' := 74) (L' := [some (.ref 59), none]) (st' := [.int 81, .ref 59]) rfl ?_
  refine Ev.hna (n := 68) (g := fun _ => 0) (k := 81) (n' := 69) (z' := 8105) (M' := (kn9 M)) (pc' := 76) (L' := [some (.ref 59), none]) (st' := [.ref 68, .ref 59]) (by decide) rfl rfl rfl rfl rfl ?_
  refine Ev.hpf (a := 59) (c' := .inr (12, [.int 0, .int 0, .ref 60, .int 0, .int 0, .ref 61, .ref 62, .ref 63, .ref 64, .ref 65, .ref 66, .ref 67, .ref 68, .null, .null, .int 0, .null, .null, .null, .null, .null, .null, .int 0, .int 0, .int 0, .null, .null, .null, .null, .int 0, .null, .null, .null, .int 0, .int 0, .int 0, .int 0, .null, .null, .null, .int 0, .null, .null, .null])) (pc' := 79) (L' := [some (.ref 59), none]) (st' := []) rfl ?_
  refine Ev.steps 2 (pc' := 82) (L' := [some (.ref 59), none]) (st' := [.int 64, .ref 59]) rfl ?_
  refine Ev.hna (n := 69) (g := fun _ => 0) (k := 64) (n' := 70) (z' := 8169) (M' := (kn10 M)) (pc' := 84) (L' := [some (.ref 59), none]) (st' := [.ref 69, .ref 59]) (by decide) rfl rfl rfl rfl rfl ?_
  refine Ev.hpf (a := 59) (c' := .inr (12, [.int 0, .int 0, .ref 60, .int 0, .int 0, .ref 61, .ref 62, .ref 63, .ref 64, .ref 65, .ref 66, .ref 67, .ref 68, .ref 69, .null, .int 0, .null, .null, .null, .null, .null, .null, .int 0, .int 0, .int 0, .null, .null, .null, .null, .int 0, .null, .null, .null, .int 0, .int 0, .int 0, .int 0, .null, .null, .null, .int 0, .null, .null, .null])) (pc' := 87) (L' := [some (.ref 59), none]) (st' := []) rfl ?_
  refine Ev.steps 2 (pc' := 90) (L' := [some (.ref 59), none]) (st' := [.int 64, .ref 59]) rfl ?_
  refine Ev.hna (n := 70) (g := fun _ => 0) (k := 64) (n' := 71) (z' := 8233) (M' := (kn11 M)) (pc' := 92) (L' := [some (.ref 59), none]) (st' := [.ref 70, .ref 59]) (by decide) rfl rfl rfl rfl rfl ?_
  refine Ev.hpf (a := 59) (c' := .inr (12, [.int 0, .int 0, .ref 60, .int 0, .int 0, .ref 61, .ref 62, .ref 63, .ref 64, .ref 65, .ref 66, .ref 67, .ref 68, .ref 69, .ref 70, .int 0, .null, .null, .null, .null, .null, .null, .int 0, .int 0, .int 0, .null, .null, .null, .null, .int 0, .null, .null, .null, .int 0, .int 0, .int 0, .int 0, .null, .null, .null, .int 0, .null, .null, .null])) (pc' := 95) (L' := [some (.ref 59), none]) (st' := []) rfl ?_
  refine Ev.steps 2 (pc' := 98) (L' := [some (.ref 59), none]) (st' := [.int 100, .ref 59]) rfl ?_
  refine Ev.hna (n := 71) (g := fun _ => 0) (k := 100) (n' := 72) (z' := 8333) (M' := (kn12 M)) (pc' := 100) (L' := [some (.ref 59), none]) (st' := [.ref 71, .ref 59]) (by decide) rfl rfl rfl rfl rfl ?_
  refine Ev.hpf (a := 59) (c' := .inr (12, [.int 0, .int 0, .ref 60, .int 0, .int 0, .ref 61, .ref 62, .ref 63, .ref 64, .ref 65, .ref 66, .ref 67, .ref 68, .ref 69, .ref 70, .int 0, .ref 71, .null, .null, .null, .null, .null, .int 0, .int 0, .int 0, .null, .null, .null, .null, .int 0, .null, .null, .null, .int 0, .int 0, .int 0, .int 0, .null, .null, .null, .int 0, .null, .null, .null])) (pc' := 103) (L' := [some (.ref 59), none]) (st' := []) rfl ?_
  refine Ev.steps 2 (pc' := 106) (L' := [some (.ref 59), none]) (st' := [.int 10, .ref 59]) rfl ?_
  refine Ev.hna (n := 72) (g := fun _ => 0) (k := 10) (n' := 73) (z' := 8343) (M' := (kn13 M)) (pc' := 108) (L' := [some (.ref 59), none]) (st' := [.ref 72, .ref 59]) (by decide) rfl rfl rfl rfl rfl ?_
  refine Ev.hpf (a := 59) (c' := .inr (12, [.int 0, .int 0, .ref 60, .int 0, .int 0, .ref 61, .ref 62, .ref 63, .ref 64, .ref 65, .ref 66, .ref 67, .ref 68, .ref 69, .ref 70, .int 0, .ref 71, .ref 72, .null, .null, .null, .null, .int 0, .int 0, .int 0, .null, .null, .null, .null, .int 0, .null, .null, .null, .int 0, .int 0, .int 0, .int 0, .null, .null, .null, .int 0, .null, .null, .null])) (pc' := 111) (L' := [some (.ref 59), none]) (st' := []) rfl ?_
  refine Ev.steps 2 (pc' := 114) (L' := [some (.ref 59), none]) (st' := [.int 8, .ref 59]) rfl ?_
  refine Ev.hna (n := 73) (g := fun _ => 0) (k := 8) (n' := 74) (z' := 8351) (M' := (kn14 M)) (pc' := 116) (L' := [some (.ref 59), none]) (st' := [.ref 73, .ref 59]) (by decide) rfl rfl rfl rfl rfl ?_
  refine Ev.hpf (a := 59) (c' := .inr (12, [.int 0, .int 0, .ref 60, .int 0, .int 0, .ref 61, .ref 62, .ref 63, .ref 64, .ref 65, .ref 66, .ref 67, .ref 68, .ref 69, .ref 70, .int 0, .ref 71, .ref 72, .ref 73, .null, .null, .null, .int 0, .int 0, .int 0, .null, .null, .null, .null, .int 0, .null, .null, .null, .int 0, .int 0, .int 0, .int 0, .null, .null, .null, .int 0, .null, .null, .null])) (pc' := 119) (L' := [some (.ref 59), none]) (st' := []) rfl ?_
  refine Ev.steps 2 (pc' := 122) (L' := [some (.ref 59), none]) (st' := [.int 8, .ref 59]) rfl ?_
  refine Ev.hna (n := 74) (g := fun _ => 0) (k := 8) (n' := 75) (z' := 8359) (M' := (kn15 M)) (pc' := 124) (L' := [some (.ref 59), none]) (st' := [.ref 74, .ref 59]) (by decide) rfl rfl rfl rfl rfl ?_
  refine Ev.hpf (a := 59) (c' := .inr (12, [.int 0, .int 0, .ref 60, .int 0, .int 0, .ref 61, .ref 62, .ref 63, .ref 64, .ref 65, .ref 66, .ref 67, .ref 68, .ref 69, .ref 70, .int 0, .ref 71, .ref 72, .ref 73, .ref 74, .null, .null, .int 0, .int 0, .int 0, .null, .null, .null, .null, .int 0, .null, .null, .null, .int 0, .int 0, .int 0, .int 0, .null, .null, .null, .int 0, .null, .null, .null])) (pc' := 127) (L' := [some (.ref 59), none]) (st' := []) rfl ?_
  refine Ev.steps 2 (pc' := 130) (L' := [some (.ref 59), none]) (st' := [.int 8, .ref 59]) rfl ?_
  refine Ev.hna (n := 75) (g := fun _ => 0) (k := 8) (n' := 76) (z' := 8367) (M' := (kn16 M)) (pc' := 132) (L' := [some (.ref 59), none]) (st' := [.ref 75, .ref 59]) (by decide) rfl rfl rfl rfl rfl ?_
  refine Ev.hpf (a := 59) (c' := .inr (12, [.int 0, .int 0, .ref 60, .int 0, .int 0, .ref 61, .ref 62, .ref 63, .ref 64, .ref 65, .ref 66, .ref 67, .ref 68, .ref 69, .ref 70, .int 0, .ref 71, .ref 72, .ref 73, .ref 74, .ref 75, .null, .int 0, .int 0, .int 0, .null, .null, .null, .null, .int 0, .null, .null, .null, .int 0, .int 0, .int 0, .int 0, .null, .null, .null, .int 0, .null, .null, .null])) (pc' := 135) (L' := [some (.ref 59), none]) (st' := []) rfl ?_
  refine Ev.steps 2 (pc' := 138) (L' := [some (.ref 59), none]) (st' := [.int 64, .ref 59]) rfl ?_
  refine Ev.hna (n := 76) (g := fun _ => 0) (k := 64) (n' := 77) (z' := 8431) (M' := (kn17 M)) (pc' := 140) (L' := [some (.ref 59), none]) (st' := [.ref 76, .ref 59]) (by decide) rfl rfl rfl rfl rfl ?_
  refine Ev.hpf (a := 59) (c' := .inr (12, [.int 0, .int 0, .ref 60, .int 0, .int 0, .ref 61, .ref 62, .ref 63, .ref 64, .ref 65, .ref 66, .ref 67, .ref 68, .ref 69, .ref 70, .int 0, .ref 71, .ref 72, .ref 73, .ref 74, .ref 75, .ref 76, .int 0, .int 0, .int 0, .null, .null, .null, .null, .int 0, .null, .null, .null, .int 0, .int 0, .int 0, .int 0, .null, .null, .null, .int 0, .null, .null, .null])) (pc' := 143) (L' := [some (.ref 59), none]) (st' := []) rfl ?_
  refine Ev.steps 2 (pc' := 146) (L' := [some (.ref 59), none]) (st' := [.int 64, .ref 59]) rfl ?_
  refine Ev.hna (n := 77) (g := fun _ => 0) (k := 64) (n' := 78) (z' := 8495) (M' := (kn18 M)) (pc' := 148) (L' := [some (.ref 59), none]) (st' := [.ref 77, .ref 59]) (by decide) rfl rfl rfl rfl rfl ?_
  refine Ev.hpf (a := 59) (c' := .inr (12, [.int 0, .int 0, .ref 60, .int 0, .int 0, .ref 61, .ref 62, .ref 63, .ref 64, .ref 65, .ref 66, .ref 67, .ref 68, .ref 69, .ref 70, .int 0, .ref 71, .ref 72, .ref 73, .ref 74, .ref 75, .ref 76, .int 0, .int 0, .int 0, .ref 77, .null, .null, .null, .int 0, .null, .null, .null, .int 0, .int 0, .int 0, .int 0, .null, .null, .null, .int 0, .null, .null, .null])) (pc' := 151) (L' := [some (.ref 59), none]) (st' := []) rfl ?_
  refine Ev.steps 2 (pc' := 155) (L' := [some (.ref 59), none]) (st' := [.int 768, .ref 59]) rfl ?_
  refine Ev.hna (n := 78) (g := fun _ => 0) (k := 768) (n' := 79) (z' := 9263) (M' := (kn19 M)) (pc' := 157) (L' := [some (.ref 59), none]) (st' := [.ref 78, .ref 59]) (by decide) rfl rfl rfl rfl rfl ?_
  refine Ev.hpf (a := 59) (c' := .inr (12, [.int 0, .int 0, .ref 60, .int 0, .int 0, .ref 61, .ref 62, .ref 63, .ref 64, .ref 65, .ref 66, .ref 67, .ref 68, .ref 69, .ref 70, .int 0, .ref 71, .ref 72, .ref 73, .ref 74, .ref 75, .ref 76, .int 0, .int 0, .int 0, .ref 77, .ref 78, .null, .null, .int 0, .null, .null, .null, .int 0, .int 0, .int 0, .int 0, .null, .null, .null, .int 0, .null, .null, .null])) (pc' := 160) (L' := [some (.ref 59), none]) (st' := []) rfl ?_
  refine Ev.steps 2 (pc' := 164) (L' := [some (.ref 59), none]) (st' := [.int 768, .ref 59]) rfl ?_
  refine Ev.hna (n := 79) (g := fun _ => 0) (k := 768) (n' := 80) (z' := 10031) (M' := (kn20 M)) (pc' := 166) (L' := [some (.ref 59), none]) (st' := [.ref 79, .ref 59]) (by decide) rfl rfl rfl rfl rfl ?_
  refine Ev.hpf (a := 59) (c' := .inr (12, [.int 0, .int 0, .ref 60, .int 0, .int 0, .ref 61, .ref 62, .ref 63, .ref 64, .ref 65, .ref 66, .ref 67, .ref 68, .ref 69, .ref 70, .int 0, .ref 71, .ref 72, .ref 73, .ref 74, .ref 75, .ref 76, .int 0, .int 0, .int 0, .ref 77, .ref 78, .ref 79, .null, .int 0, .null, .null, .null, .int 0, .int 0, .int 0, .int 0, .null, .null, .null, .int 0, .null, .null, .null])) (pc' := 169) (L' := [some (.ref 59), none]) (st' := []) rfl ?_
  refine Ev.steps 2 (pc' := 173) (L' := [some (.ref 59), none]) (st' := [.int 768, .ref 59]) rfl ?_
  refine Ev.hna (n := 80) (g := fun _ => 0) (k := 768) (n' := 81) (z' := 10799) (M' := (kn21 M)) (pc' := 175) (L' := [some (.ref 59), none]) (st' := [.ref 80, .ref 59]) (by decide) rfl rfl rfl rfl rfl ?_
  refine Ev.hpf (a := 59) (c' := .inr (12, [.int 0, .int 0, .ref 60, .int 0, .int 0, .ref 61, .ref 62, .ref 63, .ref 64, .ref 65, .ref 66, .ref 67, .ref 68, .ref 69, .ref 70, .int 0, .ref 71, .ref 72, .ref 73, .ref 74, .ref 75, .ref 76, .int 0, .int 0, .int 0, .ref 77, .ref 78, .ref 79, .ref 80, .int 0, .null, .null, .null, .int 0, .int 0, .int 0, .int 0, .null, .null, .null, .int 0, .null, .null, .null])) (pc' := 178) (L' := [some (.ref 59), none]) (st' := []) rfl ?_
  refine Ev.steps 2 (pc' := 181) (L' := [some (.ref 59), none]) (st' := [.int 64, .ref 59]) rfl ?_
  refine Ev.hna (n := 81) (g := fun _ => 0) (k := 64) (n' := 82) (z' := 10863) (M' := (kn22 M)) (pc' := 183) (L' := [some (.ref 59), none]) (st' := [.ref 81, .ref 59]) (by decide) rfl rfl rfl rfl rfl ?_
  refine Ev.hpf (a := 59) (c' := .inr (12, [.int 0, .int 0, .ref 60, .int 0, .int 0, .ref 61, .ref 62, .ref 63, .ref 64, .ref 65, .ref 66, .ref 67, .ref 68, .ref 69, .ref 70, .int 0, .ref 71, .ref 72, .ref 73, .ref 74, .ref 75, .ref 76, .int 0, .int 0, .int 0, .ref 77, .ref 78, .ref 79, .ref 80, .int 0, .ref 81, .null, .null, .int 0, .int 0, .int 0, .int 0, .null, .null, .null, .int 0, .null, .null, .null])) (pc' := 186) (L' := [some (.ref 59), none]) (st' := []) rfl ?_
  refine Ev.steps 2 (pc' := 189) (L' := [some (.ref 59), none]) (st' := [.int 64, .ref 59]) rfl ?_
  refine Ev.hna (n := 82) (g := fun _ => 0) (k := 64) (n' := 83) (z' := 10927) (M' := (kn23 M)) (pc' := 191) (L' := [some (.ref 59), none]) (st' := [.ref 82, .ref 59]) (by decide) rfl rfl rfl rfl rfl ?_
  refine Ev.hpf (a := 59) (c' := .inr (12, [.int 0, .int 0, .ref 60, .int 0, .int 0, .ref 61, .ref 62, .ref 63, .ref 64, .ref 65, .ref 66, .ref 67, .ref 68, .ref 69, .ref 70, .int 0, .ref 71, .ref 72, .ref 73, .ref 74, .ref 75, .ref 76, .int 0, .int 0, .int 0, .ref 77, .ref 78, .ref 79, .ref 80, .int 0, .ref 81, .ref 82, .null, .int 0, .int 0, .int 0, .int 0, .null, .null, .null, .int 0, .null, .null, .null])) (pc' := 194) (L' := [some (.ref 59), none]) (st' := []) rfl ?_
  refine Ev.steps 2 (pc' := 198) (L' := [some (.ref 59), none]) (st' := [.int 900, .ref 59]) rfl ?_
  refine Ev.hna (n := 83) (g := fun _ => 0) (k := 900) (n' := 84) (z' := 11827) (M' := (kn24 M)) (pc' := 200) (L' := [some (.ref 59), none]) (st' := [.ref 83, .ref 59]) (by decide) rfl rfl rfl rfl rfl ?_
  refine Ev.hpf (a := 59) (c' := .inr (12, [.int 0, .int 0, .ref 60, .int 0, .int 0, .ref 61, .ref 62, .ref 63, .ref 64, .ref 65, .ref 66, .ref 67, .ref 68, .ref 69, .ref 70, .int 0, .ref 71, .ref 72, .ref 73, .ref 74, .ref 75, .ref 76, .int 0, .int 0, .int 0, .ref 77, .ref 78, .ref 79, .ref 80, .int 0, .ref 81, .ref 82, .ref 83, .int 0, .int 0, .int 0, .int 0, .null, .null, .null, .int 0, .null, .null, .null])) (pc' := 203) (L' := [some (.ref 59), none]) (st' := []) rfl ?_
  refine Ev.steps 2 (pc' := 206) (L' := [some (.ref 59), none]) (st' := [.int 8, .ref 59]) rfl ?_
  refine Ev.hna (n := 84) (g := fun _ => 0) (k := 8) (n' := 85) (z' := 11835) (M' := (kn25 M)) (pc' := 208) (L' := [some (.ref 59), none]) (st' := [.ref 84, .ref 59]) (by decide) rfl rfl rfl rfl rfl ?_
  refine Ev.hpf (a := 59) (c' := .inr (12, [.int 0, .int 0, .ref 60, .int 0, .int 0, .ref 61, .ref 62, .ref 63, .ref 64, .ref 65, .ref 66, .ref 67, .ref 68, .ref 69, .ref 70, .int 0, .ref 71, .ref 72, .ref 73, .ref 74, .ref 75, .ref 76, .int 0, .int 0, .int 0, .ref 77, .ref 78, .ref 79, .ref 80, .int 0, .ref 81, .ref 82, .ref 83, .int 0, .int 0, .int 0, .int 0, .ref 84, .null, .null, .int 0, .null, .null, .null])) (pc' := 211) (L' := [some (.ref 59), none]) (st' := []) rfl ?_
  refine Ev.steps 2 (pc' := 214) (L' := [some (.ref 59), none]) (st' := [.int 8, .ref 59]) rfl ?_
  refine Ev.hna (n := 85) (g := fun _ => 0) (k := 8) (n' := 86) (z' := 11843) (M' := (kn26 M)) (pc' := 216) (L' := [some (.ref 59), none]) (st' := [.ref 85, .ref 59]) (by decide) rfl rfl rfl rfl rfl ?_
  refine Ev.hpf (a := 59) (c' := .inr (12, [.int 0, .int 0, .ref 60, .int 0, .int 0, .ref 61, .ref 62, .ref 63, .ref 64, .ref 65, .ref 66, .ref 67, .ref 68, .ref 69, .ref 70, .int 0, .ref 71, .ref 72, .ref 73, .ref 74, .ref 75, .ref 76, .int 0, .int 0, .int 0, .ref 77, .ref 78, .ref 79, .ref 80, .int 0, .ref 81, .ref 82, .ref 83, .int 0, .int 0, .int 0, .int 0, .ref 84, .ref 85, .null, .int 0, .null, .null, .null])) (pc' := 219) (L' := [some (.ref 59), none]) (st' := []) rfl ?_
  refine Ev.steps 2 (pc' := 222) (L' := [some (.ref 59), none]) (st' := [.int 8, .ref 59]) rfl ?_
  refine Ev.hna (n := 86) (g := fun _ => 0) (k := 8) (n' := 87) (z' := 11851) (M' := (kn27 M)) (pc' := 224) (L' := [some (.ref 59), none]) (st' := [.ref 86, .ref 59]) (by decide) rfl rfl rfl rfl rfl ?_
  refine Ev.hpf (a := 59) (c' := .inr (12, [.int 0, .int 0, .ref 60, .int 0, .int 0, .ref 61, .ref 62, .ref 63, .ref 64, .ref 65, .ref 66, .ref 67, .ref 68, .ref 69, .ref 70, .int 0, .ref 71, .ref 72, .ref 73, .ref 74, .ref 75, .ref 76, .int 0, .int 0, .int 0, .ref 77, .ref 78, .ref 79, .ref 80, .int 0, .ref 81, .ref 82, .ref 83, .int 0, .int 0, .int 0, .int 0, .ref 84, .ref 85, .ref 86, .int 0, .null, .null, .null])) (pc' := 227) (L' := [some (.ref 59), none]) (st' := []) rfl ?_
  refine Ev.steps 2 (pc' := 230) (L' := [some (.ref 59), none]) (st' := [.int 8, .ref 59]) rfl ?_
  refine Ev.hna (n := 87) (g := fun _ => 0) (k := 8) (n' := 88) (z' := 11859) (M' := (kn28 M)) (pc' := 232) (L' := [some (.ref 59), none]) (st' := [.ref 87, .ref 59]) (by decide) rfl rfl rfl rfl rfl ?_
  refine Ev.hpf (a := 59) (c' := .inr (12, [.int 0, .int 0, .ref 60, .int 0, .int 0, .ref 61, .ref 62, .ref 63, .ref 64, .ref 65, .ref 66, .ref 67, .ref 68, .ref 69, .ref 70, .int 0, .ref 71, .ref 72, .ref 73, .ref 74, .ref 75, .ref 76, .int 0, .int 0, .int 0, .ref 77, .ref 78, .ref 79, .ref 80, .int 0, .ref 81, .ref 82, .ref 83, .int 0, .int 0, .int 0, .int 0, .ref 84, .ref 85, .ref 86, .int 0, .ref 87, .null, .null])) (pc' := 235) (L' := [some (.ref 59), none]) (st' := []) rfl ?_
  refine Ev.steps 2 (pc' := 238) (L' := [some (.ref 59), none]) (st' := [.int 8, .ref 59]) rfl ?_
  refine Ev.hna (n := 88) (g := fun _ => 0) (k := 8) (n' := 89) (z' := 11867) (M' := (kn29 M)) (pc' := 240) (L' := [some (.ref 59), none]) (st' := [.ref 88, .ref 59]) (by decide) rfl rfl rfl rfl rfl ?_
  refine Ev.hpf (a := 59) (c' := .inr (12, [.int 0, .int 0, .ref 60, .int 0, .int 0, .ref 61, .ref 62, .ref 63, .ref 64, .ref 65, .ref 66, .ref 67, .ref 68, .ref 69, .ref 70, .int 0, .ref 71, .ref 72, .ref 73, .ref 74, .ref 75, .ref 76, .int 0, .int 0, .int 0, .ref 77, .ref 78, .ref 79, .ref 80, .int 0, .ref 81, .ref 82, .ref 83, .int 0, .int 0, .int 0, .int 0, .ref 84, .ref 85, .ref 86, .int 0, .ref 87, .ref 88, .null])) (pc' := 243) (L' := [some (.ref 59), none]) (st' := []) rfl ?_
  refine Ev.steps 2 (pc' := 246) (L' := [some (.ref 59), none]) (st' := [.int 8, .ref 59]) rfl ?_
  refine Ev.hna (n := 89) (g := fun _ => 0) (k := 8) (n' := 90) (z' := 11875) (M' := (kn30 M)) (pc' := 248) (L' := [some (.ref 59), none]) (st' := [.ref 89, .ref 59]) (by decide) rfl rfl rfl rfl rfl ?_
  refine Ev.hpf (a := 59) (c' := .inr (12, [.int 0, .int 0, .ref 60, .int 0, .int 0, .ref 61, .ref 62, .ref 63, .ref 64, .ref 65, .ref 66, .ref 67, .ref 68, .ref 69, .ref 70, .int 0, .ref 71, .ref 72, .ref 73, .ref 74, .ref 75, .ref 76, .int 0, .int 0, .int 0, .ref 77, .ref 78, .ref 79, .ref 80, .int 0, .ref 81, .ref 82, .ref 83, .int 0, .int 0, .int 0, .int 0, .ref 84, .ref 85, .ref 86, .int 0, .ref 87, .ref 88, .ref 89])) (pc' := 251) (L' := [some (.ref 59), none]) (st' := []) rfl ?_
  refine Ev.hdn (a := 59) (g := fun _ => 0) (M' := (kn31 M)) (by decide) rfl rfl rfl ?_
  exact H
theorem ct208b {X : Nat × (Nat → Int32)} {M : Mem} {res : Option Value × gw_H} (H : Ev 2 208 289 [some (.ref 59), some (.int 8)] [] (ho (X, 90, 11875) (ko24 M) []) res) : Ev 2 208 251 [some (.ref 59), none] [] (ho (X, 90, 11875) M []) res := by
  refine Ev.steps 4 (pc' := 256) (L' := [some (.ref 59), some (.int 0)]) (st' := [.int 8, .int 0]) rfl ?_
  refine Ev.sw (p := if (8 : Int32) ≤ 0 then 289 else 259) (pc' := 259) (L' := [some (.ref 59), some (.int 0)]) (st' := []) rfl (by decide +kernel) ?_
  refine Ev.steps 4 (pc' := 267) (L' := [some (.ref 59), some (.int 0)]) (st' := [.int 700, .int 0, .ref 73]) rfl ?_
  refine Ev.hwr (m := 208) (pc := 267) (L := [some (.ref 59), some (.int 0)]) (st := [.int 700, .int 0, .ref 73]) (E := (X, 90, 11875)) (M := M) (ov := []) (a := 73) (g := upd (M 73) (0 : Int32).toNatClampNeg 700) (i := 0) (n := 8) (M' := (ko1 M)) (pc' := 268) (L' := [some (.ref 59), some (.int 0)]) (st' := []) (by decide) rfl (show ¬ ((0 : Int32) < 0 ∨ 8 ≤ (0 : Int32).toNatClampNeg) by decide +kernel) rfl rfl ?_
  refine Ev.steps 4 (pc' := 274) (L' := [some (.ref 59), some (.int 0)]) (st' := [.int 3, .int 0, .ref 74]) rfl ?_
  refine Ev.hwr (m := 208) (pc := 274) (L := [some (.ref 59), some (.int 0)]) (st := [.int 3, .int 0, .ref 74]) (E := (X, 90, 11875)) (M := (ko1 M)) (ov := []) (a := 74) (g := upd ((ko1 M) 74) (0 : Int32).toNatClampNeg 3) (i := 0) (n := 8) (M' := (ko2 M)) (pc' := 275) (L' := [some (.ref 59), some (.int 0)]) (st' := []) (by decide) rfl (show ¬ ((0 : Int32) < 0 ∨ 8 ≤ (0 : Int32).toNatClampNeg) by decide +kernel) rfl rfl ?_
  refine Ev.steps 4 (pc' := 282) (L' := [some (.ref 59), some (.int 0)]) (st' := [.int 10, .int 0, .ref 75]) rfl ?_
  refine Ev.hwr (m := 208) (pc := 282) (L := [some (.ref 59), some (.int 0)]) (st := [.int 10, .int 0, .ref 75]) (E := (X, 90, 11875)) (M := (ko2 M)) (ov := []) (a := 75) (g := upd ((ko2 M) 75) (0 : Int32).toNatClampNeg 10) (i := 0) (n := 8) (M' := (ko3 M)) (pc' := 283) (L' := [some (.ref 59), some (.int 0)]) (st' := []) (by decide) rfl (show ¬ ((0 : Int32) < 0 ∨ 8 ≤ (0 : Int32).toNatClampNeg) by decide +kernel) rfl rfl ?_
  refine Ev.steps 4 (pc' := 256) (L' := [some (.ref 59), some (.int 1)]) (st' := [.int 8, .int 1]) rfl ?_
  refine Ev.sw (p := if (8 : Int32) ≤ 1 then 289 else 259) (pc' := 259) (L' := [some (.ref 59), some (.int 1)]) (st' := []) rfl (by decide +kernel) ?_
  refine Ev.steps 4 (pc' := 267) (L' := [some (.ref 59), some (.int 1)]) (st' := [.int 700, .int 1, .ref 73]) rfl ?_
  refine Ev.hwr (m := 208) (pc := 267) (L := [some (.ref 59), some (.int 1)]) (st := [.int 700, .int 1, .ref 73]) (E := (X, 90, 11875)) (M := (ko3 M)) (ov := []) (a := 73) (g := upd ((ko3 M) 73) (1 : Int32).toNatClampNeg 700) (i := 1) (n := 8) (M' := (ko4 M)) (pc' := 268) (L' := [some (.ref 59), some (.int 1)]) (st' := []) (by decide) rfl (show ¬ ((1 : Int32) < 0 ∨ 8 ≤ (1 : Int32).toNatClampNeg) by decide +kernel) rfl rfl ?_
  refine Ev.steps 4 (pc' := 274) (L' := [some (.ref 59), some (.int 1)]) (st' := [.int 3, .int 1, .ref 74]) rfl ?_
  refine Ev.hwr (m := 208) (pc := 274) (L := [some (.ref 59), some (.int 1)]) (st := [.int 3, .int 1, .ref 74]) (E := (X, 90, 11875)) (M := (ko4 M)) (ov := []) (a := 74) (g := upd ((ko4 M) 74) (1 : Int32).toNatClampNeg 3) (i := 1) (n := 8) (M' := (ko5 M)) (pc' := 275) (L' := [some (.ref 59), some (.int 1)]) (st' := []) (by decide) rfl (show ¬ ((1 : Int32) < 0 ∨ 8 ≤ (1 : Int32).toNatClampNeg) by decide +kernel) rfl rfl ?_
  refine Ev.steps 4 (pc' := 282) (L' := [some (.ref 59), some (.int 1)]) (st' := [.int 10, .int 1, .ref 75]) rfl ?_
  refine Ev.hwr (m := 208) (pc := 282) (L := [some (.ref 59), some (.int 1)]) (st := [.int 10, .int 1, .ref 75]) (E := (X, 90, 11875)) (M := (ko5 M)) (ov := []) (a := 75) (g := upd ((ko5 M) 75) (1 : Int32).toNatClampNeg 10) (i := 1) (n := 8) (M' := (ko6 M)) (pc' := 283) (L' := [some (.ref 59), some (.int 1)]) (st' := []) (by decide) rfl (show ¬ ((1 : Int32) < 0 ∨ 8 ≤ (1 : Int32).toNatClampNeg) by decide +kernel) rfl rfl ?_
  refine Ev.steps 4 (pc' := 256) (L' := [some (.ref 59), some (.int 2)]) (st' := [.int 8, .int 2]) rfl ?_
  refine Ev.sw (p := if (8 : Int32) ≤ 2 then 289 else 259) (pc' := 259) (L' := [some (.ref 59), some (.int 2)]) (st' := []) rfl (by decide +kernel) ?_
  refine Ev.steps 4 (pc' := 267) (L' := [some (.ref 59), some (.int 2)]) (st' := [.int 700, .int 2, .ref 73]) rfl ?_
  refine Ev.hwr (m := 208) (pc := 267) (L := [some (.ref 59), some (.int 2)]) (st := [.int 700, .int 2, .ref 73]) (E := (X, 90, 11875)) (M := (ko6 M)) (ov := []) (a := 73) (g := upd ((ko6 M) 73) (2 : Int32).toNatClampNeg 700) (i := 2) (n := 8) (M' := (ko7 M)) (pc' := 268) (L' := [some (.ref 59), some (.int 2)]) (st' := []) (by decide) rfl (show ¬ ((2 : Int32) < 0 ∨ 8 ≤ (2 : Int32).toNatClampNeg) by decide +kernel) rfl rfl ?_
  refine Ev.steps 4 (pc' := 274) (L' := [some (.ref 59), some (.int 2)]) (st' := [.int 3, .int 2, .ref 74]) rfl ?_
  refine Ev.hwr (m := 208) (pc := 274) (L := [some (.ref 59), some (.int 2)]) (st := [.int 3, .int 2, .ref 74]) (E := (X, 90, 11875)) (M := (ko7 M)) (ov := []) (a := 74) (g := upd ((ko7 M) 74) (2 : Int32).toNatClampNeg 3) (i := 2) (n := 8) (M' := (ko8 M)) (pc' := 275) (L' := [some (.ref 59), some (.int 2)]) (st' := []) (by decide) rfl (show ¬ ((2 : Int32) < 0 ∨ 8 ≤ (2 : Int32).toNatClampNeg) by decide +kernel) rfl rfl ?_
  refine Ev.steps 4 (pc' := 282) (L' := [some (.ref 59), some (.int 2)]) (st' := [.int 10, .int 2, .ref 75]) rfl ?_
  refine Ev.hwr (m := 208) (pc := 282) (L := [some (.ref 59), some (.int 2)]) (st := [.int 10, .int 2, .ref 75]) (E := (X, 90, 11875)) (M := (ko8 M)) (ov := []) (a := 75) (g := upd ((ko8 M) 75) (2 : Int32).toNatClampNeg 10) (i := 2) (n := 8) (M' := (ko9 M)) (pc' := 283) (L' := [some (.ref 59), some (.int 2)]) (st' := []) (by decide) rfl (show ¬ ((2 : Int32) < 0 ∨ 8 ≤ (2 : Int32).toNatClampNeg) by decide +kernel) rfl rfl ?_
  refine Ev.steps 4 (pc' := 256) (L' := [some (.ref 59), some (.int 3)]) (st' := [.int 8, .int 3]) rfl ?_
  refine Ev.sw (p := if (8 : Int32) ≤ 3 then 289 else 259) (pc' := 259) (L' := [some (.ref 59), some (.int 3)]) (st' := []) rfl (by decide +kernel) ?_
  refine Ev.steps 4 (pc' := 267) (L' := [some (.ref 59), some (.int 3)]) (st' := [.int 700, .int 3, .ref 73]) rfl ?_
  refine Ev.hwr (m := 208) (pc := 267) (L := [some (.ref 59), some (.int 3)]) (st := [.int 700, .int 3, .ref 73]) (E := (X, 90, 11875)) (M := (ko9 M)) (ov := []) (a := 73) (g := upd ((ko9 M) 73) (3 : Int32).toNatClampNeg 700) (i := 3) (n := 8) (M' := (ko10 M)) (pc' := 268) (L' := [some (.ref 59), some (.int 3)]) (st' := []) (by decide) rfl (show ¬ ((3 : Int32) < 0 ∨ 8 ≤ (3 : Int32).toNatClampNeg) by decide +kernel) rfl rfl ?_
  refine Ev.steps 4 (pc' := 274) (L' := [some (.ref 59), some (.int 3)]) (st' := [.int 3, .int 3, .ref 74]) rfl ?_
  refine Ev.hwr (m := 208) (pc := 274) (L := [some (.ref 59), some (.int 3)]) (st := [.int 3, .int 3, .ref 74]) (E := (X, 90, 11875)) (M := (ko10 M)) (ov := []) (a := 74) (g := upd ((ko10 M) 74) (3 : Int32).toNatClampNeg 3) (i := 3) (n := 8) (M' := (ko11 M)) (pc' := 275) (L' := [some (.ref 59), some (.int 3)]) (st' := []) (by decide) rfl (show ¬ ((3 : Int32) < 0 ∨ 8 ≤ (3 : Int32).toNatClampNeg) by decide +kernel) rfl rfl ?_
  refine Ev.steps 4 (pc' := 282) (L' := [some (.ref 59), some (.int 3)]) (st' := [.int 10, .int 3, .ref 75]) rfl ?_
  refine Ev.hwr (m := 208) (pc := 282) (L := [some (.ref 59), some (.int 3)]) (st := [.int 10, .int 3, .ref 75]) (E := (X, 90, 11875)) (M := (ko11 M)) (ov := []) (a := 75) (g := upd ((ko11 M) 75) (3 : Int32).toNatClampNeg 10) (i := 3) (n := 8) (M' := (ko12 M)) (pc' := 283) (L' := [some (.ref 59), some (.int 3)]) (st' := []) (by decide) rfl (show ¬ ((3 : Int32) < 0 ∨ 8 ≤ (3 : Int32).toNatClampNeg) by decide +kernel) rfl rfl ?_
  refine Ev.steps 4 (pc' := 256) (L' := [some (.ref 59), some (.int 4)]) (st' := [.int 8, .int 4]) rfl ?_
  refine Ev.sw (p := if (8 : Int32) ≤ 4 then 289 else 259) (pc' := 259) (L' := [some (.ref 59), some (.int 4)]) (st' := []) rfl (by decide +kernel) ?_
  refine Ev.steps 4 (pc' := 267) (L' := [some (.ref 59), some (.int 4)]) (st' := [.int 700, .int 4, .ref 73]) rfl ?_
  refine Ev.hwr (m := 208) (pc := 267) (L := [some (.ref 59), some (.int 4)]) (st := [.int 700, .int 4, .ref 73]) (E := (X, 90, 11875)) (M := (ko12 M)) (ov := []) (a := 73) (g := upd ((ko12 M) 73) (4 : Int32).toNatClampNeg 700) (i := 4) (n := 8) (M' := (ko13 M)) (pc' := 268) (L' := [some (.ref 59), some (.int 4)]) (st' := []) (by decide) rfl (show ¬ ((4 : Int32) < 0 ∨ 8 ≤ (4 : Int32).toNatClampNeg) by decide +kernel) rfl rfl ?_
  refine Ev.steps 4 (pc' := 274) (L' := [some (.ref 59), some (.int 4)]) (st' := [.int 3, .int 4, .ref 74]) rfl ?_
  refine Ev.hwr (m := 208) (pc := 274) (L := [some (.ref 59), some (.int 4)]) (st := [.int 3, .int 4, .ref 74]) (E := (X, 90, 11875)) (M := (ko13 M)) (ov := []) (a := 74) (g := upd ((ko13 M) 74) (4 : Int32).toNatClampNeg 3) (i := 4) (n := 8) (M' := (ko14 M)) (pc' := 275) (L' := [some (.ref 59), some (.int 4)]) (st' := []) (by decide) rfl (show ¬ ((4 : Int32) < 0 ∨ 8 ≤ (4 : Int32).toNatClampNeg) by decide +kernel) rfl rfl ?_
  refine Ev.steps 4 (pc' := 282) (L' := [some (.ref 59), some (.int 4)]) (st' := [.int 10, .int 4, .ref 75]) rfl ?_
  refine Ev.hwr (m := 208) (pc := 282) (L := [some (.ref 59), some (.int 4)]) (st := [.int 10, .int 4, .ref 75]) (E := (X, 90, 11875)) (M := (ko14 M)) (ov := []) (a := 75) (g := upd ((ko14 M) 75) (4 : Int32).toNatClampNeg 10) (i := 4) (n := 8) (M' := (ko15 M)) (pc' := 283) (L' := [some (.ref 59), some (.int 4)]) (st' := []) (by decide) rfl (show ¬ ((4 : Int32) < 0 ∨ 8 ≤ (4 : Int32).toNatClampNeg) by decide +kernel) rfl rfl ?_
  refine Ev.steps 4 (pc' := 256) (L' := [some (.ref 59), some (.int 5)]) (st' := [.int 8, .int 5]) rfl ?_
  refine Ev.sw (p := if (8 : Int32) ≤ 5 then 289 else 259) (pc' := 259) (L' := [some (.ref 59), some (.int 5)]) (st' := []) rfl (by decide +kernel) ?_
  refine Ev.steps 4 (pc' := 267) (L' := [some (.ref 59), some (.int 5)]) (st' := [.int 700, .int 5, .ref 73]) rfl ?_
  refine Ev.hwr (m := 208) (pc := 267) (L := [some (.ref 59), some (.int 5)]) (st := [.int 700, .int 5, .ref 73]) (E := (X, 90, 11875)) (M := (ko15 M)) (ov := []) (a := 73) (g := upd ((ko15 M) 73) (5 : Int32).toNatClampNeg 700) (i := 5) (n := 8) (M' := (ko16 M)) (pc' := 268) (L' := [some (.ref 59), some (.int 5)]) (st' := []) (by decide) rfl (show ¬ ((5 : Int32) < 0 ∨ 8 ≤ (5 : Int32).toNatClampNeg) by decide +kernel) rfl rfl ?_
  refine Ev.steps 4 (pc' := 274) (L' := [some (.ref 59), some (.int 5)]) (st' := [.int 3, .int 5, .ref 74]) rfl ?_
  refine Ev.hwr (m := 208) (pc := 274) (L := [some (.ref 59), some (.int 5)]) (st := [.int 3, .int 5, .ref 74]) (E := (X, 90, 11875)) (M := (ko16 M)) (ov := []) (a := 74) (g := upd ((ko16 M) 74) (5 : Int32).toNatClampNeg 3) (i := 5) (n := 8) (M' := (ko17 M)) (pc' := 275) (L' := [some (.ref 59), some (.int 5)]) (st' := []) (by decide) rfl (show ¬ ((5 : Int32) < 0 ∨ 8 ≤ (5 : Int32).toNatClampNeg) by decide +kernel) rfl rfl ?_
  refine Ev.steps 4 (pc' := 282) (L' := [some (.ref 59), some (.int 5)]) (st' := [.int 10, .int 5, .ref 75]) rfl ?_
  refine Ev.hwr (m := 208) (pc := 282) (L := [some (.ref 59), some (.int 5)]) (st := [.int 10, .int 5, .ref 75]) (E := (X, 90, 11875)) (M := (ko17 M)) (ov := []) (a := 75) (g := upd ((ko17 M) 75) (5 : Int32).toNatClampNeg 10) (i := 5) (n := 8) (M' := (ko18 M)) (pc' := 283) (L' := [some (.ref 59), some (.int 5)]) (st' := []) (by decide) rfl (show ¬ ((5 : Int32) < 0 ∨ 8 ≤ (5 : Int32).toNatClampNeg) by decide +kernel) rfl rfl ?_
  refine Ev.steps 4 (pc' := 256) (L' := [some (.ref 59), some (.int 6)]) (st' := [.int 8, .int 6]) rfl ?_
  refine Ev.sw (p := if (8 : Int32) ≤ 6 then 289 else 259) (pc' := 259) (L' := [some (.ref 59), some (.int 6)]) (st' := []) rfl (by decide +kernel) ?_
  refine Ev.steps 4 (pc' := 267) (L' := [some (.ref 59), some (.int 6)]) (st' := [.int 700, .int 6, .ref 73]) rfl ?_
  refine Ev.hwr (m := 208) (pc := 267) (L := [some (.ref 59), some (.int 6)]) (st := [.int 700, .int 6, .ref 73]) (E := (X, 90, 11875)) (M := (ko18 M)) (ov := []) (a := 73) (g := upd ((ko18 M) 73) (6 : Int32).toNatClampNeg 700) (i := 6) (n := 8) (M' := (ko19 M)) (pc' := 268) (L' := [some (.ref 59), some (.int 6)]) (st' := []) (by decide) rfl (show ¬ ((6 : Int32) < 0 ∨ 8 ≤ (6 : Int32).toNatClampNeg) by decide +kernel) rfl rfl ?_
  refine Ev.steps 4 (pc' := 274) (L' := [some (.ref 59), some (.int 6)]) (st' := [.int 3, .int 6, .ref 74]) rfl ?_
  refine Ev.hwr (m := 208) (pc := 274) (L := [some (.ref 59), some (.int 6)]) (st := [.int 3, .int 6, .ref 74]) (E := (X, 90, 11875)) (M := (ko19 M)) (ov := []) (a := 74) (g := upd ((ko19 M) 74) (6 : Int32).toNatClampNeg 3) (i := 6) (n := 8) (M' := (ko20 M)) (pc' := 275) (L' := [some (.ref 59), some (.int 6)]) (st' := []) (by decide) rfl (show ¬ ((6 : Int32) < 0 ∨ 8 ≤ (6 : Int32).toNatClampNeg) by decide +kernel) rfl rfl ?_
  refine Ev.steps 4 (pc' := 282) (L' := [some (.ref 59), some (.int 6)]) (st' := [.int 10, .int 6, .ref 75]) rfl ?_
  refine Ev.hwr (m := 208) (pc := 282) (L := [some (.ref 59), some (.int 6)]) (st := [.int 10, .int 6, .ref 75]) (E := (X, 90, 11875)) (M := (ko20 M)) (ov := []) (a := 75) (g := upd ((ko20 M) 75) (6 : Int32).toNatClampNeg 10) (i := 6) (n := 8) (M' := (ko21 M)) (pc' := 283) (L' := [some (.ref 59), some (.int 6)]) (st' := []) (by decide) rfl (show ¬ ((6 : Int32) < 0 ∨ 8 ≤ (6 : Int32).toNatClampNeg) by decide +kernel) rfl rfl ?_
  refine Ev.steps 4 (pc' := 256) (L' := [some (.ref 59), some (.int 7)]) (st' := [.int 8, .int 7]) rfl ?_
  refine Ev.sw (p := if (8 : Int32) ≤ 7 then 289 else 259) (pc' := 259) (L' := [some (.ref 59), some (.int 7)]) (st' := []) rfl (by decide +kernel) ?_
  refine Ev.steps 4 (pc' := 267) (L' := [some (.ref 59), some (.int 7)]) (st' := [.int 700, .int 7, .ref 73]) rfl ?_
  refine Ev.hwr (m := 208) (pc := 267) (L := [some (.ref 59), some (.int 7)]) (st := [.int 700, .int 7, .ref 73]) (E := (X, 90, 11875)) (M := (ko21 M)) (ov := []) (a := 73) (g := upd ((ko21 M) 73) (7 : Int32).toNatClampNeg 700) (i := 7) (n := 8) (M' := (ko22 M)) (pc' := 268) (L' := [some (.ref 59), some (.int 7)]) (st' := []) (by decide) rfl (show ¬ ((7 : Int32) < 0 ∨ 8 ≤ (7 : Int32).toNatClampNeg) by decide +kernel) rfl rfl ?_
  refine Ev.steps 4 (pc' := 274) (L' := [some (.ref 59), some (.int 7)]) (st' := [.int 3, .int 7, .ref 74]) rfl ?_
  refine Ev.hwr (m := 208) (pc := 274) (L := [some (.ref 59), some (.int 7)]) (st := [.int 3, .int 7, .ref 74]) (E := (X, 90, 11875)) (M := (ko22 M)) (ov := []) (a := 74) (g := upd ((ko22 M) 74) (7 : Int32).toNatClampNeg 3) (i := 7) (n := 8) (M' := (ko23 M)) (pc' := 275) (L' := [some (.ref 59), some (.int 7)]) (st' := []) (by decide) rfl (show ¬ ((7 : Int32) < 0 ∨ 8 ≤ (7 : Int32).toNatClampNeg) by decide +kernel) rfl rfl ?_
  refine Ev.steps 4 (pc' := 282) (L' := [some (.ref 59), some (.int 7)]) (st' := [.int 10, .int 7, .ref 75]) rfl ?_
  refine Ev.hwr (m := 208) (pc := 282) (L := [some (.ref 59), some (.int 7)]) (st := [.int 10, .int 7, .ref 75]) (E := (X, 90, 11875)) (M := (ko23 M)) (ov := []) (a := 75) (g := upd ((ko23 M) 75) (7 : Int32).toNatClampNeg 10) (i := 7) (n := 8) (M' := (ko24 M)) (pc' := 283) (L' := [some (.ref 59), some (.int 7)]) (st' := []) (by decide) rfl (show ¬ ((7 : Int32) < 0 ∨ 8 ≤ (7 : Int32).toNatClampNeg) by decide +kernel) rfl rfl ?_
  refine Ev.steps 4 (pc' := 256) (L' := [some (.ref 59), some (.int 8)]) (st' := [.int 8, .int 8]) rfl ?_
  refine Ev.sw (p := if (8 : Int32) ≤ 8 then 289 else 259) (pc' := 289) (L' := [some (.ref 59), some (.int 8)]) (st' := []) rfl (by decide +kernel) ?_
  exact H
theorem ct208c {X : Nat × (Nat → Int32)} {M : Mem} {res : Option Value × gw_H} (H : Ev 2 208 310 [some (.ref 59), some (.int 8)] [.int 4, .int 4, .ref 59] (ho (X, 90, 11875) (kp3 M) []) res) : Ev 2 208 289 [some (.ref 59), some (.int 8)] [] (ho (X, 90, 11875) M []) res := by
  refine Ev.steps 2 (pc' := 292) (L' := [some (.ref 59), some (.int 8)]) (st' := [.int 20, .ref 59]) rfl ?_
  refine Ev.hmm (m := 208) (pc := 292) (L := [some (.ref 59), some (.int 8)]) (st := [.int 20, .ref 59]) (E := (X, 90, 11875)) (M := M) (ov := []) (a := 59) (g := upd (M 59) 22 20) (M' := (kp1 M)) (pc' := 295) (L' := [some (.ref 59), some (.int 8)]) (st' := []) (by decide) rfl rfl rfl ?_
  refine Ev.steps 2 (pc' := 298) (L' := [some (.ref 59), some (.int 8)]) (st' := [.int 20, .ref 59]) rfl ?_
  refine Ev.hmm (m := 208) (pc := 298) (L := [some (.ref 59), some (.int 8)]) (st := [.int 20, .ref 59]) (E := (X, 90, 11875)) (M := (kp1 M)) (ov := []) (a := 59) (g := upd ((kp1 M) 59) 23 20) (M' := (kp2 M)) (pc' := 301) (L' := [some (.ref 59), some (.int 8)]) (st' := []) (by decide) rfl rfl rfl ?_
  refine Ev.steps 2 (pc' := 304) (L' := [some (.ref 59), some (.int 8)]) (st' := [.int 50, .ref 59]) rfl ?_
  refine Ev.hmm (m := 208) (pc := 304) (L := [some (.ref 59), some (.int 8)]) (st := [.int 50, .ref 59]) (E := (X, 90, 11875)) (M := (kp2 M)) (ov := []) (a := 59) (g := upd ((kp2 M) 59) 24 50) (M' := (kp3 M)) (pc' := 307) (L' := [some (.ref 59), some (.int 8)]) (st' := []) (by decide) rfl rfl rfl ?_
  refine Ev.steps 3 (pc' := 310) (L' := [some (.ref 59), some (.int 8)]) (st' := [.int 4, .int 4, .ref 59]) rfl ?_
  exact H
