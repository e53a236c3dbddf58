/-! the interpreter: a program's step over cells that are counted (own work) -/
abbrev gw_C : Type := (Nat × Nat × (Nat → Int32)) ⊕ (Nat × List Value)
abbrev gw_H : Type := (Nat → gw_C) × Nat × Nat
abbrev gw_L : Type := List (Option Value)
abbrev gw_S : Type := Nat × gw_L × List Value × gw_H
def gw_up (h : Nat → gw_C) (a : Nat) (c : gw_C) : Nat → gw_C := fun b => if b = a then c else h b
def gw_i1 (st : List Value) (k : Int32 → List Value → Option gw_S) : Option gw_S := match st with
  | .int x :: r => k x r
  | _ => none
def gw_ii (st : List Value) (k : Int32 → Int32 → List Value → Option gw_S) : Option gw_S := match st with
  | .int y :: .int x :: r => k x y r
  | _ => none
def gw_l1 (st : List Value) (k : Int64 → List Value → Option gw_S) : Option gw_S := match st with
  | .long x :: r => k x r
  | _ => none
def gw_ll (st : List Value) (k : Int64 → Int64 → List Value → Option gw_S) : Option gw_S := match st with
  | .long y :: .long x :: r => k x y r
  | _ => none
def gw_li (st : List Value) (k : Int64 → Int32 → List Value → Option gw_S) : Option gw_S := match st with
  | .int y :: .long x :: r => k x y r
  | _ => none
def gw_r1 (st : List Value) (k : Nat → List Value → Option gw_S) : Option gw_S := match st with
  | .ref a :: r => k a r
  | _ => none
def gw_ri (st : List Value) (k : Nat → Int32 → List Value → Option gw_S) : Option gw_S := match st with
  | .int i :: .ref a :: r => k a i r
  | _ => none
def gw_rii (st : List Value) (k : Nat → Int32 → Int32 → List Value → Option gw_S) : Option gw_S := match st with
  | .int x :: .int i :: .ref a :: r => k a i x r
  | _ => none
def gw_cut (L : gw_L) (i : Nat) : gw_L := match i with
  | 0 => L
  | j + 1 => match L[j]? with
    | some (some v) => if v.category = 2 then L.set j none else L
    | _ => L
def gw_st1 (L : gw_L) (i : Nat) (v : Value) : Option gw_L := if i < L.length then some ((gw_cut L i).set i (some v)) else none
def gw_st2 (L : gw_L) (i : Nat) (v : Value) : Option gw_L := if i + 1 < L.length then some (((gw_cut L i).set i (some v)).set (i + 1) none) else none
def gw_ldi (L : gw_L) (i : Nat) (k : Int32 → Option gw_S) : Option gw_S := match L[i]? with
  | some (some (.int x)) => k x
  | _ => none
def gw_ldl (L : gw_L) (i : Nat) (k : Int64 → Option gw_S) : Option gw_S := match L[i]? with
  | some (some (.long x)) => k x
  | _ => none
def gw_lda (L : gw_L) (i : Nat) (k : Nat → Option gw_S) : Option gw_S := match L[i]? with
  | some (some (.ref x)) => k x
  | _ => none
def gw_tyL : List (Nat → FieldType) := [tyX0, tyX1, tyX2, tyX3, tyX4, tyX5, tyX6, tyX7, tyX8, tyX9, tyX10, tyX11, tyX12]
def gw_ty (ci k : Nat) : FieldType := match gw_tyL[ci]? with
  | some f => f k
  | none => .int
def gw_fit (t : FieldType) (v : Value) : Bool := match t, v with
  | .int, .int _ => true
  | .object _, .ref _ => true
  | .array _, .ref _ => true
  | _, _ => false
def gw_dv (t : FieldType) : Value := match t with
  | .int => .int 0
  | _ => .null
def gw_tsw (pc : Nat) (d lo hi : Int) (offs : Array Int) (x : Int32) : Nat := if x.toInt < lo ∨ hi < x.toInt then ((pc : Int) + d).toNat else match offs[(x.toInt - lo).toNat]? with
  | some off => ((pc : Int) + off).toNat
  | none => 0
def gw_obj (h : gw_H) (a ci : Nat) (k : List Value → Option gw_S) : Option gw_S := match h.1 a with
  | .inr (c, fs) => if c = ci then k fs else none
  | .inl _ => none
def gw_arr (h : gw_H) (a kd : Nat) (k : Nat → (Nat → Int32) → Option gw_S) : Option gw_S := match h.1 a with
  | .inl (c, n, f) => if c = kd then k n f else none
  | .inr _ => none
def gw_fld (own idx : Nat) (k : Nat → Nat → Option gw_S) : Option gw_S := match gw_pool own idx with
  | some (0, ci, j, _) => k ci j
  | _ => none
def gw_new (h : gw_H) (c : gw_C) (n : Nat) : gw_H := (gw_up h.1 h.2.1 c, h.2.1 + 1, h.2.2 + n)
def gw_set (h : gw_H) (a : Nat) (c : gw_C) : gw_H := (gw_up h.1 a c, h.2)
/-- what an instruction that neither calls nor ends does -/
def gw_ins (own kind : Nat) (i : Instr) (t : Nat) (c : Int32) (pc : Nat) (L : gw_L) (st : List Value) (h : gw_H) : Option gw_S := match i with
  | .iload_n k => gw_ldi L k fun x => some (pc + 1, L, .int x :: st, h)
  | .iload k => gw_ldi L k fun x => some (pc + 2, L, .int x :: st, h)
  | .lload_n k => gw_ldl L k fun x => some (pc + 1, L, .long x :: st, h)
  | .lload k => gw_ldl L k fun x => some (pc + 2, L, .long x :: st, h)
  | .aload_n k => gw_lda L k fun x => some (pc + 1, L, .ref x :: st, h)
  | .aload k => gw_lda L k fun x => some (pc + 2, L, .ref x :: st, h)
  | .istore_n k => gw_i1 st fun x r => (gw_st1 L k (.int x)).map fun L' => (pc + 1, L', r, h)
  | .istore k => gw_i1 st fun x r => (gw_st1 L k (.int x)).map fun L' => (pc + 2, L', r, h)
  | .lstore_n k => gw_l1 st fun x r => (gw_st2 L k (.long x)).map fun L' => (pc + 1, L', r, h)
  | .lstore k => gw_l1 st fun x r => (gw_st2 L k (.long x)).map fun L' => (pc + 2, L', r, h)
  | .astore_n k => gw_r1 st fun x r => (gw_st1 L k (.ref x)).map fun L' => (pc + 1, L', r, h)
  | .iinc k _ => gw_ldi L k fun x => (gw_st1 L k (.int (x + c))).map fun L' => (pc + 3, L', st, h)
  | .iconst _ => some (pc + 1, L, .int c :: st, h)
  | .bipush _ => some (pc + 2, L, .int c :: st, h)
  | .sipush _ => some (pc + 3, L, .int c :: st, h)
  | .ldc _ => some (pc + 2, L, .int c :: st, h)
  | .ldc_w _ => some (pc + 3, L, .int c :: st, h)
  | .ldc2_w idx => match gw_pool own idx with
    | some (4, _, _, v) => some (pc + 3, L, .long v :: st, h)
    | _ => none
  | .lconst n => some (pc + 1, L, .long (if n = 0 then 0 else 1) :: st, h)
  | .iadd => gw_ii st fun x y r => some (pc + 1, L, .int (x + y) :: r, h)
  | .isub => gw_ii st fun x y r => some (pc + 1, L, .int (x - y) :: r, h)
  | .imul => gw_ii st fun x y r => some (pc + 1, L, .int (x * y) :: r, h)
  | .iand => gw_ii st fun x y r => some (pc + 1, L, .int (x &&& y) :: r, h)
  | .ior => gw_ii st fun x y r => some (pc + 1, L, .int (x ||| y) :: r, h)
  | .ixor => gw_ii st fun x y r => some (pc + 1, L, .int (x ^^^ y) :: r, h)
  | .ishl => gw_ii st fun x y r => some (pc + 1, L, .int (x <<< (y &&& 31)) :: r, h)
  | .ishr => gw_ii st fun x y r => some (pc + 1, L, .int (x >>> (y &&& 31)) :: r, h)
  | .idiv => gw_ii st fun x y r => if y = 0 then none else some (pc + 1, L, .int (x / y) :: r, h)
  | .irem => gw_ii st fun x y r => if y = 0 then none else some (pc + 1, L, .int (x - x / y * y) :: r, h)
  | .ineg => gw_i1 st fun x r => some (pc + 1, L, .int (-x) :: r, h)
  | .ladd => gw_ll st fun x y r => some (pc + 1, L, .long (x + y) :: r, h)
  | .lmul => gw_ll st fun x y r => some (pc + 1, L, .long (x * y) :: r, h)
  | .land => gw_ll st fun x y r => some (pc + 1, L, .long (x &&& y) :: r, h)
  | .lor => gw_ll st fun x y r => some (pc + 1, L, .long (x ||| y) :: r, h)
  | .lushr => gw_li st fun x y r => some (pc + 1, L, .long ((x.toUInt64 >>> (y.toInt64.toUInt64 &&& Int64.toUInt64 63)).toInt64) :: r, h)
  | .lshl => gw_li st fun x y r => some (pc + 1, L, .long (x <<< (y.toInt64 &&& 63)) :: r, h)
  | .lcmp => gw_ll st fun x y r => some (pc + 1, L, .int (lg_cmp x y) :: r, h)
  | .i2l => gw_i1 st fun x r => some (pc + 1, L, .long x.toInt64 :: r, h)
  | .l2i => gw_l1 st fun x r => some (pc + 1, L, .int x.toInt32 :: r, h)
  | .goto _ => some (t, L, st, h)
  | .ifCond .eq _ => gw_i1 st fun x r => some (if x = 0 then t else pc + 3, L, r, h)
  | .ifCond .ne _ => gw_i1 st fun x r => some (if x = 0 then pc + 3 else t, L, r, h)
  | .ifCond .lt _ => gw_i1 st fun x r => some (if x < 0 then t else pc + 3, L, r, h)
  | .ifCond .ge _ => gw_i1 st fun x r => some (if 0 ≤ x then t else pc + 3, L, r, h)
  | .ifCond .gt _ => gw_i1 st fun x r => some (if 0 < x then t else pc + 3, L, r, h)
  | .ifCond .le _ => gw_i1 st fun x r => some (if x ≤ 0 then t else pc + 3, L, r, h)
  | .if_icmp .eq _ => gw_ii st fun x y r => some (if x = y then t else pc + 3, L, r, h)
  | .if_icmp .ne _ => gw_ii st fun x y r => some (if x = y then pc + 3 else t, L, r, h)
  | .if_icmp .lt _ => gw_ii st fun x y r => some (if x < y then t else pc + 3, L, r, h)
  | .if_icmp .ge _ => gw_ii st fun x y r => some (if y ≤ x then t else pc + 3, L, r, h)
  | .if_icmp .gt _ => gw_ii st fun x y r => some (if y < x then t else pc + 3, L, r, h)
  | .if_icmp .le _ => gw_ii st fun x y r => some (if x ≤ y then t else pc + 3, L, r, h)
  | .tableswitch d lo hi offs => gw_i1 st fun x r => some (gw_tsw pc d lo hi offs x, L, r, h)
  | .lookupswitch d ps => gw_i1 st fun x r => some (((pc : Int) + Op.lookupswitch.offset ps.toList d x.toInt).toNat, L, r, h)
  | .dup => match st with
    | v :: r => if v.category = 1 then some (pc + 1, L, v :: v :: r, h) else none
    | _ => none
  | .dup2 => match st with
    | v :: w :: r => if v.category = 1 ∧ w.category = 1 then some (pc + 1, L, v :: w :: v :: w :: r, h) else none
    | _ => none
  | .pop => match st with
    | v :: r => if v.category = 1 then some (pc + 1, L, r, h) else none
    | _ => none
  | .getfield idx => gw_fld own idx fun ci k => gw_r1 st fun a r => gw_obj h a ci fun fs => match fs[k]? with
    | some v => if 8 ≤ a then some (pc + 3, L, v :: r, h) else none
    | none => none
  | .putfield idx => gw_fld own idx fun ci k => match st with
    | v :: .ref a :: r => gw_obj h a ci fun fs => match vwCl[ci]? with
      | some (_, T, _) => if 8 ≤ a ∧ k < fs.length ∧ gw_fit (gw_ty ci k) v = true ∧ ((T k).2.2.2 = true → kind = 2 ∧ own = ci) then some (pc + 3, L, r, gw_set h a (.inr (ci, fs.set k v))) else none
      | none => none
    | _ => none
  | .getstatic idx => match gw_pool own idx with
    | some (5, j, _, _) => some (pc + 3, L, .ref j :: st, h)
    | _ => none
  | .iaload => gw_ri st fun a i r => gw_arr h a 0 fun n f => if i < 0 ∨ n ≤ i.toNatClampNeg then none else some (pc + 1, L, .int (f i.toNatClampNeg) :: r, h)
  | .baload => gw_ri st fun a i r => gw_arr h a 1 fun n f => if i < 0 ∨ n ≤ i.toNatClampNeg then none else if 8 ≤ a then some (pc + 1, L, .int (f i.toNatClampNeg) :: r, h) else none
  | .iastore => gw_rii st fun a i x r => gw_arr h a 0 fun n f => if i < 0 ∨ n ≤ i.toNatClampNeg then none else if 8 ≤ a then some (pc + 1, L, r, gw_set h a (.inl (0, n, upd f i.toNatClampNeg x))) else none
  | .bastore => gw_rii st fun a i x r => gw_arr h a 1 fun n f => if i < 0 ∨ n ≤ i.toNatClampNeg then none else if 8 ≤ a then some (pc + 1, L, r, gw_set h a (.inl (1, n, upd f i.toNatClampNeg (x &&& 1)))) else none
  | .arraylength => gw_r1 st fun a r => gw_arr h a 0 fun n _ => some (pc + 1, L, .int (Int32.ofNat n) :: r, h)
  | .new idx => match gw_pool own idx with
    | some (2, ci, _, _) => match vwCl[ci]? with
      | some (_, _, N) => some (pc + 3, L, .ref h.2.1 :: st, gw_new h (.inr (ci, (List.range N).map fun k => gw_dv (gw_ty ci k))) N)
      | none => none
    | _ => none
  | .newarray .int => gw_i1 st fun x r => if x < 0 ∨ 100000 < x.toNatClampNeg then none else some (pc + 2, L, .ref h.2.1 :: r, gw_new h (.inl (0, x.toNatClampNeg, fun _ => 0)) x.toNatClampNeg)
  | .newarray .boolean => gw_i1 st fun x r => if x < 0 ∨ 100000 < x.toNatClampNeg then none else some (pc + 2, L, .ref h.2.1 :: r, gw_new h (.inl (1, x.toNatClampNeg, fun _ => 0)) x.toNatClampNeg)
  | .invokespecial idx => match gw_pool own idx with
    | some (6, _, _, _) => gw_r1 st fun _ r => if (r.map fun v => v.category).sum ≤ 8 then some (pc + 3, L, r, h) else none
    | _ => none
  | _ => none
def gw_at (m pc : Nat) : Option (gw_M × gw_I) := match gw_mi m with
  | some M => match M.2.2.2.2.2.2.2.2.lookup pc with
    | some I => some (M, I)
    | none => none
  | none => none
def gw_stp (m pc : Nat) (L : gw_L) (st : List Value) (h : gw_H) : Option gw_S := match gw_at m pc with
  | some (M, I) => gw_ins M.1 M.2.2.2.2.2.2.1 I.1 I.2.2.1 I.2.2.2 pc L st h
  | none => none
def gw_rtv (rt : Option FieldType) (i : Instr) (st : List Value) : Option (Option Value) := match rt, i, st with
  | some .int, .ireturn, [.int x] => some (some (.int x))
  | some .boolean, .ireturn, [.int x] => if x &&& 1 = x then some (some (.int x)) else none
  | some .long, .lreturn, [.long x] => some (some (.long x))
  | none, .return_, [] => some none
  | _, _, _ => none
def gw_ret (m pc : Nat) (st : List Value) : Option (Option Value) := match gw_at m pc with
  | some (M, I) => gw_rtv M.2.2.2.2.1 I.1 st
  | none => none
/-- how many frames a call may take -/
def gw_bd (m : Nat) (args : List Value) : Nat := if m = gw_CP then (match args with
  | [_, _, .int x, _, _] => 3 + (11 - x.toNatClampNeg)
  | _ => 14) else match gw_mi m with
  | some M => M.2.2.2.2.2.2.2.1
  | none => 0
def gw_slots (args : List Value) : gw_L := args.flatMap fun v => if v.category = 2 then [some v, none] else [some v]
def gw_ent (m : Nat) (args : List Value) : gw_L := match gw_mi m with
  | some M => gw_slots args ++ List.replicate (M.2.2.2.1 - (gw_slots args).length) none
  | none => []
/-- which kind of call an instruction is: 0 virtual, 1 static, 2 constructor -/
def gw_ck (i : Instr) : Option (Nat × Nat) := match i with
  | .invokevirtual k => some (0, k)
  | .invokestatic k => some (1, k)
  | .invokespecial k => some (2, k)
  | _ => none
def gw_rcv (y kd : Nat) (args : List Value) (h : gw_H) : Bool := match kd with
  | 0 => match args with
    | .ref a :: _ => match h.1 a with
      | .inr (c, _) => decide (8 ≤ a) && (match gw_mi y with | some Y => c == Y.1 | none => false)
      | .inl _ => false
    | _ => false
  | 2 => match args with
    | .ref _ :: _ => true
    | _ => false
  | _ => true
/-- a call: the method, its arguments, what stays on the stack -/
def gw_call (b m pc : Nat) (st : List Value) (h : gw_H) : Option (Nat × List Value × List Value) := match gw_at m pc with
  | some (M, I) => match gw_ck I.1 with
    | some (kd, idx) => match gw_pool M.1 idx with
      | some (1, y, _, _) => match gw_mi y with
        | some Y =>
          let n := Y.2.2.2.2.2.1 + (if kd = 1 then 0 else 1)
          let args := (st.take n).reverse
          let rest := st.drop n
          if Y.2.2.2.2.2.2.1 = kd ∧ n ≤ st.length ∧ (rest.map fun v => v.category).sum ≤ 8 ∧ gw_bd y args < b ∧ (gw_slots args).length ≤ Y.2.2.2.1 ∧ gw_rcv y kd args h = true then some (y, args, rest) else none
        | none => none
      | _ => none
    | none => none
  | none => none
def gw_le (L2 L : gw_L) : Prop := L2.length = L.length ∧ ∀ (i : Nat) (v : Value), L2[i]? = some (some v) → L[i]? = some (some v)
def gw_Go : Nat → Nat → Nat → Nat → gw_L → List Value → gw_H → Option Value × gw_H → Prop
  | 0 => fun _ _ _ _ _ _ _ => False
  | n + 1 => fun b m pc L st h res =>
    (∃ L2, gw_le L2 L ∧ gw_Go n b m pc L2 st h res) ∨
    (∃ s' : gw_S, gw_stp m pc L st h = some s' ∧ gw_Go n b m s'.1 s'.2.1 s'.2.2.1 s'.2.2.2 res) ∨
    (∃ r, gw_ret m pc st = some r ∧ res = (r, h)) ∨
    (∃ (y : Nat) (args rest : List Value) (r : Option Value) (h1 : gw_H), gw_call b m pc st h = some (y, args, rest) ∧ gw_Go n (gw_bd y args) y 0 (gw_ent y args) [] h (r, h1) ∧ gw_Go n b m (pc + 3) L (r.toList ++ rest) h1 res)
theorem gw_Go.mono {n : Nat} : ∀ {n' b m pc : Nat} {L : gw_L} {st : List Value} {h : gw_H} {res : Option Value × gw_H}, n ≤ n' → gw_Go n b m pc L st h res → gw_Go n' b m pc L st h res := by
  induction n with
  | zero => intro n' b m pc L st h res _ hg; exact hg.elim
  | succ n ih =>
    intro n' b m pc L st h res hn hg
    obtain ⟨k, rfl⟩ : ∃ k, n' = k + 1 := ⟨n' - 1, by omega⟩
    have hk : n ≤ k := by omega
    rcases hg with ⟨L2, h1, h2⟩ | ⟨s', h1, h2⟩ | h1 | ⟨y, args, rest, r, h1, h2, h3, h4⟩
    · exact Or.inl ⟨L2, h1, ih hk h2⟩
    · exact Or.inr (Or.inl ⟨s', h1, ih hk h2⟩)
    · exact Or.inr (Or.inr (Or.inl h1))
    · exact Or.inr (Or.inr (Or.inr ⟨y, args, rest, r, h1, h2, ih hk h3, ih hk h4⟩))
def Ev (b m pc : Nat) (L : gw_L) (st : List Value) (h : gw_H) (res : Option Value × gw_H) : Prop := ∃ n, gw_Go n b m pc L st h res
/-- a whole call -/
def Rn (m : Nat) (args : List Value) (h : gw_H) (r : Option Value) (h1 : gw_H) : Prop := Ev (gw_bd m args) m 0 (gw_ent m args) [] h (r, h1)
section EV
variable {b m pc : Nat} {L : gw_L} {st : List Value} {h : gw_H} {res : Option Value × gw_H}
theorem Ev.weak (L2 : gw_L) (h1 : gw_le L2 L) (k : Ev b m pc L2 st h res) : Ev b m pc L st h res := by
  obtain ⟨n, hn⟩ := k
  exact ⟨n + 1, Or.inl ⟨L2, h1, hn⟩⟩
theorem Ev.step {pc' : Nat} {L' : gw_L} {st' : List Value} {h' : gw_H} (h1 : gw_stp m pc L st h = some (pc', L', st', h')) (k : Ev b m pc' L' st' h' res) : Ev b m pc L st h res := by
  obtain ⟨n, hn⟩ := k
  exact ⟨n + 1, Or.inr (Or.inl ⟨_, h1, hn⟩)⟩
theorem Ev.ret {r : Option Value} (h1 : gw_ret m pc st = some r) : Ev b m pc L st h (r, h) := ⟨1, Or.inr (Or.inr (Or.inl ⟨r, h1, rfl⟩))⟩
theorem Ev.call {y : Nat} {args rest : List Value} {r : Option Value} {h1 : gw_H} (hc : gw_call b m pc st h = some (y, args, rest)) (hr : Rn y args h r h1) (k : Ev b m (pc + 3) L (r.toList ++ rest) h1 res) : Ev b m pc L st h res := by
  obtain ⟨n1, hn1⟩ := hr
  obtain ⟨n2, hn2⟩ := k
  exact ⟨max n1 n2 + 1, Or.inr (Or.inr (Or.inr ⟨y, args, rest, r, h1, hc, hn1.mono (Nat.le_max_left _ _), hn2.mono (Nat.le_max_right _ _)⟩))⟩
end EV
def gw_stps : Nat → Nat → gw_S → Option gw_S
  | 0, _, s => some s
  | n + 1, m, s => match gw_stp m s.1 s.2.1 s.2.2.1 s.2.2.2 with
    | some s' => gw_stps n m s'
    | none => none
theorem Ev.steps (n : Nat) {b m pc : Nat} {L : gw_L} {st : List Value} {h : gw_H} {res : Option Value × gw_H} {pc' : Nat} {L' : gw_L} {st' : List Value} {h' : gw_H} (h1 : gw_stps n m (pc, L, st, h) = some (pc', L', st', h')) (k : Ev b m pc' L' st' h' res) : Ev b m pc L st h res := by
  induction n generalizing pc L st h with
  | zero => cases h1; exact k
  | succ n ih =>
    unfold gw_stps at h1
    cases hs : gw_stp m pc L st h with
    | none => simp [hs] at h1
    | some s' =>
      simp only [hs] at h1
      exact Ev.step (L' := s'.2.1) (st' := s'.2.2.1) (h' := s'.2.2.2) hs (ih h1)
