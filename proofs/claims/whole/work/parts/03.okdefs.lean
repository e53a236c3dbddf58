/-! the tables are the program's: decided by the kernel -/
def gw_cnm (c : Nat) : String := match gw_cn[c]? with
  | some s => s
  | none => ""
def gw_sn (j : Nat) : String := match j with
  | 1 => "LEAST_TRAIT"
  | 2 => "MOST_TRAIT"
  | 3 => "FIRST_TRAIT"
  | _ => "MOST_RULE"
def gw_ti (i : Nat) (w : Jvm.Cond) : Bool := decide (tables_1[i]? = some w)
def gw_len (i : Instr) : Nat := match i with
  | .iload _ => 2
  | .lload _ => 2
  | .aload _ => 2
  | .istore _ => 2
  | .lstore _ => 2
  | .bipush _ => 2
  | .ldc _ => 2
  | .newarray _ => 2
  | .iinc _ _ => 3
  | .sipush _ => 3
  | .ldc_w _ => 3
  | .ldc2_w _ => 3
  | .goto _ => 3
  | .ifCond _ _ => 3
  | .if_icmp _ _ => 3
  | .getfield _ => 3
  | .putfield _ => 3
  | .getstatic _ => 3
  | .new _ => 3
  | .invokevirtual _ => 3
  | .invokestatic _ => 3
  | .invokespecial _ => 3
  | .tableswitch _ _ _ _ => 0
  | .lookupswitch _ _ => 0
  | _ => 1
def gw_okT (own pc : Nat) (i : Instr) (t : Nat) (c : Int32) : Bool := match i with
  | .goto off => decide ((pc : Int) + off = (t : Int))
  | .ifCond _ off => decide ((pc : Int) + off = (t : Int))
  | .if_icmp _ off => decide ((pc : Int) + off = (t : Int))
  | .iconst n => decide (Int32.ofInt n = c)
  | .bipush n => decide ((Int8.ofInt n).toInt32 = c)
  | .sipush n => decide ((Int16.ofInt n).toInt32 = c)
  | .iinc _ n => decide (Int32.ofInt n = c)
  | .ldc idx => gw_ti t (Jvm.Cond.constant (gw_cnm own) idx c)
  | .ldc_w idx => gw_ti t (Jvm.Cond.constant (gw_cnm own) idx c)
  | .tableswitch d lo hi offs => decide (0 ≤ (pc : Int) + d) && offs.toList.all (fun x => decide (0 ≤ (pc : Int) + x)) && decide ((offs.size : Int) = hi - lo + 1)
  | .lookupswitch d ps => decide (0 ≤ (pc : Int) + d) && ps.toList.all (fun x => decide (0 ≤ (pc : Int) + x.2)) && (ps.toList.zip (ps.toList.drop 1)).all (fun (a, next) => a.1 < next.1)
  | _ => true
def gw_okI (own : Nat) (byt : ByteArray) (q : Nat × gw_I) : Bool := decide (decode byt q.1 = .ok (q.2.1, q.2.2.1)) && (gw_len q.2.1 == 0 || gw_len q.2.1 == q.2.2.1) && gw_okT own q.1 q.2.1 q.2.2.2.1 q.2.2.2.2
def gw_okW (ix : Nat × Nat × Nat × Nat) (y : MethodName) (byt : ByteArray) (maxL : Nat) (ret : Option FieldType) (np kind : Nat) : Bool :=
  gw_ti ix.1 (Jvm.Cond.code y byt maxL ret) && gw_ti ix.2.1 (Jvm.Cond.initialized y.cls) && (if kind = 1 then gw_ti ix.2.2.1 (Jvm.Cond.static y) else gw_ti ix.2.2.1 (Jvm.Cond.instanceMethod y)) && (if kind = 0 then (gw_ti ix.2.2.2 (Jvm.Cond.selects y.cls y y) || decide ((k2_sels lw_privs)[ix.2.2.2]? = some (Jvm.Cond.selects y.cls y y))) else true) && (if kind = 2 then y.name == "<init>" && ret == none else true)
  && decide (y.cls ≠ "java/lang/invoke/MethodHandle" ∧ y.cls ≠ "java/lang/invoke/VarHandle" ∧ (parseMethodDescriptor y.desc).map (fun d => d.parameters.length) = some np) && (plainName y.cls || y.cls == "java/lang/Math") && decide (maxL ≤ 40)
def gw_okM (M : gw_M) (ix : Nat × Nat × Nat × Nat) : Bool := (M.2.1.cls == gw_cnm M.1) && (M.1 == 13 || gw_okW ix M.2.1 M.2.2.1 M.2.2.2.1 M.2.2.2.2.1 M.2.2.2.2.2.1 M.2.2.2.2.2.2.1)
def gw_okP (c : Nat) (q : Nat × gw_E) (ix : Nat × Nat × Nat) : Bool := match q.2 with
  | (0, ci, k, _) => match vwCl[ci]? with
    | some (C, T, N) => decide (k < N) && decide ((T k).1 = C) && gw_ti ix.1 (Jvm.Cond.fieldLink (gw_cnm c) q.1 C (T k).2.1 (T k).2.2.1)
    | none => false
  | (1, y, nest, _) => match gw_mi y with
    | some Y => decide (Y.1 ≠ 13) && decide (nest = 0 ∨ Y.2.1.cls ≠ "java/lang/Math") && (if nest = 0 then gw_ti ix.1 (Jvm.Cond.methodLink (gw_cnm c) q.1 Y.2.1) else gw_ti ix.1 (Jvm.Cond.methodLinkNest (gw_cnm c) q.1 Y.2.1 "GlassWires"))
    | none => false
  | (2, ci, _, _) => match vwCl[ci]? with
    | some (C, _, N) => gw_ti ix.1 (Jvm.Cond.classLink (gw_cnm c) q.1 C) && gw_ti ix.2.1 (Jvm.Cond.instantiable C N) && gw_ti ix.2.2 (Jvm.Cond.initialized C)
    | none => false
  | (3, _, _, _) => true
  | (4, _, _, v) => gw_ti ix.1 (Jvm.Cond.constantLong (gw_cnm c) q.1 v)
  | (5, j, _, _) => decide (1 ≤ j ∧ j ≤ 4) && gw_ti ix.1 (Jvm.Cond.fieldLink (gw_cnm c) q.1 "GlassWires$Palette" (gw_sn j) "[I")
  | (6, _, _, _) => gw_ti ix.1 (Jvm.Cond.methodLink (gw_cnm c) q.1 objectInit)
  | _ => false
def gw_all2 {α β : Type} (f : α → β → Bool) : List α → List β → Bool
  | [], _ => true
  | a :: l, b :: r => f a b && gw_all2 f l r
  | _ :: _, [] => false
def gw_okC (M : gw_M) : Bool := M.2.2.2.2.2.2.2.2.all (gw_okI M.1 M.2.2.1)
theorem gw_splitC {α : Type} {l : List α} {f : α → Bool} (k : Nat) (h1 : (l.take k).all f = true) (h2 : (l.drop k).all f = true) : l.all f = true := by
  rw [← List.take_append_drop k l, List.all_append, h1, h2]
  rfl
