/-! the interpreter's runs are the machine's -/
section SND
variable {D : va_G} {ca : Nat → ClassId} {z0 : Nat} {ro : Nat → Nat} {rc : Nat → Nat × (Nat → Int32)} {M : gw_M} {nb zb : Nat}
variable {p : Program} {l : Launch} {e : Env} {R : Room} {s : State} {mm : MethodId} {args : Array Value} {below : List Frame} {meth : Method} {c : Code} {H : Heap} {locs : List Loc} {cells slots : Nat} {Q : State → Prop} {ls : Array Slot}
set_option maxHeartbeats 4000000 in
theorem gw_step (cx : gw_Cx D ca z0 ro rc M p s mm args meth c) {pc len t : Nat} {i : Instr} {cs : Int32} (hd : decode M.2.2.1 pc = .ok (i, len)) (hlen : gw_len i = 0 ∨ gw_len i = len) (hT : gw_okT M.1 pc i t cs = true) {L : gw_L} {st : List Value} {h : gw_H} {s' : gw_S} (hs : gw_ins M.1 M.2.2.2.2.2.2.1 i t cs pc L st h = some s')
    (d : gw_Dy D ca z0 ro rc M.2.2.2.1 nb zb s L st h ls H locs cells slots) (hfr : 1 ≤ R.frames ∧ 64 ≤ R.locals) (hrc : s'.2.2.2.2.1 ≤ nb + R.cells) (hrs : s'.2.2.2.2.2 ≤ zb + R.slots)
    (kk : ∀ (ls' : Array Slot) (H' : Heap) (locs' : List Loc) (cells' slots' : Nat), gw_Dy D ca z0 ro rc M.2.2.2.1 nb zb s s'.2.1 s'.2.2.1 s'.2.2.2 ls' H' locs' cells' slots' → W p l e R s mm args below meth c H' locs' cells' slots' Q (F0 mm s'.1 ls' (s'.2.2.1.map (gw_rv (gw_rho z0 ro))))) :
    W p l e R s mm args below meth c H locs cells slots Q (F0 mm pc ls (st.map (gw_rv (gw_rho z0 ro)))) := by
  cases i with
  | iload_n k => exact gs_iload_n cx hd hlen hT hs d hfr hrc hrs kk
  | iload k => exact gs_iload cx hd hlen hT hs d hfr hrc hrs kk
  | lload_n k => exact gs_lload_n cx hd hlen hT hs d hfr hrc hrs kk
  | lload k => exact gs_lload cx hd hlen hT hs d hfr hrc hrs kk
  | aload_n k => exact gs_aload_n cx hd hlen hT hs d hfr hrc hrs kk
  | aload k => exact gs_aload cx hd hlen hT hs d hfr hrc hrs kk
  | istore_n k => exact gs_istore_n cx hd hlen hT hs d hfr hrc hrs kk
  | istore k => exact gs_istore cx hd hlen hT hs d hfr hrc hrs kk
  | lstore_n k => exact gs_lstore_n cx hd hlen hT hs d hfr hrc hrs kk
  | lstore k => exact gs_lstore cx hd hlen hT hs d hfr hrc hrs kk
  | astore_n k => exact gs_astore_n cx hd hlen hT hs d hfr hrc hrs kk
  | iinc k z => exact gs_iinc cx hd hlen hT hs d hfr hrc hrs kk
  | iconst z => exact gs_iconst cx hd hlen hT hs d hfr hrc hrs kk
  | bipush z => exact gs_bipush cx hd hlen hT hs d hfr hrc hrs kk
  | sipush z => exact gs_sipush cx hd hlen hT hs d hfr hrc hrs kk
  | ldc idx => exact gs_ldc cx hd hlen hT hs d hfr hrc hrs kk
  | ldc_w idx => exact gs_ldc_w cx hd hlen hT hs d hfr hrc hrs kk
  | ldc2_w idx => exact gs_ldc2_w cx hd hlen hT hs d hfr hrc hrs kk
  | lconst n => exact gs_lconst cx hd hlen hT hs d hfr hrc hrs kk
  | iadd => exact gs_iadd cx hd hlen hT hs d hfr hrc hrs kk
  | isub => exact gs_isub cx hd hlen hT hs d hfr hrc hrs kk
  | imul => exact gs_imul cx hd hlen hT hs d hfr hrc hrs kk
  | iand => exact gs_iand cx hd hlen hT hs d hfr hrc hrs kk
  | ior => exact gs_ior cx hd hlen hT hs d hfr hrc hrs kk
  | ixor => exact gs_ixor cx hd hlen hT hs d hfr hrc hrs kk
  | ishl => exact gs_ishl cx hd hlen hT hs d hfr hrc hrs kk
  | ishr => exact gs_ishr cx hd hlen hT hs d hfr hrc hrs kk
  | idiv => exact gs_idiv cx hd hlen hT hs d hfr hrc hrs kk
  | irem => exact gs_irem cx hd hlen hT hs d hfr hrc hrs kk
  | ineg => exact gs_ineg cx hd hlen hT hs d hfr hrc hrs kk
  | ladd => exact gs_ladd cx hd hlen hT hs d hfr hrc hrs kk
  | lmul => exact gs_lmul cx hd hlen hT hs d hfr hrc hrs kk
  | land => exact gs_land cx hd hlen hT hs d hfr hrc hrs kk
  | lor => exact gs_lor cx hd hlen hT hs d hfr hrc hrs kk
  | lushr => exact gs_lushr cx hd hlen hT hs d hfr hrc hrs kk
  | lshl => exact gs_lshl cx hd hlen hT hs d hfr hrc hrs kk
  | lcmp => exact gs_lcmp cx hd hlen hT hs d hfr hrc hrs kk
  | i2l => exact gs_i2l cx hd hlen hT hs d hfr hrc hrs kk
  | l2i => exact gs_l2i cx hd hlen hT hs d hfr hrc hrs kk
  | goto z => exact gs_goto cx hd hlen hT hs d hfr hrc hrs kk
  | tableswitch df lo hi offs => exact gs_tsw cx hd hlen hT hs d hfr hrc hrs kk
  | lookupswitch df ps => exact gs_lsw cx hd hlen hT hs d hfr hrc hrs kk
  | dup => exact gs_dup cx hd hlen hT hs d hfr hrc hrs kk
  | dup2 => exact gs_dup2 cx hd hlen hT hs d hfr hrc hrs kk
  | pop => exact gs_pop cx hd hlen hT hs d hfr hrc hrs kk
  | getfield idx => exact gs_getfield cx hd hlen hT hs d hfr hrc hrs kk
  | putfield idx => exact gs_putfield cx hd hlen hT hs d hfr hrc hrs kk
  | getstatic idx => exact gs_getstatic cx hd hlen hT hs d hfr hrc hrs kk
  | iaload => exact gs_iaload cx hd hlen hT hs d hfr hrc hrs kk
  | baload => exact gs_baload cx hd hlen hT hs d hfr hrc hrs kk
  | iastore => exact gs_iastore cx hd hlen hT hs d hfr hrc hrs kk
  | bastore => exact gs_bastore cx hd hlen hT hs d hfr hrc hrs kk
  | arraylength => exact gs_alen cx hd hlen hT hs d hfr hrc hrs kk
  | new idx => exact gs_new cx hd hlen hT hs d hfr hrc hrs kk
  | invokespecial idx => exact gs_objinit cx hd hlen hT hs d hfr hrc hrs kk
  | ifCond cd z =>
    cases cd with
    | eq => exact gs_if_eq cx hd hlen hT hs d hfr hrc hrs kk
    | ne => exact gs_if_ne cx hd hlen hT hs d hfr hrc hrs kk
    | lt => exact gs_if_lt cx hd hlen hT hs d hfr hrc hrs kk
    | ge => exact gs_if_ge cx hd hlen hT hs d hfr hrc hrs kk
    | gt => exact gs_if_gt cx hd hlen hT hs d hfr hrc hrs kk
    | le => exact gs_if_le cx hd hlen hT hs d hfr hrc hrs kk
  | if_icmp cd z =>
    cases cd with
    | eq => exact gs_icmp_eq cx hd hlen hT hs d hfr hrc hrs kk
    | ne => exact gs_icmp_ne cx hd hlen hT hs d hfr hrc hrs kk
    | lt => exact gs_icmp_lt cx hd hlen hT hs d hfr hrc hrs kk
    | ge => exact gs_icmp_ge cx hd hlen hT hs d hfr hrc hrs kk
    | gt => exact gs_icmp_gt cx hd hlen hT hs d hfr hrc hrs kk
    | le => exact gs_icmp_le cx hd hlen hT hs d hfr hrc hrs kk
  | newarray ty =>
    cases ty with
    | int => exact gs_newarray_int cx hd hlen hT hs d hfr hrc hrs kk
    | boolean => exact gs_newarray_boolean cx hd hlen hT hs d hfr hrc hrs kk
    | _ => cases hs
  | _ => cases hs
theorem gw_ins_mono {own kind t pc : Nat} {i : Instr} {cs : Int32} {L : gw_L} {st : List Value} {h : gw_H} {s' : gw_S} (hs : gw_ins own kind i t cs pc L st h = some s') : h.2.1 ≤ s'.2.2.2.2.1 ∧ h.2.2 ≤ s'.2.2.2.2.2 := by
  unfold gw_ins at hs
  split at hs <;> (try simp only [gw_i1, gw_ii, gw_l1, gw_ll, gw_li, gw_r1, gw_ri, gw_rii, gw_ldi, gw_ldl, gw_lda, gw_obj, gw_arr, gw_fld] at hs) <;> (repeat' split at hs) <;> first
    | (cases hs; done)
    | (cases hs; exact ⟨Nat.le_refl _, Nat.le_refl _⟩)
    | (cases hs; exact ⟨Nat.le_succ _, Nat.le_add_right _ _⟩)
    | (obtain ⟨_, _, rfl⟩ := Option.map_eq_some_iff.mp hs; exact ⟨Nat.le_refl _, Nat.le_refl _⟩)
theorem gw_Go.grow {n : Nat} : ∀ {b m pc : Nat} {L : gw_L} {st : List Value} {h : gw_H} {res : Option Value × gw_H}, gw_Go n b m pc L st h res → h.2.1 ≤ res.2.2.1 ∧ h.2.2 ≤ res.2.2.2 := by
  induction n with
  | zero => intro b m pc L st h res hg; exact hg.elim
  | succ n ih =>
    intro b m pc L st h res hg
    rcases hg with ⟨L2, h1, h2⟩ | ⟨s', h1, h2⟩ | ⟨r, h1, h2⟩ | ⟨y, args, rest, r, h1, h2, h3, h4⟩
    · exact ih h2
    · have a := ih h2
      unfold gw_stp at h1
      split at h1
      · have b := gw_ins_mono h1
        exact ⟨Nat.le_trans b.1 a.1, Nat.le_trans b.2 a.2⟩
      · cases h1
    · subst h2
      exact ⟨Nat.le_refl _, Nat.le_refl _⟩
    · have a := ih h3
      have b := ih h4
      exact ⟨Nat.le_trans a.1 b.1, Nat.le_trans a.2 b.2⟩
/-- what a method's call leaves -/
def gw_Qc (D : va_G) (ca : Nat → ClassId) (z0 : Nat) (ro : Nat → Nat) (rc : Nat → Nat × (Nat → Int32)) (r : Option Value) (h1 : gw_H) : Array Value → State → Outcome → State → Prop := fun _ st oc t =>
  (oc = .returned (r.map (gw_rv (gw_rho z0 ro))) ∧ gw_HR D ca z0 ro rc h1 t.heap) ∧ va_F (gw_A z0) st t
def gw_Pc (D : va_G) (ca : Nat → ClassId) (z0 : Nat) (ro : Nat → Nat) (rc : Nat → Nat × (Nat → Int32)) (vs : List Value) (h : gw_H) : Array Value → State → Prop := fun a U =>
  a = (vs.map (gw_rv (gw_rho z0 ro))).toArray ∧ gw_SR D ca z0 ro rc U ∧ gw_HR D ca z0 ro rc h U.heap
def gw_rm (b mc ms : Nat) : Room := { frames := b, cells := mc, slots := ms, locals := 64 * b }
theorem gw_callk {r : Option Value} {h1 : gw_H} {pc mc ms : Nat} {st0 rest : List Value} {a : Array Value} {free : Addr → Prop} (hr : va_Run p l e R s mm args below meth c H locs cells slots mc ms (F0 mm pc ls st0) rest (gw_Qc D ca z0 ro rc r h1 a) free) (hS : va_S (gw_A z0) s.heap H locs) (hf : ∀ q, free q → gw_A z0 q)
    (kk : ∀ (H1 : Heap) (locs1 : List Loc), gw_HR D ca z0 ro rc h1 H1 → va_S (gw_A z0) s.heap H1 locs1 → W p l e R s mm args below meth c H1 locs1 (cells + mc) (slots + ms) Q (F0 mm (pc + 3) ls ((r.map (gw_rv (gw_rho z0 ro))).toList ++ rest))) : W p l e R s mm args below meth c H locs cells slots Q (F0 mm pc ls st0) := by
  intro T hT X
  obtain ⟨v, st₀, t, T', L, h0, X', hL, e1, e2, ⟨⟨hv, hb⟩, hz, hk⟩, st⟩ := hr T hT X
  cases hv
  rw [h0] at hz hk
  obtain ⟨t2, a1, b1⟩ := kk T'.heap (locs ++ L) (by rw [e1]; exact hb)
    ⟨Nat.le_trans hS.1 (by rw [e1]; exact hz), fun q h1 h2 => by rw [e1, hk q (Nat.lt_of_lt_of_le h1 hS.1) h2]; exact hS.2.1 q h1 h2, fun q hq => by
      rcases List.mem_append.mp hq with h | h
      · exact hS.2.2 q h
      · exact hf _ (hL q h)⟩ T' rfl X'
  exact ⟨t2, st t2 a1, b1⟩
theorem gw_SR.at {U : State} (h : gw_SR D ca z0 ro rc s) (hS : va_S (gw_A z0) s.heap H locs) (hU : U.heap = H) (hWH : s.WarmedH U.vm) : gw_SR D ca z0 ro rc U := by
  have hW := hWH.alike
  obtain ⟨h1, h2, h3, h4, h5⟩ := h
  subst hU
  refine ⟨va_K.moved hW h1, fun a ha => ?_, fun j hj1 hj2 => ?_, Nat.le_trans h4 hS.1, fun a i y hy => va_Nw.warmM hWH (h5 a i y hy)⟩
  · exact (va_T.moved hW (h2 a ha)).kept fun q hq1 hq2 => hS.2.1 q hq1 hq2
  · exact (va_Z.moved hW (h3 j hj1 hj2)).kept fun q hq1 hq2 => hS.2.1 q hq1 hq2
theorem gw_goodT {y : MethodName} {byt : ByteArray} {maxL : Nat} {ret : Option FieldType} (h : Jvm.Cond.code y byt maxL ret ∈ lw_tbl) : GoodIn gw_tb (Jvm.Cond.code y byt maxL ret :: gw_tb) := by
  intro w hw
  rcases List.mem_cons.mp hw with rfl | hw
  · exact ⟨gw_tb_in h rfl, good_of_word rfl⟩
  · exact ⟨hw, good_of_word (List.mem_filter.mp hw).2⟩
theorem gw_Go.val {n : Nat} : ∀ {b m pc : Nat} {L : gw_L} {st : List Value} {h : gw_H} {res : Option Value × gw_H}, gw_Go n b m pc L st h res → ∀ (v : Value) (k : Nat), res.1 = some v → gw_ok k v := by
  induction n with
  | zero => intro b m pc L st h res hg; exact hg.elim
  | succ n ih =>
    intro b m pc L st h res hg
    rcases hg with ⟨L2, h1, h2⟩ | ⟨s', h1, h2⟩ | ⟨r, h1, h2⟩ | ⟨y, args, rest, r, h1, h2, h3, h4⟩
    · exact ih h2
    · exact ih h2
    · subst h2
      intro v k hv
      unfold gw_ret at h1
      split at h1
      · unfold gw_rtv at h1
        split at h1
        · cases h1; cases hv; exact gw_ok_i
        · split at h1
          · cases h1; cases hv; exact gw_ok_i
          · cases h1
        · cases h1; cases hv; exact gw_ok_l
        · cases h1; cases hv
        · cases h1
      · cases h1
    · exact ih h4
theorem gw_slots_at (ρ : Nat → Nat) (vs : List Value) : (gw_slots vs).length = (lg_sl (vs.map (gw_rv ρ))).length ∧ ∀ (i : Nat) (v : Value), (gw_slots vs)[i]? = some (some v) → (lg_sl (vs.map (gw_rv ρ)))[i]? = some (.val (gw_rv ρ v)) := by
  induction vs with
  | nil => exact ⟨rfl, fun i v h => by simp [gw_slots] at h⟩
  | cons a l ih =>
    obtain ⟨i1, i2⟩ := ih
    have hc := gw_rv_cat ρ a
    by_cases h2 : a.category = 2
    · have e1 : gw_slots (a :: l) = some a :: none :: gw_slots l := by simp [gw_slots, h2]
      have e2 : lg_sl ((a :: l).map (gw_rv ρ)) = .val (gw_rv ρ a) :: .second :: lg_sl (l.map (gw_rv ρ)) := by simp [lg_sl, hc, h2]
      rw [e1, e2]
      refine ⟨by simp [i1], fun i v h => ?_⟩
      match i with
      | 0 => cases h; rfl
      | 1 => cases h
      | j + 2 => exact i2 j v h
    · have e1 : gw_slots (a :: l) = some a :: gw_slots l := by simp [gw_slots, h2]
      have e2 : lg_sl ((a :: l).map (gw_rv ρ)) = .val (gw_rv ρ a) :: lg_sl (l.map (gw_rv ρ)) := by simp [lg_sl, hc, h2]
      rw [e1, e2]
      refine ⟨by simp [i1], fun i v h => ?_⟩
      match i with
      | 0 => cases h; rfl
      | j + 1 => exact i2 j v h
theorem gw_slots_ok {n : Nat} {vs : List Value} (h : gw_okS n vs) : gw_okL n (gw_slots vs) := by
  intro i v hv
  have hm := List.mem_of_getElem? hv
  unfold gw_slots at hm
  obtain ⟨w, h1, h2⟩ := List.mem_flatMap.mp hm
  split at h2
  · simp at h2
    rw [h2]; exact h w h1
  · simp at h2
    rw [h2]; exact h w h1
theorem gw_ent_LH {ρ : Nat → Nat} {m : Nat} {vs : List Value} (hM : gw_mi m = some M) (hl : (gw_slots vs).length ≤ M.2.2.2.1) : gw_LH ρ ((lg_sl (vs.map (gw_rv ρ)) ++ List.replicate (M.2.2.2.1 - (lg_sl (vs.map (gw_rv ρ))).length) Slot.unset).toArray) M.2.2.2.1 (gw_ent m vs) := by
  obtain ⟨i1, i2⟩ := gw_slots_at ρ vs
  have h := lv_entry (vs.map (gw_rv ρ)) (n := M.2.2.2.1) (by rw [← i1]; exact hl)
  have e : gw_ent m vs = gw_slots vs ++ List.replicate (M.2.2.2.1 - (gw_slots vs).length) none := by
    unfold gw_ent
    rw [hM]
  rw [e]
  refine ⟨h.1, h.2.1, by simp; omega, fun i v hv => ?_⟩
  have hlt : i < (gw_slots vs).length := by
    apply Nat.lt_of_not_le
    intro hge
    rw [List.getElem?_append_right hge] at hv
    have := List.mem_of_getElem? hv
    simp at this
  rw [List.getElem?_append_left hlt] at hv
  have h3 := i2 i v hv
  simp only [List.getElem?_toArray]
  rw [List.getElem?_append_left (by rw [← i1]; exact hlt)]
  exact h3
theorem gw_ent_ok {n m : Nat} {vs : List Value} (hM : gw_mi m = some M) (h : gw_okS n vs) : gw_okL n (gw_ent m vs) := by
  intro i v hv
  have e : gw_ent m vs = gw_slots vs ++ List.replicate (M.2.2.2.1 - (gw_slots vs).length) none := by
    unfold gw_ent
    rw [hM]
  rw [e] at hv
  by_cases hlt : i < (gw_slots vs).length
  · rw [List.getElem?_append_left hlt] at hv
    exact gw_slots_ok h i v hv
  · rw [List.getElem?_append_right (by omega)] at hv
    have := List.mem_of_getElem? hv
    simp at this
theorem gw_call_spec {b m pc y : Nat} {st vargs rest : List Value} {h : gw_H} (hM : gw_mi m = some M) (hc : gw_call b m pc st h = some (y, vargs, rest)) : ∃ (I : gw_I) (kd idx nest : Nat) (v : Int64) (Y : gw_M), gw_at m pc = some (M, I) ∧ gw_ck I.1 = some (kd, idx) ∧ gw_pool M.1 idx = some (1, y, nest, v) ∧ gw_mi y = some Y ∧ Y.2.2.2.2.2.2.1 = kd ∧ st = vargs.reverse ++ rest ∧ vargs.length = Y.2.2.2.2.2.1 + (if kd = 1 then 0 else 1) ∧ (rest.map fun v => v.category).sum ≤ 8 ∧ gw_bd y vargs < b ∧ (gw_slots vargs).length ≤ Y.2.2.2.1 ∧ gw_rcv y kd vargs h = true := by
  unfold gw_call at hc
  split at hc
  · rename_i M' I hat
    have hM' := (gw_at_spec hat).1
    cases hM.symm.trans hM'
    split at hc
    · rename_i kd idx hck
      split at hc
      · rename_i y' nest v hp
        split at hc
        · rename_i Y hY
          dsimp only at hc
          generalize hn : Y.2.2.2.2.2.1 + (if kd = 1 then 0 else 1) = n at hc
          split at hc
          · rename_i hcond
            obtain ⟨c1, c2, c3, c4, c5, c6⟩ := hcond
            simp only [Option.some.injEq, Prod.mk.injEq] at hc
            obtain ⟨rfl, rfl, rfl⟩ := hc
            refine ⟨I, kd, idx, nest, v, Y, hat, hck, hp, hY, c1, ?_, ?_, c3, c4, c5, c6⟩
            · rw [List.reverse_reverse, List.take_append_drop]
            · rw [hn, List.length_reverse, List.length_take]
              omega
          · cases hc
        · cases hc
      · cases hc
    · cases hc
  · cases hc

theorem gw_fact_W {y : Nat} {Y : gw_M} (hY : gw_mi y = some Y) (h13 : Y.1 ≠ 13) : Y.2.1.cls = gw_cnm Y.1 ∧ Jvm.Cond.code Y.2.1 Y.2.2.1 Y.2.2.2.1 Y.2.2.2.2.1 ∈ lw_tbl ∧ Jvm.Cond.initialized Y.2.1.cls ∈ lw_tbl ∧ (Y.2.2.2.2.2.2.1 = 1 → Jvm.Cond.static Y.2.1 ∈ lw_tbl) ∧ (Y.2.2.2.2.2.2.1 ≠ 1 → Jvm.Cond.instanceMethod Y.2.1 ∈ lw_tbl) ∧ (Y.2.2.2.2.2.2.1 = 0 → Jvm.Cond.selects Y.2.1.cls Y.2.1 Y.2.1 ∈ lw_tbl) ∧ (Y.2.2.2.2.2.2.1 = 2 → Y.2.1.name = "<init>" ∧ Y.2.2.2.2.1 = none) ∧
    (Y.2.1.cls ≠ "java/lang/invoke/MethodHandle" ∧ Y.2.1.cls ≠ "java/lang/invoke/VarHandle" ∧ (parseMethodDescriptor Y.2.1.desc).map (fun d => d.parameters.length) = some Y.2.2.2.2.2.1) ∧ (plainName Y.2.1.cls = true ∨ Y.2.1.cls = "java/lang/Math") ∧ Y.2.2.2.1 ≤ 40 := by
  obtain ⟨ix, h⟩ := gw_fact_M hY
  unfold gw_okM at h
  simp only [Bool.and_eq_true, Bool.or_eq_true, beq_iff_eq] at h
  obtain ⟨h1, h2⟩ := h
  have h2 := h2.resolve_left h13
  unfold gw_okW at h2
  simp only [Bool.and_eq_true, decide_eq_true_eq] at h2
  obtain ⟨⟨⟨⟨⟨⟨⟨a1, a2⟩, a3⟩, a4⟩, a5⟩, a6⟩, a7⟩, a8⟩ := h2
  refine ⟨h1, gw_ti_in a1, gw_ti_in a2, fun k => ?_, fun k => ?_, fun k => ?_, fun k => ?_, a6, ((Bool.or_eq_true _ _).mp a7).imp id (fun h => beq_iff_eq.mp h), a8⟩
  · rw [if_pos k] at a3
    exact gw_ti_in a3
  · rw [if_neg k] at a3
    exact gw_ti_in a3
  · rw [if_pos k] at a4
    simp only [Bool.or_eq_true, decide_eq_true_eq] at a4
    rcases a4 with a4 | a4
    · exact gw_ti_in a4
    · exact List.mem_append_left _ (List.mem_of_getElem? a4)
  · rw [if_pos k] at a5
    simp only [Bool.and_eq_true, beq_iff_eq] at a5
    exact a5
theorem gw_fact_P1 {c i y nest : Nat} {v : Int64} (h : gw_pool c i = some (1, y, nest, v)) : ∃ Y, gw_mi y = some Y ∧ Y.1 ≠ 13 ∧ (nest = 0 → Jvm.Cond.methodLink (gw_cnm c) i Y.2.1 ∈ lw_tbl) ∧ (nest ≠ 0 → Jvm.Cond.methodLinkNest (gw_cnm c) i Y.2.1 "GlassWires" ∈ lw_tbl) ∧ (nest = 0 ∨ Y.2.1.cls ≠ "java/lang/Math") := by
  obtain ⟨ix, hP⟩ := gw_fact_P h
  have hP : (match gw_mi y with
    | some Y => decide (Y.1 ≠ 13) && decide (nest = 0 ∨ Y.2.1.cls ≠ "java/lang/Math") && (if nest = 0 then gw_ti ix.1 (Jvm.Cond.methodLink (gw_cnm c) i Y.2.1) else gw_ti ix.1 (Jvm.Cond.methodLinkNest (gw_cnm c) i Y.2.1 "GlassWires"))
    | none => false) = true := hP
  split at hP
  · rename_i Y hY
    simp only [Bool.and_eq_true, decide_eq_true_eq] at hP
    refine ⟨Y, hY, hP.1.1, fun k => ?_, fun k => ?_, hP.1.2⟩
    · have h2 := hP.2
      rw [if_pos k] at h2
      exact gw_ti_in h2
    · have h2 := hP.2
      rw [if_neg k] at h2
      exact gw_ti_in h2
  · cases hP
theorem gw_rcv0 {y : Nat} {vs : List Value} {h : gw_H} {Y : gw_M} (hY : gw_mi y = some Y) (c : gw_rcv y 0 vs h = true) : ∃ a As fs, vs = .ref a :: As ∧ h.1 a = .inr (Y.1, fs) ∧ 8 ≤ a := by
  have c : (match (generalizing := false) vs with
    | .ref a :: _ => (match h.1 a with
      | .inr (c, _) => decide (8 ≤ a) && (match gw_mi y with | some Y => c == Y.1 | none => false)
      | .inl _ => false)
    | _ => false) = true := c
  split at c
  · rename_i a As
    split at c
    · rename_i cc fs hcell
      rw [hY] at c
      simp only [Bool.and_eq_true, decide_eq_true_eq, beq_iff_eq] at c
      obtain ⟨ha, rfl⟩ := c
      exact ⟨_, _, fs, rfl, hcell, ha⟩
    · cases c
  · cases c
theorem gw_rcv2 {y : Nat} {vs : List Value} {h : gw_H} (c : gw_rcv y 2 vs h = true) : ∃ a As, vs = .ref a :: As := by
  have c : (match (generalizing := false) vs with
    | .ref _ :: _ => true
    | _ => false) = true := c
  split at c
  · exact ⟨_, _, rfl⟩
  · cases c
theorem gw_Pc_blind {vs : List Value} {h : gw_H} : FrameBlind (gw_Pc D ca z0 ro rc vs h) := by
  intro a U g mk q
  obtain ⟨q0, ⟨q1, q2, q3, q4, q5⟩, q6⟩ := q
  refine ⟨q0, ⟨va_K.moved (u := U) (U := U.calling g mk a) (Vm.Alike.refl U.vm) q1, fun x hx => ?_, fun j h1 h2 => ?_, q4, fun x i y hy => va_Nw.same rfl (u := U) (U := U.calling g mk a) rfl (q5 x i y hy)⟩, q6⟩
  · exact va_T.moved (u := U) (U := U.calling g mk a) (Vm.Alike.refl U.vm) (q2 x hx)
  · exact va_Z.moved (u := U) (U := U.calling g mk a) (Vm.Alike.refl U.vm) (q3 j h1 h2)
/-- a run of the interpreter is a walk of the machine; what it calls is met -/
def gw_Walks (l : Launch) (D : va_G) (ca : Nat → ClassId) (z0 : Nat) (ro : Nat → Nat) (rc : Nat → Nat × (Nat → Int32)) (n : Nat) : Prop :=
  ∀ (b m pc : Nat) (L : gw_L) (st : List Value) (h : gw_H) (res : Option Value × gw_H), gw_Go n b m pc L st h res → ∀ (M : gw_M), gw_mi m = some M →
    ∀ (p : Program) (e : Env) (R : Room) (s : State) (mm : MethodId) (args : Array Value) (below : List Frame) (meth : Method) (c : Code) (H : Heap) (locs : List Loc) (cells slots : Nat) (Q : State → Prop) (ls : Array Slot) (nb zb : Nat),
      gw_Cx D ca z0 ro rc M p s mm args meth c → gw_Dy D ca z0 ro rc M.2.2.2.1 nb zb s L st h ls H locs cells slots → b + 1 ≤ R.frames → 64 * (b + 1) ≤ R.locals → res.2.2.1 ≤ nb + R.cells → res.2.2.2 ≤ zb + R.slots →
      (∀ (pc' len : Nat) (I : Instr) (st' : List Value) (ls' : Array Slot) (H' : Heap) (locs' : List Loc), decode M.2.2.1 pc' = .ok (I, len) → (gw_len I = 0 ∨ gw_len I = len) → gw_rtv M.2.2.2.2.1 I st' = some res.1 → gw_HR D ca z0 ro rc res.2 H' → va_S (gw_A z0) s.heap H' locs' → W p l e R s mm args below meth c H' locs' (res.2.2.1 - nb) (res.2.2.2 - zb) Q (F0 mm pc' ls' (st'.map (gw_rv (gw_rho z0 ro))))) →
      W p l e R s mm args below meth c H locs cells slots Q (F0 mm pc ls (st.map (gw_rv (gw_rho z0 ro))))
theorem gw_met {n : Nat} (IH : gw_Walks l D ca z0 ro rc n) {y : Nat} {Y : gw_M} (hY : gw_mi y = some Y) (h13 : Y.1 ≠ 13) (hpl : plainName Y.2.1.cls = true) {vs : List Value} {h h1 : gw_H} {r : Option Value} (hg : gw_Go n (gw_bd y vs) y 0 (gw_ent y vs) [] h (r, h1)) (hl : (gw_slots vs).length ≤ Y.2.2.2.1) (hvs : gw_okS h.2.1 vs) :
    Met l Y.2.1 (Jvm.Cond.code Y.2.1 Y.2.2.1 Y.2.2.2.1 Y.2.2.2.2.1 :: gw_tb) (gw_rm (gw_bd y vs + 1) (h1.2.1 - h.2.1) (h1.2.2 - h.2.2)) (gw_Pc D ca z0 ro rc vs h) (gw_Qc D ca z0 ro rc r h1) (h1.2.1 - h.2.1) (h1.2.2 - h.2.2) (gw_A z0) := by
  obtain ⟨w1, w2, w3, w4, w5, w6, w7, w8, w9, w10⟩ := gw_fact_W hY h13
  obtain ⟨g1, g2⟩ := hg.grow
  dsimp only at g1 g2
  refine Met.ofW (cc := Y.2.2.1) (maxL := Y.2.2.2.1) (ret := Y.2.2.2.2.1) hpl rfl ?_
  intro p e s m args below meth c s₁ B hml hv
  obtain ⟨rfl, hSR, hHR⟩ := hv
  have hx := B.exec
  have hb := B.bytes
  have hr := B.returns
  have hts0 := atoms_spec (ws := Jvm.Cond.code Y.2.1 Y.2.2.1 Y.2.2.2.1 Y.2.2.2.2.1 :: gw_tb) B.pre
  have hts : ∀ w ∈ gw_tb, w.before (vs.map (gw_rv (gw_rho z0 ro))).toArray s = true := fun w hw => hts0 w (List.mem_cons_of_mem _ hw)
  have hown : s.vm.findClass (gw_cnm Y.1) = some m.cls := by rw [← w1]; exact findClass_of_methodNamed B.named
  have hlocks := B.notSynchronized
  have hin : Y.2.2.2.2.2.2.1 = 2 → meth.name = "<init>" := fun k => by rw [(name_of_methodNamed B.named B.method).1]; exact (w7 k).1
  rw [lg_entry_eq]
  refine IH (gw_bd y vs) y 0 (gw_ent y vs) [] h (r, h1) hg Y hY p e _ s m _ below meth c s.heap [] 0 0 _ _ h.2.1 h.2.2 ⟨hx, hb, hml, hown, hts, hin, hSR⟩ ⟨gw_ent_LH hY hl, hHR, va_S.rf, (fun v hv => by cases hv), gw_ent_ok hY hvs, Nat.zero_add _, Nat.zero_add _⟩ (Nat.le_refl _) (Nat.le_refl _) (by show h1.2.1 ≤ h.2.1 + (h1.2.1 - h.2.1); omega) (by show h1.2.2 ≤ h.2.2 + (h1.2.2 - h.2.2); omega) ?_
  intro pc' len I st' ls' H' locs' hd hlen hrt hHR' hS'
  have fin : ∀ t : State, t.heap = H' → s.WarmedH t.vm → gw_Qc D ca z0 ro rc r h1 (vs.map (gw_rv (gw_rho z0 ro))).toArray s (.returned (r.map (gw_rv (gw_rho z0 ro)))) t := fun t ht hW => ⟨⟨rfl, by rw [ht]; exact hHR'⟩, hS'.F ht⟩
  unfold gw_rtv at hrt
  split at hrt
  · rename_i h9
    cases hrt
    have hl := gw_len_of 0 hlen rfl
    subst hl
    exact W.iret hx hb (hr.trans h9) fin hS'.2.2 hd
  · rename_i h9
    split at hrt
    · rename_i h8
      cases hrt
      have hl := gw_len_of 0 hlen rfl
      subst hl
      exact W.zret hx hb (hr.trans h9) (by show Value.int _ = _; rw [h8]) fin hS'.2.2 hd
    · cases hrt
  · rename_i h9
    cases hrt
    have hl := gw_len_of 0 hlen rfl
    subst hl
    exact W.lret hx hb (hr.trans h9) fin hS'.2.2 hd
  · rename_i h9
    cases hrt
    have hl := gw_len_of 0 hlen rfl
    subst hl
    exact W.vret hx hb (hr.trans h9) fin hS'.2.2 hd
  · cases hrt

set_option maxHeartbeats 4000000 in
theorem gw_walks (l : Launch) (D : va_G) (ca : Nat → ClassId) (z0 : Nat) (ro : Nat → Nat) (rc : Nat → Nat × (Nat → Int32)) : ∀ n, gw_Walks l D ca z0 ro rc n := by
  intro n
  induction n with
  | zero => intro b m pc L st h res hg; exact hg.elim
  | succ n IH =>
    intro b m pc L st h res hg M hM p e R s mm args below meth c H locs cells slots Q ls nb zb cx d hb1 hb2 hr1 hr2 hret
    rcases hg with ⟨L2, h1, h2⟩ | ⟨s', h1, h2⟩ | ⟨r, h1, h2⟩ | ⟨y, vs, rest, r, hq, hc, hg3, hg4⟩
    · refine IH b m pc L2 st h res h2 M hM p e R s mm args below meth c H locs cells slots Q ls nb zb cx ?_ hb1 hb2 hr1 hr2 hret
      obtain ⟨d1, d2, d3, d4, d5, d6, d7⟩ := d
      exact ⟨⟨d1.1, d1.2.1, h1.1.trans d1.2.2.1, fun i v hv => d1.2.2.2 i v (h1.2 i v hv)⟩, d2, d3, d4, fun i v hv => d5 i v (h1.2 i v hv), d6, d7⟩
    · unfold gw_stp at h1
      split at h1
      · rename_i M' I hat
        obtain ⟨a1, a2⟩ := gw_at_spec hat
        cases hM.symm.trans a1
        unfold gw_okI at a2
        simp only [Bool.and_eq_true, Bool.or_eq_true, beq_iff_eq, decide_eq_true_eq] at a2
        obtain ⟨⟨a2, a3⟩, a4⟩ := a2
        obtain ⟨g1, g2⟩ := h2.grow
        exact gw_step cx a2 a3 a4 h1 d ⟨by omega, by omega⟩ (Nat.le_trans g1 hr1) (Nat.le_trans g2 hr2) fun ls' H' locs' cells' slots' d' => IH b m _ _ _ _ res h2 M hM p e R s mm args below meth c H' locs' cells' slots' Q ls' nb zb cx d' hb1 hb2 hr1 hr2 hret
      · cases h1
    · subst h2
      unfold gw_ret at h1
      split at h1
      · rename_i M' I hat
        obtain ⟨a1, a2⟩ := gw_at_spec hat
        cases hM.symm.trans a1
        unfold gw_okI at a2
        simp only [Bool.and_eq_true, Bool.or_eq_true, beq_iff_eq, decide_eq_true_eq] at a2
        obtain ⟨⟨a2, a3⟩, a4⟩ := a2
        have k := hret pc I.2.1 I.1 st ls H locs a2 a3 h1 d.2.1 d.2.2.1
        have e1 : cells = h.2.1 - nb := by have := d.2.2.2.2.2.1; omega
        have e2 : slots = h.2.2 - zb := by have := d.2.2.2.2.2.2; omega
        rw [e1, e2]
        exact k
      · cases h1
    · obtain ⟨I, kd, idx, nest, v0, Y, hat, hck, hp, hY, c1, c2, c3, c4, c5, c6, c7⟩ := gw_call_spec hM hc
      obtain ⟨a1, a2⟩ := gw_at_spec hat
      unfold gw_okI at a2
      simp only [Bool.and_eq_true, Bool.or_eq_true, beq_iff_eq, decide_eq_true_eq] at a2
      obtain ⟨⟨a2, a3⟩, a4⟩ := a2
      obtain ⟨Y', hY', h13, lk0, lk1, lk2⟩ := gw_fact_P1 hp
      cases hY.symm.trans hY'
      obtain ⟨w1, w2, w3, w4, w5, w6, w7, w8, w9, w10⟩ := gw_fact_W hY h13
      obtain ⟨g1, g2⟩ := hg3.grow
      obtain ⟨g3, g4⟩ := hg4.grow
      dsimp only at g1 g2
      obtain ⟨hx, hb, hml, hown, hts, hinit, hSR⟩ := cx
      obtain ⟨d1, d2, d3, d4, d5, d6, d7⟩ := d
      have hvs : gw_okS h.2.1 vs := fun v hv => d4 v (by rw [c2]; exact List.mem_append_left _ (List.mem_reverse.mpr hv))
      have hrest : gw_okS h.2.1 rest := fun v hv => d4 v (by rw [c2]; exact List.mem_append_right _ hv)
      have hcat : ((rest.map (gw_rv (gw_rho z0 ro))).map fun v => v.category).sum ≤ 8 := by
        rw [List.map_map, show ((fun v : Value => v.category) ∘ gw_rv (gw_rho z0 ro)) = fun v => v.category from funext fun v => gw_rv_cat _ v]
        exact c4
      have hroom := lv_room (m := mm) (pc := pc) (ls := ls) (rest := st.map (gw_rv (gw_rho z0 ro))) hcat
      have hbl : gw_rm (gw_bd y vs + 1) (hq.2.1 - h.2.1) (hq.2.2 - h.2.2) = ⟨gw_bd y vs + 1, hq.2.1 - h.2.1, hq.2.2 - h.2.2, 64 * (gw_bd y vs + 1)⟩ := rfl
      have hR : (gw_rm (gw_bd y vs + 1) (hq.2.1 - h.2.1) (hq.2.2 - h.2.2)).frames + 1 ≤ R.frames ∧ 8 + (Y.2.2.2.1 + 11) + (gw_rm (gw_bd y vs + 1) (hq.2.1 - h.2.1) (hq.2.2 - h.2.2)).locals ≤ R.locals := by
        show gw_bd y vs + 1 + 1 ≤ R.frames ∧ 8 + (Y.2.2.2.1 + 11) + 64 * (gw_bd y vs + 1) ≤ R.locals
        omega
      have hf : cells + (hq.2.1 - h.2.1) ≤ R.cells ∧ slots + (hq.2.2 - h.2.2) ≤ R.slots := by omega
      have K : ∀ (H1 : Heap) (locs1 : List Loc), gw_HR D ca z0 ro rc hq H1 → va_S (gw_A z0) s.heap H1 locs1 → W p l e R s mm args below meth c H1 locs1 (cells + (hq.2.1 - h.2.1)) (slots + (hq.2.2 - h.2.2)) Q (F0 mm (pc + 3) ls ((r.map (gw_rv (gw_rho z0 ro))).toList ++ rest.map (gw_rv (gw_rho z0 ro)))) := by
        intro H1 locs1 hh1 hs1
        have k := IH b m (pc + 3) L (r.toList ++ rest) hq res hg4 M hM p e R s mm args below meth c H1 locs1 (cells + (hq.2.1 - h.2.1)) (slots + (hq.2.2 - h.2.2)) Q ls nb zb ⟨hx, hb, hml, hown, hts, hinit, hSR⟩ ⟨d1, hh1, hs1, (fun v hv => by
          rcases List.mem_append.mp hv with hv | hv
          · exact hg3.val v _ (by cases r with | none => cases hv | some w => rw [List.mem_singleton.mp hv])
          · exact gw_ok_mono g1 (hrest v hv)), gw_okL_mono g1 d5, by omega, by omega⟩ hb1 hb2 hr1 hr2 hret
        have e1 : (r.toList ++ rest).map (gw_rv (gw_rho z0 ro)) = (r.map (gw_rv (gw_rho z0 ro))).toList ++ rest.map (gw_rv (gw_rho z0 ro)) := by cases r <;> simp
        rw [e1] at k
        exact k
      have hPc : ∀ U : State, U.heap = H → s.WarmedH U.vm → gw_Pc D ca z0 ro rc vs h (vs.map (gw_rv (gw_rho z0 ro))).toArray U := fun U hU hW => ⟨rfl, hSR.at d3 hU hW, by rw [hU]; exact d2⟩
      have hini : (Jvm.Cond.initialized Y.2.1.cls).before args s = true := hts _ (gw_tb_in w3 rfl)
      have hcode : (Jvm.Cond.code Y.2.1 Y.2.2.1 Y.2.2.2.1 Y.2.2.2.2.1).before args s = true := hts _ (gw_tb_in w2 rfl)
      by_cases hmath : Y.2.1.cls = "java/lang/Math"
      · have hne : nest = 0 := lk2.resolve_right (fun q => q hmath)
        have hlink := hts _ (gw_tb_in (lk0 hne) rfl)
        have hcs : cells ≤ R.cells ∧ slots ≤ R.slots := by omega
        have hlo : ((rest.map (gw_rv (gw_rho z0 ro))).map fun v => v.category).sum + 13 ≤ R.locals := by omega
        rcases gw_math hY hmath with rfl | rfl | rfl
        · cases hY.symm.trans (rfl : gw_mi 310 = some gm_310)
          have k1 : kd = 1 := c1.symm
          subst k1
          obtain ⟨u, rfl⟩ : ∃ u, vs = [u] := by
            have c3' : vs.length = 1 := c3
            match vs, c3' with
            | [u], _ => exact ⟨u, rfl⟩
          obtain ⟨x, e1, e3, e4⟩ := gw_run310 n _ 0 _ [] h r hq (gw_le_refl _) hg3 (Or.inl ⟨rfl, rfl⟩)
          have f1 := gw_ent310 e1
          subst f1
          subst e3
          subst e4
          have k := K H locs d2 d3
          simp only [Nat.sub_self, Nat.add_zero] at k
          unfold gw_ck at hck
          split at hck
          · cases hck
          · rename_i i0 k0 hi0
            cases hck
            rw [hi0] at a2 a3
            have hl3 := gw_len_of 2 a3 rfl
            rw [hl3] at a2
            rw [c2]
            exact va_mabs hx hb (hml.trans d1.1.symm) hown hlink (hts _ (gw_tb_in (w4 rfl) rfl)) hini hcode (by omega) hlo hcs.1 hcs.2 a2 k
          · cases hck
          · cases hck
        · cases hY.symm.trans (rfl : gw_mi 311 = some gm_311)
          have k1 : kd = 1 := c1.symm
          subst k1
          obtain ⟨u, v, rfl⟩ : ∃ u v, vs = [u, v] := by
            have c3' : vs.length = 2 := c3
            match vs, c3' with
            | [u, v], _ => exact ⟨u, v, rfl⟩
          obtain ⟨x, y, e1, e2, e3, e4⟩ := gw_run311 n _ 0 _ [] h r hq (gw_le_refl _) hg3 (Or.inl ⟨rfl, rfl⟩)
          obtain ⟨f1, f2⟩ := gw_ent311 e1 e2
          subst f1
          subst f2
          subst e3
          subst e4
          have k := K H locs d2 d3
          simp only [Nat.sub_self, Nat.add_zero] at k
          unfold gw_ck at hck
          split at hck
          · cases hck
          · rename_i i0 k0 hi0
            cases hck
            rw [hi0] at a2 a3
            have hl3 := gw_len_of 2 a3 rfl
            rw [hl3] at a2
            rw [c2]
            exact va_mmax hx hb (hml.trans d1.1.symm) hown hlink (hts _ (gw_tb_in (w4 rfl) rfl)) hini hcode (by omega) hlo hcs.1 hcs.2 a2 k
          · cases hck
          · cases hck
        · cases hY.symm.trans (rfl : gw_mi 312 = some gm_312)
          have k1 : kd = 1 := c1.symm
          subst k1
          obtain ⟨u, v, rfl⟩ : ∃ u v, vs = [u, v] := by
            have c3' : vs.length = 2 := c3
            match vs, c3' with
            | [u, v], _ => exact ⟨u, v, rfl⟩
          obtain ⟨x, y, e1, e2, e3, e4⟩ := gw_run312 n _ 0 _ [] h r hq (gw_le_refl _) hg3 (Or.inl ⟨rfl, rfl⟩)
          obtain ⟨f1, f2⟩ := gw_ent312 e1 e2
          subst f1
          subst f2
          subst e3
          subst e4
          have k := K H locs d2 d3
          simp only [Nat.sub_self, Nat.add_zero] at k
          unfold gw_ck at hck
          split at hck
          · cases hck
          · rename_i i0 k0 hi0
            cases hck
            rw [hi0] at a2 a3
            have hl3 := gw_len_of 2 a3 rfl
            rw [hl3] at a2
            rw [c2]
            exact va_mmin hx hb (hml.trans d1.1.symm) hown hlink (hts _ (gw_tb_in (w4 rfl) rfl)) hini hcode (by omega) hlo hcs.1 hcs.2 a2 k
          · cases hck
          · cases hck
      have hmet := gw_met IH hY h13 (w9.resolve_right hmath) hg3 c6 hvs
      have hSf : CallFix p mm c M.2.2.1 M.2.2.2.1 s args gw_tb (gw_cnm M.1) := ⟨hx, hb, hml, hown, hts⟩
      unfold gw_ck at hck
      split at hck
      · rename_i i0 k0 hi0
        cases hck
        rw [hi0] at a2 a3
        have hl3 := gw_len_of 2 a3 rfl
        rw [hl3] at a2
        obtain ⟨a, As, fs, hvs0, hcell, ha⟩ := gw_rcv0 hY c7
        subst hvs0
        have hlt : a < h.2.1 := hvs (.ref a) List.mem_cons_self a rfl
        obtain ⟨hatc, -⟩ := d2.2.2.1 a ha hlt
        rw [hcell] at hatc
        obtain ⟨⟨C, T, N⟩, hcl, -⟩ := id hatc
        have hCn := gw_cn_cl Y.1 hcl
        obtain ⟨cellB, b1, b2, b3⟩ := va_recv (q0 := 0) hSR.1 (gw_P1 hatc) hcl rfl
        have hg : gw_rho z0 ro a = z0 + (a - 8) := gw_rho_hi ha
        have hst : st.map (gw_rv (gw_rho z0 ro)) = (As.map (gw_rv (gw_rho z0 ro))).reverse ++ .ref (gw_rho z0 ro a) :: rest.map (gw_rv (gw_rho z0 ro)) := by rw [c2]; simp [gw_rv]
        have hn : (As.map (gw_rv (gw_rho z0 ro))).length = Y.2.2.2.2.2.1 := by simp at c3; simpa using c3
        have pv : PreV s H Y.2.1.cls (gw_rho z0 ro a) (gw_Pc D ca z0 ro rc (.ref a :: As) h) (As.map (gw_rv (gw_rho z0 ro))) := ⟨gw_Pc_blind, ⟨cellB, by rw [hg]; exact b1, b2, by rw [w1, hCn]; exact b3⟩, hPc⟩
        have hin := hts _ (gw_tb_in (w5 (by rw [c1]; decide)) rfl)
        have hse := hts _ (gw_tb_in (w6 c1) rfl)
        by_cases hne : nest = 0
        · exact gw_callk (va_runV hSf hmet ⟨callB_of _ hts (gw_goodT w2) rfl rfl rfl hini (hts _ (gw_tb_in (lk0 hne) rfl)) w8 hR, hin, hse⟩ pv rfl hn d1.1 hst hroom a2 hf) d3 (fun q h => h) K
        · exact gw_callk (va_runVN hSf hmet ⟨va_cnB _ hts (gw_goodT w2) rfl rfl rfl (hSR.2.2.2.2 _ _ _ (lk1 hne)) hini w8 hR, hin, hse⟩ pv rfl hn d1.1 hst hroom a2 hf) d3 (fun q h => h) K
      · rename_i i0 k0 hi0
        cases hck
        rw [hi0] at a2 a3
        have hl3 := gw_len_of 2 a3 rfl
        rw [hl3] at a2
        have hst : st.map (gw_rv (gw_rho z0 ro)) = (vs.map (gw_rv (gw_rho z0 ro))).reverse ++ rest.map (gw_rv (gw_rho z0 ro)) := by rw [c2]; simp
        have hn : (vs.map (gw_rv (gw_rho z0 ro))).length = Y.2.2.2.2.2.1 := by simp at c3; simpa using c3
        have hstt := hts _ (gw_tb_in (w4 c1) rfl)
        by_cases hne : nest = 0
        · exact gw_callk (va_runS hSf hmet ⟨callB_of _ hts (gw_goodT w2) rfl rfl rfl hini (hts _ (gw_tb_in (lk0 hne) rfl)) w8 hR, hstt⟩ ⟨gw_Pc_blind, hPc⟩ rfl hn d1.1 hst hroom a2 hf) d3 (fun q h => h) K
        · exact gw_callk (va_runSN hSf hmet ⟨va_cnB _ hts (gw_goodT w2) rfl rfl rfl (hSR.2.2.2.2 _ _ _ (lk1 hne)) hini w8 hR, hstt, trivial⟩ ⟨gw_Pc_blind, hPc⟩ rfl hn d1.1 hst hroom a2 hf) d3 (fun q h => h) K
      · rename_i i0 k0 hi0
        cases hck
        rw [hi0] at a2 a3
        have hl3 := gw_len_of 2 a3 rfl
        rw [hl3] at a2
        obtain ⟨a, As, hvs0⟩ := gw_rcv2 c7
        subst hvs0
        have hst : st.map (gw_rv (gw_rho z0 ro)) = (As.map (gw_rv (gw_rho z0 ro))).reverse ++ .ref (gw_rho z0 ro a) :: rest.map (gw_rv (gw_rho z0 ro)) := by rw [c2]; simp [gw_rv]
        have hn : (As.map (gw_rv (gw_rho z0 ro))).length = Y.2.2.2.2.2.1 := by simp at c3; simpa using c3
        have hin := hts _ (gw_tb_in (w5 (by rw [c1]; decide)) rfl)
        obtain ⟨w71, w72⟩ := w7 c1
        by_cases hne : nest = 0
        · have cb := callB_of _ hts (gw_goodT w2) rfl rfl rfl hini (hts _ (gw_tb_in (lk0 hne) rfl)) w8 hR
          rw [w72] at cb hmet
          exact gw_callk (va_runI hSf hmet ⟨cb, w71, hin⟩ ⟨gw_Pc_blind, hPc⟩ rfl hn d1.1 hst hroom a2 hf) d3 (fun q h => h) K
        · have cb := va_cnB _ hts (gw_goodT w2) rfl rfl rfl (hSR.2.2.2.2 _ _ _ (lk1 hne)) hini w8 hR
          rw [w72] at cb hmet
          exact gw_callk (va_runIN hSf hmet ⟨cb, w71, hin⟩ ⟨gw_Pc_blind, hPc⟩ rfl hn d1.1 hst hroom a2 hf) d3 (fun q h => h) K
      · cases hck

end SND
