/-! THE LAW: rows over any room and any end (turned from those of the layer by wip/whole/gen/l1.py) -/
abbrev eW (p : Program) (l : Launch) (e : Env) (R : Room) (s : State) (m : MethodId) (args : Array Value) (below : List Frame) (meth : Method) (c : Code) (Q : State → Prop) : Heap → List Loc → Nat → Nat → JFrame → Prop := fun H locs k u g => W p l e R s m args below meth c H locs k u Q g
/-- what holds in the body -/
def gE (w : gW) (y : MethodName) (cc : ByteArray) (nL : Nat) (ret : Option FieldType) (p : Program) (s : State) (m : MethodId) (args : Array Value) (meth : Method) (c : Code) : Prop :=
  p.tables.exec = Jvm.exec ∧ c.code = cc ∧ c.maxLocals = nL ∧ s.vm.findClass y.cls = some m.cls ∧ (∀ x ∈ gTb, x.before args s = true) ∧ gKn w s ∧ meth.sig.returnType = ret ∧ meth.locks = false ∧ wz w ≤ s.heap.size ∧ (∀ q, q < wz w → s.heap[q]? = (wH w)[q]?)
section GE
variable {w : gW} {l : Launch} {y : MethodName} {cc : ByteArray} {nL : Nat} {ret : Option FieldType} {p : Program} {e : Env} {R : Room} {s : State} {m : MethodId} {args : Array Value} {below : List Frame} {meth : Method} {c : Code} {Q : State → Prop}
variable {h : gH} {k u : Nat} {lo lo' : List (Option Value)} {st : List Value} {pc : Nat}
theorem e_iconst (C : gE w y cc nL ret p s m args meth c) {n : Int} (hd : decode cc pc = .ok (.iconst n, 1)) (kk : gG w m nL (eW p l e R s m args below meth c Q) h k u lo (.int (iI n) :: st) (pc + 1)) : gG w m nL (eW p l e R s m args below meth c Q) h k u lo st pc := by
  obtain ⟨hx, hb, -⟩ := C
  exact fun H locs ls h1 h2 h3 => lv_iconst hx hb hd rfl (kk H locs ls h1 h2 h3)
theorem e_bipush (C : gE w y cc nL ret p s m args meth c) {n : Int} (hd : decode cc pc = .ok (.bipush n, 2)) (hv : (Int8.ofInt n).toInt32 = iI n) (kk : gG w m nL (eW p l e R s m args below meth c Q) h k u lo (.int (iI n) :: st) (pc + 2)) : gG w m nL (eW p l e R s m args below meth c Q) h k u lo st pc := by
  obtain ⟨hx, hb, -⟩ := C
  exact fun H locs ls h1 h2 h3 => lv_bipush hx hb hd hv (kk H locs ls h1 h2 h3)
theorem e_lconst (C : gE w y cc nL ret p s m args meth c) {n : Fin 2} (v : Int64) (hd : decode cc pc = .ok (.lconst n, 1)) (hv : Int64.ofNat (n : Nat) = v) (kk : gG w m nL (eW p l e R s m args below meth c Q) h k u lo (.long v :: st) (pc + 1)) : gG w m nL (eW p l e R s m args below meth c Q) h k u lo st pc := by
  obtain ⟨hx, hb, -⟩ := C
  exact fun H locs ls h1 h2 h3 => lv_lconst hx hb hd hv (kk H locs ls h1 h2 h3)
theorem e_iload_n (C : gE w y cc nL ret p s m args meth c) {f : Fin 4} (i : Nat) {x : Int} (hd : decode cc pc = .ok (.iload_n f, 1)) (hi : (f : Nat) = i) (hl : lo[i]? = some (some (.int (iI x)))) (kk : gG w m nL (eW p l e R s m args below meth c Q) h k u lo (.int (iI x) :: st) (pc + 1)) : gG w m nL (eW p l e R s m args below meth c Q) h k u lo st pc := by
  obtain ⟨hx, hb, -⟩ := C
  exact fun H locs ls h1 h2 h3 => lv_iload_n hx hb hd hi (h3.2 i _ hl).2 (kk H locs ls h1 h2 h3)
theorem e_iload (C : gE w y cc nL ret p s m args meth c) {i : Nat} {x : Int} (hd : decode cc pc = .ok (.iload i, 2)) (hl : lo[i]? = some (some (.int (iI x)))) (kk : gG w m nL (eW p l e R s m args below meth c Q) h k u lo (.int (iI x) :: st) (pc + 2)) : gG w m nL (eW p l e R s m args below meth c Q) h k u lo st pc := by
  obtain ⟨hx, hb, -⟩ := C
  exact fun H locs ls h1 h2 h3 => lv_iload hx hb hd (h3.2 i _ hl).2 (kk H locs ls h1 h2 h3)
theorem e_aload_n (C : gE w y cc nL ret p s m args meth c) {f : Fin 4} (i : Nat) {x : Nat} (hd : decode cc pc = .ok (.aload_n f, 1)) (hi : (f : Nat) = i) (hl : lo[i]? = some (some (.ref x))) (kk : gG w m nL (eW p l e R s m args below meth c Q) h k u lo (.ref x :: st) (pc + 1)) : gG w m nL (eW p l e R s m args below meth c Q) h k u lo st pc := by
  obtain ⟨hx, hb, -⟩ := C
  exact fun H locs ls h1 h2 h3 => lv_aload_n hx hb hd hi (h3.2 i _ hl).2 (kk H locs ls h1 h2 h3)
theorem e_aload (C : gE w y cc nL ret p s m args meth c) {i : Nat} {x : Nat} (hd : decode cc pc = .ok (.aload i, 2)) (hl : lo[i]? = some (some (.ref x))) (kk : gG w m nL (eW p l e R s m args below meth c Q) h k u lo (.ref x :: st) (pc + 2)) : gG w m nL (eW p l e R s m args below meth c Q) h k u lo st pc := by
  obtain ⟨hx, hb, -⟩ := C
  exact fun H locs ls h1 h2 h3 => lv_aload hx hb hd (h3.2 i _ hl).2 (kk H locs ls h1 h2 h3)
theorem e_istore (C : gE w y cc nL ret p s m args meth c) {i : Nat} {x : Int} (hd : decode cc pc = .ok (.istore i, 2)) (hn : i < nL) (kk : gG w m nL (eW p l e R s m args below meth c Q) h k u (lo.set i (some (.int (iI x)))) st (pc + 2)) : gG w m nL (eW p l e R s m args below meth c Q) h k u lo (.int (iI x) :: st) pc := by
  obtain ⟨hx, hb, -⟩ := C
  exact fun H locs ls h1 h2 h3 => lv_istore hx hb hd h3.has hn rfl (fun ls9 h9 => kk H locs ls9 h1 h2 (h3.st (v := .int (iI x)) rfl rfl h9))
theorem e_astore_n (C : gE w y cc nL ret p s m args meth c) {f : Fin 4} (i : Nat) {x : Nat} (hd : decode cc pc = .ok (.astore_n f, 1)) (hi : (f : Nat) = i) (hn : i < nL) (kk : gG w m nL (eW p l e R s m args below meth c Q) h k u (lo.set i (some (.ref x))) st (pc + 1)) : gG w m nL (eW p l e R s m args below meth c Q) h k u lo (.ref x :: st) pc := by
  obtain ⟨hx, hb, -⟩ := C
  exact fun H locs ls h1 h2 h3 => lv_astore_n hx hb hd hi h3.has hn rfl (fun ls9 h9 => kk H locs ls9 h1 h2 (h3.st (v := .ref x) rfl rfl h9))
theorem e_iadd (C : gE w y cc nL ret p s m args meth c) {x z : Int} (hd : decode cc pc = .ok (.iadd, 1)) (kk : gG w m nL (eW p l e R s m args below meth c Q) h k u lo (.int (iI (x + z)) :: st) (pc + 1)) : gG w m nL (eW p l e R s m args below meth c Q) h k u lo (.int (iI z) :: .int (iI x) :: st) pc := by
  obtain ⟨hx, hb, -⟩ := C
  exact fun H locs ls h1 h2 h3 => lv_iadd hx hb hd (by rw [iI_add]; exact kk H locs ls h1 h2 h3)
theorem e_isub (C : gE w y cc nL ret p s m args meth c) {x z : Int} (hd : decode cc pc = .ok (.isub, 1)) (kk : gG w m nL (eW p l e R s m args below meth c Q) h k u lo (.int (iI (x - z)) :: st) (pc + 1)) : gG w m nL (eW p l e R s m args below meth c Q) h k u lo (.int (iI z) :: .int (iI x) :: st) pc := by
  obtain ⟨hx, hb, -⟩ := C
  exact fun H locs ls h1 h2 h3 => lv_isub hx hb hd (by rw [iI_sub]; exact kk H locs ls h1 h2 h3)
theorem e_iand (C : gE w y cc nL ret p s m args meth c) {x z : Int32} (hd : decode cc pc = .ok (.iand, 1)) (kk : gG w m nL (eW p l e R s m args below meth c Q) h k u lo (.int (x &&& z) :: st) (pc + 1)) : gG w m nL (eW p l e R s m args below meth c Q) h k u lo (.int z :: .int x :: st) pc := by
  obtain ⟨hx, hb, -⟩ := C
  exact fun H locs ls h1 h2 h3 => lv_iand hx hb hd (kk H locs ls h1 h2 h3)
theorem e_i2l (C : gE w y cc nL ret p s m args meth c) {x : Int32} (hd : decode cc pc = .ok (.i2l, 1)) (kk : gG w m nL (eW p l e R s m args below meth c Q) h k u lo (.long x.toInt64 :: st) (pc + 1)) : gG w m nL (eW p l e R s m args below meth c Q) h k u lo (.int x :: st) pc := by
  obtain ⟨hx, hb, -⟩ := C
  exact fun H locs ls h1 h2 h3 => lv_i2l hx hb hd rfl (kk H locs ls h1 h2 h3)
theorem e_lcmp (C : gE w y cc nL ret p s m args meth c) {x z : Int64} (hd : decode cc pc = .ok (.lcmp, 1)) (kk : gG w m nL (eW p l e R s m args below meth c Q) h k u lo (.int (lg_cmp x z) :: st) (pc + 1)) : gG w m nL (eW p l e R s m args below meth c Q) h k u lo (.long z :: .long x :: st) pc := by
  obtain ⟨hx, hb, -⟩ := C
  exact fun H locs ls h1 h2 h3 => W.lcmp hx hb hd (kk H locs ls h1 h2 h3)
theorem e_dup (C : gE w y cc nL ret p s m args meth c) {v : Value} (hd : decode cc pc = .ok (.dup, 1)) (hv : v.category = 1) (kk : gG w m nL (eW p l e R s m args below meth c Q) h k u lo (v :: v :: st) (pc + 1)) : gG w m nL (eW p l e R s m args below meth c Q) h k u lo (v :: st) pc := by
  obtain ⟨hx, hb, -⟩ := C
  exact fun H locs ls h1 h2 h3 => lv_dup hx hb hd ((gv_cat w v).trans hv) (kk H locs ls h1 h2 h3)
theorem e_goto (C : gE w y cc nL ret p s m args meth c) {off : Int} (tgt : Nat) (hd : decode cc pc = .ok (.goto off, 3)) (ht : (pc : Int) + off = (tgt : Int)) (kk : gG w m nL (eW p l e R s m args below meth c Q) h k u lo st tgt) : gG w m nL (eW p l e R s m args below meth c Q) h k u lo st pc := by
  obtain ⟨hx, hb, -⟩ := C
  exact fun H locs ls h1 h2 h3 => lv_goto hx hb hd ht (kk H locs ls h1 h2 h3)
theorem e_if_eq (C : gE w y cc nL ret p s m args meth c) {x : Int} {off : Int} (tgt : Nat) (hd : decode cc pc = .ok (.ifCond .eq off, 3)) (ht : (pc : Int) + off = (tgt : Int)) (h8 : -2147483648 ≤ x ∧ x < 2147483648) (kt : x = 0 → gG w m nL (eW p l e R s m args below meth c Q) h k u lo st tgt) (kf : ¬ x = 0 → gG w m nL (eW p l e R s m args below meth c Q) h k u lo st (pc + 3)) : gG w m nL (eW p l e R s m args below meth c Q) h k u lo (.int (iI x) :: st) pc := by
  obtain ⟨hx, hb, -⟩ := C
  exact fun H locs ls h1 h2 h3 => lv_if_eq hx hb hd ht (fun q => kt ((iI_eq h8 (show (-2147483648 : Int) ≤ 0 ∧ (0 : Int) < 2147483648 by omega)).mp q) H locs ls h1 h2 h3) (fun q => kf (fun e => q ((iI_eq h8 (show (-2147483648 : Int) ≤ 0 ∧ (0 : Int) < 2147483648 by omega)).mpr e)) H locs ls h1 h2 h3)
theorem e_if_ne (C : gE w y cc nL ret p s m args meth c) {x : Int} {off : Int} (tgt : Nat) (hd : decode cc pc = .ok (.ifCond .ne off, 3)) (ht : (pc : Int) + off = (tgt : Int)) (h8 : -2147483648 ≤ x ∧ x < 2147483648) (kt : ¬ x = 0 → gG w m nL (eW p l e R s m args below meth c Q) h k u lo st tgt) (kf : x = 0 → gG w m nL (eW p l e R s m args below meth c Q) h k u lo st (pc + 3)) : gG w m nL (eW p l e R s m args below meth c Q) h k u lo (.int (iI x) :: st) pc := by
  obtain ⟨hx, hb, -⟩ := C
  exact fun H locs ls h1 h2 h3 => lv_if_ne hx hb hd ht (fun q => kt (fun e => q ((iI_eq h8 (show (-2147483648 : Int) ≤ 0 ∧ (0 : Int) < 2147483648 by omega)).mpr e)) H locs ls h1 h2 h3) (fun q => kf ((iI_eq h8 (show (-2147483648 : Int) ≤ 0 ∧ (0 : Int) < 2147483648 by omega)).mp q) H locs ls h1 h2 h3)
theorem e_icmp_eq (C : gE w y cc nL ret p s m args meth c) {x z : Int} {off : Int} (tgt : Nat) (hd : decode cc pc = .ok (.if_icmp .eq off, 3)) (ht : (pc : Int) + off = (tgt : Int)) (h8 : -2147483648 ≤ x ∧ x < 2147483648) (h9 : -2147483648 ≤ z ∧ z < 2147483648) (kt : x = z → gG w m nL (eW p l e R s m args below meth c Q) h k u lo st tgt) (kf : ¬ x = z → gG w m nL (eW p l e R s m args below meth c Q) h k u lo st (pc + 3)) : gG w m nL (eW p l e R s m args below meth c Q) h k u lo (.int (iI z) :: .int (iI x) :: st) pc := by
  obtain ⟨hx, hb, -⟩ := C
  exact fun H locs ls h1 h2 h3 => lv_icmp_eq hx hb hd ht (fun q => kt ((iI_eq h8 h9).mp q) H locs ls h1 h2 h3) (fun q => kf (fun e => q ((iI_eq h8 h9).mpr e)) H locs ls h1 h2 h3)
theorem e_icmp_gt (C : gE w y cc nL ret p s m args meth c) {x z : Int} {off : Int} (tgt : Nat) (hd : decode cc pc = .ok (.if_icmp .gt off, 3)) (ht : (pc : Int) + off = (tgt : Int)) (h8 : -2147483648 ≤ x ∧ x < 2147483648) (h9 : -2147483648 ≤ z ∧ z < 2147483648) (kt : z < x → gG w m nL (eW p l e R s m args below meth c Q) h k u lo st tgt) (kf : ¬ z < x → gG w m nL (eW p l e R s m args below meth c Q) h k u lo st (pc + 3)) : gG w m nL (eW p l e R s m args below meth c Q) h k u lo (.int (iI z) :: .int (iI x) :: st) pc := by
  obtain ⟨hx, hb, -⟩ := C
  exact fun H locs ls h1 h2 h3 => lv_icmp_gt hx hb hd ht (fun q => kt ((iI_lt h9 h8).mp q) H locs ls h1 h2 h3) (fun q => kf (fun e => q ((iI_lt h9 h8).mpr e)) H locs ls h1 h2 h3)
theorem e_iinc (C : gE w y cc nL ret p s m args meth c) {i : Nat} {n : Int} {x : Int} (hd : decode cc pc = .ok (.iinc i n, 3)) (hl : lo[i]? = some (some (.int (iI x)))) (hn : i < nL) (kk : gG w m nL (eW p l e R s m args below meth c Q) h k u (lo.set i (some (.int (iI (x + n))))) st (pc + 3)) : gG w m nL (eW p l e R s m args below meth c Q) h k u lo st pc := by
  obtain ⟨hx, hb, -⟩ := C
  intro H locs ls h1 h2 h3
  have hm := gpr_in (w := w) lo 0 i _ hl
  rw [Nat.zero_add] at hm
  obtain ⟨j, hj⟩ := List.getElem?_of_mem hm
  exact lv_iinc hx hb hd h3.has hj (v := iI (x + n)) (iI_add x n) hn rfl (fun ls9 h9 => kk H locs ls9 h1 h2 (h3.st (v := .int (iI (x + n))) rfl rfl h9))
theorem e_tableIn (C : gE w y cc nL ret p s m args meth c) {dflt lo9 hi : Int} {offs : Array Int} {len : Nat} {x : Int} {off : Int} (tgt : Nat) (hd : decode cc pc = .ok (.tableswitch dflt lo9 hi offs, len)) (hr : -2147483648 ≤ x ∧ x < 2147483648) (h8 : ¬ x < lo9) (h9 : ¬ hi < x) (ho : offs[(x - lo9).toNat]? = some off) (ht : (pc : Int) + off = (tgt : Int)) (kk : gG w m nL (eW p l e R s m args below meth c Q) h k u lo st tgt) : gG w m nL (eW p l e R s m args below meth c Q) h k u lo (.int (iI x) :: st) pc := by
  obtain ⟨hx, hb, -⟩ := C
  exact fun H locs ls h1 h2 h3 => lv_tableIn hx hb hd (by rw [iI_toInt hr]; exact h8) (by rw [iI_toInt hr]; exact h9) (by rw [iI_toInt hr]; exact ho) ht (kk H locs ls h1 h2 h3)
theorem e_tableOut (C : gE w y cc nL ret p s m args meth c) {dflt lo9 hi : Int} {offs : Array Int} {len : Nat} {x : Int} (tgt : Nat) (hd : decode cc pc = .ok (.tableswitch dflt lo9 hi offs, len)) (hr : -2147483648 ≤ x ∧ x < 2147483648) (h8 : x < lo9 ∨ hi < x) (ht : (pc : Int) + dflt = (tgt : Int)) (kk : gG w m nL (eW p l e R s m args below meth c Q) h k u lo st tgt) : gG w m nL (eW p l e R s m args below meth c Q) h k u lo (.int (iI x) :: st) pc := by
  obtain ⟨hx, hb, -⟩ := C
  exact fun H locs ls h1 h2 h3 => lv_tableOut hx hb hd (by rw [iI_toInt hr]; exact h8) ht (kk H locs ls h1 h2 h3)
theorem e_lald (C : gE w y cc nL ret p s m args meth c) {a : Nat} (hK : gK h a = (9, 1)) (hd : decode cc pc = .ok (.laload, 1)) (kk : gG w m nL (eW p l e R s m args below meth c Q) h k u lo (.long (gJ h a) :: st) (pc + 1)) : gG w m nL (eW p l e R s m args below meth c Q) h k u lo (.int (iI 0) :: .ref a :: st) pc := by
  obtain ⟨hx9, hb, hml, hown, hts, hkn, hr, hlocks, -⟩ := C
  intro H locs ls h1 h2 h3
  have hat := (h1.2.2.2.1 a).2.2.1
  rw [hK] at hat
  have hcell := hat rfl
  have hin : vp_in (0 : Int32) 1 := by rw [← nI_0]; exact vp_in_nI (by omega) (by omega)
  have hP : va_P (wD w) vwCl [(gρ w a, .inl (wcy w 9, 1, .inr (.inl (fun j => if j = 0 then gJ h a else 0))))] H := fun q z hz => by
    cases q with
    | zero => cases hz; exact hcell
    | succ q => simp at hz
  exact va_lald hx9 hb hkn.2.2.1 hP 0 2 rfl rfl hin hd (kk H locs ls h1 h2 h3)
theorem e_last (C : gE w y cc nL ret p s m args meth c) {a : Nat} {v : Int64} (hK : gK h a = (9, 1)) (hd : decode cc pc = .ok (.lastore, 1)) (kk : gG w m nL (eW p l e R s m args below meth c Q) (gputJ h a v) k u lo st (pc + 1)) : gG w m nL (eW p l e R s m args below meth c Q) h k u lo (.long v :: .int (iI 0) :: .ref a :: st) pc := by
  obtain ⟨hx9, hb, hml, hown, hts, hkn, hr, hlocks, -⟩ := C
  intro H locs ls h1 h2 h3
  have hpos := (h1.pos hK (by omega)).1
  have hat := (h1.2.2.2.1 a).2.2.1
  rw [hK] at hat
  have hcell := hat rfl
  have hr := (hkn.2.2.1.2 2 (wcy w 9, .long) rfl).1 1 (fun j => .long (if j = 0 then gJ h a else 0))
  have hin : vp_in (0 : Int32) 1 := by rw [← nI_0]; exact vp_in_nI (by omega) (by omega)
  refine W.last (x := v) hx9 hb hcell hr (fun q => by cases q) (by show ¬ ((0 : Int32) < 0 ∨ (arrV _ _ _).slots.size ≤ _); rw [arrV_size]; exact hin) rfl rfl hd fun H1 e z oq => ?_
  refine kk H1 _ _ (h1.one hkn.2.1 hpos z oq rfl rfl (fun b hb => rfl) (fun b _ => rfl) (fun b hb => by show (if b = a then v else gJ h b) = gJ h b; rw [if_neg hb]) ?_) (fun z hz => ?_) h3
  · rw [hK]
    refine ⟨fun z => absurd z (by simp), fun z => absurd z (by simp), fun _ => ?_, fun z => absurd z (by simp)⟩
    have e0 : gJ (gputJ h a v) a = v := by show (if a = a then v else gJ h a) = v; rw [if_pos rfl]
    have e00 : (iI 0).toNatClampNeg = 0 := rfl
    rw [e, vp_cell_l, vp_cell_l, arrV_store, e0, e00]
    congr 2
    funext q
    by_cases hq : q = 0
    · subst hq; simp [updV]
    · simp [updV, hq]
  · rcases List.mem_append.mp hz with z1 | z1
    · exact h2 z z1
    · rw [List.mem_singleton] at z1
      subst z1
      exact gA_ρ hpos
theorem e_new (C : gE w y cc nL ret p s m args meth c) {idx ci N : Nat} (hB : gBorn ci N) (hw : ∃ r, vwCl[ci]? = some r ∧ r.2.2 = N ∧ Cond.classLink y.cls idx r.1 ∈ gTb ∧ Cond.instantiable r.1 N ∈ gTb ∧ Cond.initialized r.1 ∈ gTb) (hk : k + 1 ≤ R.cells) (hu : u + N ≤ R.slots) (hd : decode cc pc = .ok (.new idx, 3)) (kk : gG w m nL (eW p l e R s m args below meth c Q) (gnew h (ci, N)) (k + 1) (u + N) lo (.ref (gn h + 1) :: st) (pc + 3)) : gG w m nL (eW p l e R s m args below meth c Q) h k u lo st pc := by
  obtain ⟨hx9, hb, hml, hown, hts, hkn, hr, hlocks, -⟩ := C
  obtain ⟨r, hr1, hr2, w1, w2, w3⟩ := hw
  obtain ⟨C0, T0, ty, ⟨hcl, hin, -, -⟩, hty, hdf⟩ := hB
  cases hcl.symm.trans hr1
  intro H locs ls h1 h2 h3
  have hKn := hkn.2.2.1.1 ci _ hcl
  refine W.newcK (n := N) hx9 hb hown (hts _ w1) (hts _ w2) (hts _ w3) rfl hd hk hu hKn.2.1 rfl fun H1 kC hkC e1 z1 o1 => ?_
  have hat : gat w (ci, N) (fun _ => 0) (fun _ => none) 0 H.size H1 := by
    have hc7 : ci < 7 := (List.getElem?_eq_some_iff.mp hcl).1
    refine ⟨fun _ => (u_born ty hts hin hKn hkC e1 hty).to (fun j hj => ?_), fun z => absurd z (by dsimp only; omega), fun z => absurd z (by dsimp only; omega), fun z => absurd z (by dsimp only; omega)⟩
    rw [hdf j hj]
    unfold gfv
    split <;> rfl
  have := kk H1 locs ls (h1.new (ci, N) z1 o1 hat) h2 h3
  rw [List.map_cons] at this
  rw [show gv w (.ref (gn h + 1)) = .ref H.size by show Value.ref (gρ w (gn h + 1)) = _; rw [gρ_pos (by omega), h1.1]; congr 1] at this
  exact this
theorem e_widen {k' u' : Nat} (h1 : k ≤ k') (h2 : u ≤ u') (kk : gG w m nL (eW p l e R s m args below meth c Q) h k' u' lo st pc) : gG w m nL (eW p l e R s m args below meth c Q) h k u lo st pc :=
  fun H locs ls a1 a2 a3 => W.widen h1 h2 (kk H locs ls a1 a2 a3)
theorem t_istore (C : gE w y cc nL ret p s m args meth c) {i : Nat} {x : Int} (hd : decode cc pc = .ok (.istore i, 2)) (hn : i < nL) (hlo : lo.set i (some (.int (iI x))) = lo') (kk : gG w m nL (eW p l e R s m args below meth c Q) h k u lo' st (pc + 2)) : gG w m nL (eW p l e R s m args below meth c Q) h k u lo (.int (iI x) :: st) pc := e_istore C hd hn (by rw [hlo]; exact kk)
theorem t_astore_n (C : gE w y cc nL ret p s m args meth c) {f : Fin 4} (i : Nat) {x : Nat} (hd : decode cc pc = .ok (.astore_n f, 1)) (hi : (f : Nat) = i) (hn : i < nL) (hlo : lo.set i (some (.ref x)) = lo') (kk : gG w m nL (eW p l e R s m args below meth c Q) h k u lo' st (pc + 1)) : gG w m nL (eW p l e R s m args below meth c Q) h k u lo (.ref x :: st) pc := e_astore_n C i hd hi hn (by rw [hlo]; exact kk)
theorem t_iinc (C : gE w y cc nL ret p s m args meth c) {i : Nat} {n : Int} {x : Int} (hd : decode cc pc = .ok (.iinc i n, 3)) (hl : lo[i]? = some (some (.int (iI x)))) (hn : i < nL) (hlo : lo.set i (some (.int (iI (x + n)))) = lo') (kk : gG w m nL (eW p l e R s m args below meth c Q) h k u lo' st (pc + 3)) : gG w m nL (eW p l e R s m args below meth c Q) h k u lo st pc := e_iinc C hd hl hn (by rw [hlo]; exact kk)
theorem e_newL (C : gE w y cc nL ret p s m args meth c) (hw : Cond.arrayClass .long ∈ gTb) (hk : k + 1 ≤ R.cells) (hu : u + 1 ≤ R.slots) (hd : decode cc pc = .ok (.newarray .long, 2)) (kk : gG w m nL (eW p l e R s m args below meth c Q) (gnew h (9, 1)) (k + 1) (u + 1) lo (.ref (gn h + 1) :: st) (pc + 2)) : gG w m nL (eW p l e R s m args below meth c Q) h k u lo (.int (iI 1) :: st) pc := by
  obtain ⟨hx9, hb, hml, hown, hts, hkn, hr, hlocks, -⟩ := C
  rw [show iI 1 = nI 1 from rfl]
  intro H locs ls h1 h2 h3
  refine va_newaK (atype := .long) (N := 1) hx9 hb (hts _ hw) rfl hd rfl (nI_pos (by omega)) (nI_clamp (by omega)) (by show 1 * 8 ≤ _; omega) hk hu rfl fun H1 cA e1 z1 o1 hAr hNm => ?_
  have hcA : wcy w 9 = cA := Option.some.inj ((hkn.2.2.1.2 2 (wcy w 9, .long) rfl).2.symm.trans hNm)
  have hat : gat w (9, 1) (fun _ => 0) (fun _ => none) 0 H.size H1 := by
    refine ⟨fun z => absurd z (by simp), fun z => absurd z (by simp), fun _ => ?_, fun z => absurd z (by simp)⟩
    rw [e1, ← hcA, vp_cell_l]
    congr 2
    funext q
    show Value.long 0 = Value.long _
    split <;> rfl
  have := kk H1 locs ls (h1.new (9, 1) z1 o1 hat) h2 h3
  rw [List.map_cons] at this
  rw [show gv w (.ref (gn h + 1)) = .ref H.size by show Value.ref (gρ w (gn h + 1)) = _; rw [gρ_pos (by omega), h1.1]; congr 1] at this
  exact this
/-- the script's own cell -/
theorem e_sld (C : gE w y cc nL ret p s m args meth c) {L : Nat} {xs : Nat → Int32} (hX : va_X (wb w) L xs s (wH w)) (i : Nat) {x : Int} (hx : x = (i : Int)) (hi : i < L) (hL : L < 2147483648) (hd : decode cc pc = .ok (.iaload, 1)) (kk : gG w m nL (eW p l e R s m args below meth c Q) h k u lo (.int (iI (xs i).toInt) :: st) (pc + 1)) : gG w m nL (eW p l e R s m args below meth c Q) h k u lo (.int (iI x) :: .ref 0 :: st) pc := by
  obtain ⟨hx9, hb, hml, hown, hts, hkn, hr, hlocks, -⟩ := C
  subst hx
  rw [iI_nI]
  intro H locs ls h1 h2 h3
  have hb9 := hkn.2.1
  have hb8 : wb w < (wH w).size := by rw [← hkn.1]; exact hb9
  have hS : va_S (gA w) (wH w) H locs := ⟨by rw [← hkn.1, h1.1]; exact Nat.le_add_right _ _, fun q hq _ => h1.2.2.2.2 q (by rw [hkn.1]; exact hq), h2⟩
  have hkk := kk H locs ls h1 h2 h3
  have hcl : (nI i).toNatClampNeg = i := nI_clamp (by omega)
  rw [iI_of] at hkk
  refine va_sld hx9 hb hX hb8 (fun q => Nat.not_le.mpr hb9 q) hS (vp_in_nI hi (by omega)) hd ?_
  rw [hcl]
  exact hkk
theorem e_slen (C : gE w y cc nL ret p s m args meth c) {L : Nat} {xs : Nat → Int32} (hX : va_X (wb w) L xs s (wH w)) (hd : decode cc pc = .ok (.arraylength, 1)) (kk : gG w m nL (eW p l e R s m args below meth c Q) h k u lo (.int (iI (L : Int)) :: st) (pc + 1)) : gG w m nL (eW p l e R s m args below meth c Q) h k u lo (.ref 0 :: st) pc := by
  obtain ⟨hx9, hb, hml, hown, hts, hkn, hr, hlocks, -⟩ := C
  intro H locs ls h1 h2 h3
  have hb9 := hkn.2.1
  have hb8 : wb w < (wH w).size := by rw [← hkn.1]; exact hb9
  have hS : va_S (gA w) (wH w) H locs := ⟨by rw [← hkn.1, h1.1]; exact Nat.le_add_right _ _, fun q hq _ => h1.2.2.2.2 q (by rw [hkn.1]; exact hq), h2⟩
  have hkk := kk H locs ls h1 h2 h3
  rw [iI_nI] at hkk
  exact va_slen hx9 hb hX hb8 (fun q => Nat.not_le.mpr hb9 q) hS hd hkk
theorem e_callV (C : gE w y cc nL ret p s m args meth c) {idx ci N a n : Nat} {y2 : MethodName} {cc2 : ByteArray} {nL2 : Nat} {ret2 : Option FieldType} {d2 mc2 ms2 : Nat} {post2 : Option Value → gH → Prop} (As rest : List Value) (hL : gLv y idx ci N y2 cc2 nL2 ret2 n) (hM : gCt w l y2 cc2 nL2 ret2 d2 mc2 ms2 (.ref a :: As) h post2) (hst : st = As.reverse ++ .ref a :: rest) (hn : As.length = n) (hK : gK h a = (ci, N)) (hdd : d2 + 1 ≤ R.frames) (hloc : 19 + nL2 + 30 * d2 ≤ R.locals) (hk : k + mc2 ≤ R.cells) (hu : u + ms2 ≤ R.slots) (hroom : (rest.map fun v => v.category).sum ≤ 8) (hd : decode cc pc = .ok (.invokevirtual idx, 3))
    (kk : ∀ (r : Option Value) (h' : gH), post2 r h' → gG w m nL (eW p l e R s m args below meth c Q) h' (k + mc2) (u + ms2) lo (r.toList ++ rest) (pc + 3)) : gG w m nL (eW p l e R s m args below meth c Q) h k u lo st pc := by
  obtain ⟨hx9, hb, hml, hown, hts, hkn, -⟩ := C
  obtain ⟨⟨hlink, hini, hcode, hdsc, hnl⟩, hins, hsel, r, hr1, hr2, hr3⟩ := hL
  intro H locs ls h1 h2 h3
  subst hst
  have hat := (h1.2.2.2.1 a).1
  rw [hK] at hat
  obtain ⟨cell, q1, q2, q3, -⟩ := hat (List.getElem?_eq_some_iff.mp hr1).1
  have hfc := (hkn.2.2.1.1 ci _ hr1).2.1
  have hall : ∀ x ∈ (Cond.code y2 cc2 nL2 ret2 :: gTb), x ∈ gTb := fun x hx => (List.mem_cons.mp hx).elim (fun e => e ▸ hcode) id
  have hPre : PreV s H y2.cls (gρ w a) (gPc w (.ref a :: As) h) (As.map (gv w)) := ⟨gPc_blind w _ h, ⟨cell, q1, by rw [q3]; rfl, by rw [q2, ← hr2]; exact hfc⟩, fun U hU hW => ⟨rfl, hkn.warm hW, by rw [hU]; exact h1⟩⟩
  have hstk : (As.reverse ++ .ref a :: rest).map (gv w) = (As.map (gv w)).reverse ++ .ref (gρ w a) :: rest.map (gv w) := by rw [List.map_append, List.map_reverse]; rfl
  have hroom9 : ((rest.map (gv w)).map fun v => v.category).sum ≤ 8 := by rw [gst_cat]; exact hroom
  have hRR : (gRm d2 mc2 ms2).frames + 1 ≤ R.frames ∧ 8 + (nL2 + 11) + (gRm d2 mc2 ms2).locals ≤ R.locals := by
    refine ⟨hdd, ?_⟩
    show 8 + (nL2 + 11) + 30 * d2 ≤ R.locals
    omega
  rcases hlink with hlink | ⟨host, hlink⟩
  · refine g_back (va_runV (As := As.map (gv w)) (rest := rest.map (gv w)) (C := y2.cls) ⟨hx9, hb, hml, hown, hts⟩ hM (cwV n hts (gTb_good fun x hx => ?_) rfl rfl rfl ⟨rfl, hdsc⟩ hRR) hPre rfl (by rw [List.length_map]; exact hn) h3.1.1 hstk (lv_room hroom9) hd ⟨hk, hu⟩) h2 h3 kk
    simp only [wsV, List.mem_append, List.mem_cons, List.not_mem_nil, or_false] at hx
    rcases hx with (rfl | rfl | rfl | rfl) | hx
    · exact hlink
    · exact hins
    · exact hsel
    · exact hini
    · rcases hx with rfl | hx
      · exact hcode
      · exact hx
  · exact g_back (va_runVN (As := As.map (gv w)) (rest := rest.map (gv w)) (C := y2.cls) ⟨hx9, hb, hml, hown, hts⟩ hM ⟨va_cnB n hts (gTb_good hall) rfl rfl rfl (hkn.2.2.2.1 _ hlink) (hts _ hini) hdsc hRR, hts _ hins, hts _ hsel⟩ hPre rfl (by rw [List.length_map]; exact hn) h3.1.1 hstk (lv_room hroom9) hd ⟨hk, hu⟩) h2 h3 kk
theorem e_callI (C : gE w y cc nL ret p s m args meth c) {idx a n : Nat} {y2 : MethodName} {cc2 : ByteArray} {nL2 : Nat} {d2 mc2 ms2 : Nat} {post2 : Option Value → gH → Prop} (As rest : List Value) (hL : gLk y idx y2 cc2 nL2 none n) (hins : Cond.instanceMethod y2 ∈ gTb) (hy1 : y2.name = "<init>") (hM : gCt w l y2 cc2 nL2 none d2 mc2 ms2 (.ref a :: As) h post2) (hst : st = As.reverse ++ .ref a :: rest) (hn : As.length = n) (hdd : d2 + 1 ≤ R.frames) (hloc : 19 + nL2 + 30 * d2 ≤ R.locals) (hk : k + mc2 ≤ R.cells) (hu : u + ms2 ≤ R.slots) (hroom : (rest.map fun v => v.category).sum ≤ 8) (hd : decode cc pc = .ok (.invokespecial idx, 3))
    (kk : ∀ (r : Option Value) (h' : gH), post2 r h' → gG w m nL (eW p l e R s m args below meth c Q) h' (k + mc2) (u + ms2) lo (r.toList ++ rest) (pc + 3)) : gG w m nL (eW p l e R s m args below meth c Q) h k u lo st pc := by
  obtain ⟨hx9, hb, hml, hown, hts, hkn, -⟩ := C
  obtain ⟨hlink, hini, hcode, hdsc, hnl⟩ := hL
  intro H locs ls h1 h2 h3
  subst hst
  have hall : ∀ x ∈ (Cond.code y2 cc2 nL2 none :: gTb), x ∈ gTb := fun x hx => (List.mem_cons.mp hx).elim (fun e => e ▸ hcode) id
  have hPre : PreS s H (gPc w (.ref a :: As) h) (.ref (gρ w a) :: As.map (gv w)) := ⟨gPc_blind w _ h, fun U hU hW => ⟨rfl, hkn.warm hW, by rw [hU]; exact h1⟩⟩
  have hstk : (As.reverse ++ .ref a :: rest).map (gv w) = (As.map (gv w)).reverse ++ .ref (gρ w a) :: rest.map (gv w) := by rw [List.map_append, List.map_reverse]; rfl
  have hroom9 : ((rest.map (gv w)).map fun v => v.category).sum ≤ 8 := by rw [gst_cat]; exact hroom
  have hRR : (gRm d2 mc2 ms2).frames + 1 ≤ R.frames ∧ 8 + (nL2 + 11) + (gRm d2 mc2 ms2).locals ≤ R.locals := by
    refine ⟨hdd, ?_⟩
    show 8 + (nL2 + 11) + 30 * d2 ≤ R.locals
    omega
  rcases hlink with hlink | ⟨host, hlink⟩
  · exact g_back (va_runI (As := As.map (gv w)) (rest := rest.map (gv w)) ⟨hx9, hb, hml, hown, hts⟩ hM (cwI n hts (gTb_good hall) rfl rfl rfl (hts _ hini) (hts _ hlink) (hts _ hins) hy1 hdsc hRR) hPre rfl (by rw [List.length_map]; exact hn) h3.1.1 hstk (lv_room hroom9) hd ⟨hk, hu⟩) h2 h3 kk
  · exact g_back (va_runIN (As := As.map (gv w)) (rest := rest.map (gv w)) ⟨hx9, hb, hml, hown, hts⟩ hM ⟨va_cnB n hts (gTb_good hall) rfl rfl rfl (hkn.2.2.2.1 _ hlink) (hts _ hini) hdsc hRR, hy1, hts _ hins⟩ hPre rfl (by rw [List.length_map]; exact hn) h3.1.1 hstk (lv_room hroom9) hd ⟨hk, hu⟩) h2 h3 kk
/-- a method with a table of exceptions, that returns -/
def gCw (w : gW) (l : Launch) (y : MethodName) (cc : ByteArray) (nL : Nat) (ret : Option FieldType) (hh : List (Nat × Nat × Nat × Nat)) (d mc ms : Nat) (as : List Value) (h : gH) (post : Option Value → gH → Prop) : Prop :=
  Met l y (.codeWith y cc nL ret hh :: gTb) (gRm d mc ms) (gPc w as h) (gQc w post) mc ms (gA w)
theorem e_callW (C : gE w y cc nL ret p s m args meth c) {idx n : Nat} {y2 : MethodName} {cc2 : ByteArray} {nL2 : Nat} {ret2 : Option FieldType} {hh2 : List (Nat × Nat × Nat × Nat)} {d2 mc2 ms2 : Nat} {post2 : Option Value → gH → Prop} (As rest : List Value) (hlk : Cond.methodLink y.cls idx y2 ∈ gTb) (hsta : Cond.static y2 ∈ gTb) (hini : Cond.initialized y2.cls ∈ gTb) (hcode : Cond.codeWith y2 cc2 nL2 ret2 hh2 ∈ gTb) (hdsc : y2.cls ≠ "java/lang/invoke/MethodHandle" ∧ y2.cls ≠ "java/lang/invoke/VarHandle" ∧ (parseMethodDescriptor y2.desc).map (fun d => d.parameters.length) = some n) (hM : gCw w l y2 cc2 nL2 ret2 hh2 d2 mc2 ms2 As h post2) (hst : st = As.reverse ++ rest) (hn : As.length = n) (hdd : d2 + 1 ≤ R.frames) (hloc : 19 + nL2 + 30 * d2 ≤ R.locals) (hk : k + mc2 ≤ R.cells) (hu : u + ms2 ≤ R.slots) (hroom : (rest.map fun v => v.category).sum ≤ 8) (hd : decode cc pc = .ok (.invokestatic idx, 3))
    (kk : ∀ (r : Option Value) (h' : gH), post2 r h' → gG w m nL (eW p l e R s m args below meth c Q) h' (k + mc2) (u + ms2) lo (r.toList ++ rest) (pc + 3)) : gG w m nL (eW p l e R s m args below meth c Q) h k u lo st pc := by
  obtain ⟨hx9, hb, hml, hown, hts, hkn, -⟩ := C
  intro H locs ls h1 h2 h3
  subst hst
  have hPre : PreS s H (gPc w As h) (As.map (gv w)) := ⟨gPc_blind w _ h, fun U hU hW => ⟨rfl, hkn.warm hW, by rw [hU]; exact h1⟩⟩
  have hstk : (As.reverse ++ rest).map (gv w) = (As.map (gv w)).reverse ++ rest.map (gv w) := by rw [List.map_append, List.map_reverse]
  have hroom9 : ((rest.map (gv w)).map fun v => v.category).sum ≤ 8 := by rw [gst_cat]; exact hroom
  have hRR : (gRm d2 mc2 ms2).frames + 1 ≤ R.frames ∧ 8 + (nL2 + 11) + (gRm d2 mc2 ms2).locals ≤ R.locals := by
    refine ⟨hdd, ?_⟩
    show 8 + (nL2 + 11) + 30 * d2 ≤ R.locals
    omega
  refine g_back (vx_runSW (As := As.map (gv w)) (rest := rest.map (gv w)) ⟨hx9, hb, hml, hown, hts⟩ hM (vx_cwSW n hts (gTb_good fun x hx => ?_) rfl rfl rfl hdsc hRR) hPre rfl (by rw [List.length_map]; exact hn) h3.1.1 hstk (lv_room hroom9) hd ⟨hk, hu⟩) h2 h3 kk
  simp only [va_wsS, List.mem_append, List.mem_cons, List.not_mem_nil, or_false] at hx
  rcases hx with (rfl | rfl | rfl) | hx
  · exact hlk
  · exact hsta
  · exact hini
  · rcases hx with rfl | hx
    · exact hcode
    · exact hx
/-- what the method does with the cell q thrown over the frame at pc -/
def eX (w : gW) (m : MethodId) (nL : Nat) (p : Program) (l : Launch) (e : Env) (R : Room) (s : State) (args : Array Value) (below : List Frame) (meth : Method) (c : Code) (Q : State → Prop) (E : String) (h : gH) (k u : Nat) (lo : List (Option Value)) (rest : List Value) (pc : Nat) : Prop :=
  ∀ (H : Heap) (locs : List Loc) (ls : Array Slot) (q : Addr) (ce : Cell), gRep w h H → (∀ z ∈ locs, gA w z.base) → gLo w nL lo ls → H[q]? = some ce → ce.vm = .none → s.vm.findClass E = some ce.cls → vx_W p l e R s m args below meth c H locs k u Q (F0 m pc ls (rest.map (gv w))) q
theorem e_callX (C : gE w y cc nL ret p s m args meth c) {idx ci N a n : Nat} {y2 : MethodName} {cc2 : ByteArray} {nL2 : Nat} {ret2 : Option FieldType} {d2 mc2 ms2 : Nat} {post2 : Option Value → gH → Prop} {px2 : String → gH → Prop} (As rest : List Value) (hlk : Cond.methodLink y.cls idx y2 ∈ gTb) (hL : gLv y idx ci N y2 cc2 nL2 ret2 n) (hM : gCx w l y2 cc2 nL2 ret2 d2 mc2 ms2 (.ref a :: As) h post2 px2) (hst : st = As.reverse ++ .ref a :: rest) (hn : As.length = n) (hK : gK h a = (ci, N)) (hdd : d2 + 1 ≤ R.frames) (hloc : 19 + nL2 + 30 * d2 ≤ R.locals) (hk : k + mc2 ≤ R.cells) (hu : u + ms2 ≤ R.slots) (hroom : (rest.map fun v => v.category).sum ≤ 8) (hd : decode cc pc = .ok (.invokevirtual idx, 3))
    (kx : ∀ (E : String) (h' : gH), px2 E h' → eX w m nL p l e R s args below meth c Q E h' (k + mc2) (u + ms2) lo rest pc)
    (kk : ∀ (r : Option Value) (h' : gH), post2 r h' → gG w m nL (eW p l e R s m args below meth c Q) h' (k + mc2) (u + ms2) lo (r.toList ++ rest) (pc + 3)) : gG w m nL (eW p l e R s m args below meth c Q) h k u lo st pc := by
  obtain ⟨hx9, hb, hml, hown, hts, hkn, -⟩ := C
  obtain ⟨⟨-, hini, hcode, hdsc, hnl⟩, hins, hsel, r, hr1, hr2, hr3⟩ := hL
  intro H locs ls h1 h2 h3
  subst hst
  have hat := (h1.2.2.2.1 a).1
  rw [hK] at hat
  obtain ⟨cell, q1, q2, q3, -⟩ := hat (List.getElem?_eq_some_iff.mp hr1).1
  have hfc := (hkn.2.2.1.1 ci _ hr1).2.1
  have hPre : PreV s H y2.cls (gρ w a) (gPc w (.ref a :: As) h) (As.map (gv w)) := ⟨gPc_blind w _ h, ⟨cell, q1, by rw [q3]; rfl, by rw [q2, ← hr2]; exact hfc⟩, fun U hU hW => ⟨rfl, hkn.warm hW, by rw [hU]; exact h1⟩⟩
  have hstk : (As.reverse ++ .ref a :: rest).map (gv w) = (As.map (gv w)).reverse ++ .ref (gρ w a) :: rest.map (gv w) := by rw [List.map_append, List.map_reverse]; rfl
  have hroom9 : ((rest.map (gv w)).map fun v => v.category).sum ≤ 8 := by rw [gst_cat]; exact hroom
  have hRR : (gRm d2 mc2 ms2).frames + 1 ≤ R.frames ∧ 8 + (nL2 + 11) + (gRm d2 mc2 ms2).locals ≤ R.locals := by
    refine ⟨hdd, ?_⟩
    show 8 + (nL2 + 11) + 30 * d2 ≤ R.locals
    omega
  have hgood : GoodIn gTb (wsV y.cls idx y2.cls y2 (Cond.code y2 cc2 nL2 ret2 :: gTb)) := gTb_good fun x hx => by
    simp only [wsV, List.mem_append, List.mem_cons, List.not_mem_nil, or_false] at hx
    rcases hx with (rfl | rfl | rfl | rfl) | hx
    · exact hlk
    · exact hins
    · exact hsel
    · exact hini
    · rcases hx with rfl | hx
      · exact hcode
      · exact hx
  have hrun := vx_runV (p := p) (e := e) (below := below) (meth := meth) (locs := locs) (cells := k) (slots := u) (As := As.map (gv w)) (rest := rest.map (gv w)) (C := y2.cls) (g := F0 m pc ls (List.map (gv w) (As.reverse ++ Value.ref a :: rest))) ⟨hx9, hb, hml, hown, hts⟩ hM (cwV (R := R) n hts hgood rfl rfl rfl ⟨rfl, hdsc⟩ hRR) hPre rfl (by rw [List.length_map]; exact hn) h3.1.1 hstk (lv_room hroom9) hd ⟨hk, hu⟩
  intro T hT X
  rcases hrun T hT X with ⟨v, st₀, t, T', L, h0, X', hL, e1, e2, ⟨r9, h', hv, hp, hb9⟩, st9⟩ | ⟨q, st₀, t, T', L, E, ce, h0, X', hL, e1, e2, ⟨h', hp, hb9⟩, hce, hcv, hcl, st9⟩
  · cases hv
    rw [← e1] at hb9
    obtain ⟨t2, a1, b1⟩ := kk r9 h' hp T'.heap (locs ++ L) ls hb9 (fun z hz => (List.mem_append.mp hz).elim (h2 z) (hL z)) h3 T' rfl X'
    refine ⟨t2, st9 t2 ?_, b1⟩
    have e : (r9.toList ++ rest).map (gv w) = (r9.map (gv w)).toList ++ rest.map (gv w) := by cases r9 <;> rfl
    rw [e] at a1
    exact a1
  · rw [← e1] at hb9 hce
    obtain ⟨t2, a1, b1⟩ := kx E h' hp T'.heap (locs ++ L) ls q ce hb9 (fun z hz => (List.mem_append.mp hz).elim (h2 z) (hL z)) h3 hce hcv hcl T' rfl X'
    exact ⟨t2, st9.trans a1, b1⟩
theorem gLo.un {ls ls' : Array Slot} (h : gLo w nL lo ls) {i : Nat} {v : Value} {L : List (Nat × Value)} (hL : (i, v) :: (gpr w 0 lo).filter (fun q => !(q.1 == i) && !(q.1 + 1 == i && q.2.category == 2)) = L) (h' : lv_has ls' nL L) : gLo w nL (lo.set i none) ls' := by
  subst hL
  refine ⟨⟨h'.1, h'.2.1, fun q hq => by cases hq⟩, fun j x hj => ?_⟩
  by_cases e : i = j
  · subst e
    rw [List.getElem?_set] at hj
    simp only [if_true] at hj
    split at hj <;> cases hj
  · rw [List.getElem?_set_ne e] at hj
    have h1 := h.2 j x hj
    refine ⟨h1.1, h'.2.2 (j, gv w x) (List.mem_cons_of_mem _ (List.mem_filter.mpr ⟨?_, ?_⟩))⟩
    · have := gpr_in (w := w) lo 0 j x hj
      rwa [Nat.zero_add] at this
    · have hne : (j == i) = false := by simp [Ne.symm e]
      have h2 : ((gv w x).category == 2) = false := by rw [gv_cat, h1.1]; rfl
      simp [hne, h2]
/-- caught: the thrown cell goes into a local that nobody reads -/
theorem e_catch (C : gE w y cc nL ret p s m args meth c) {rest : List Value} {E : String} (pre : List ExceptionTableEntry) (x : ExceptionTableEntry) (suf : List ExceptionTableEntry) (hsplit : c.exceptionTable.toList = pre ++ x :: suf)
    (hpass : ∀ z ∈ pre, covers z pc = false ∨ (z.catchType ≠ 0 ∧ ∃ nm : String, Cond.classLink y.cls z.catchType nm ∈ gTb ∧ va_Nc E nm s)) (hx : covers x pc = true) (h0 : x.catchType ≠ 0)
    (hlink : Cond.classLink y.cls x.catchType E ∈ gTb) (hcast : Cond.castable E E ∈ gNs) (i : Nat) (hn : i < nL)
    (hd : (∃ f : Fin 4, (f : Nat) = i ∧ decode cc x.handlerPc = .ok (.astore_n f, 1) ∧ gG w m nL (eW p l e R s m args below meth c Q) h k u (lo.set i none) [] (x.handlerPc + 1)) ∨ (decode cc x.handlerPc = .ok (.astore i, 2) ∧ gG w m nL (eW p l e R s m args below meth c Q) h k u (lo.set i none) [] (x.handlerPc + 2))) : eX w m nL p l e R s args below meth c Q E h k u lo rest pc := by
  obtain ⟨hx9, hb, hml, hown, hts, hkn, -⟩ := C
  intro H locs ls q ce h1 h2 h3 hce hcv hcl
  refine vx_catch (own := y.cls) (name := E) hown pre x suf hsplit (fun z hz => ?_) hx h0 (hts _ hlink) (va_Nw.use rfl (hkn.2.2.2.1 _ hcast)) hce hcv hcl ?_
  · rcases hpass z hz with a | ⟨a, nm, b, d⟩
    · exact Or.inl a
    · exact Or.inr ⟨a, nm, hts _ b, d⟩
  · rcases hd with ⟨f, hf, hd, kk⟩ | ⟨hd, kk⟩
    · exact lv_astore_n hx9 hb hd hf h3.has hn rfl (fun ls9 h9 => kk H locs ls9 h1 h2 (h3.un rfl h9))
    · exact lv_astore hx9 hb hd h3.has hn rfl (fun ls9 h9 => kk H locs ls9 h1 h2 (h3.un rfl h9))
end GE
