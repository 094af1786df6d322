/-! THE LAYER: cells by numbers (0 the script, 1 the first cell that the law makes ..); heaps as functions; one judgement gG for a method's frame over such a heap -/
abbrev gW : Type := va_G × (Nat → ClassId) × Nat × Nat × Heap × (Nat → Nat)
def wD (w : gW) : va_G := w.1
def wcy (w : gW) : Nat → ClassId := w.2.1
def wz (w : gW) : Nat := w.2.2.1
def wb (w : gW) : Nat := w.2.2.2.1
def wH (w : gW) : Heap := w.2.2.2.2.1
def wS (w : gW) : Nat → Nat := w.2.2.2.2.2
def gA (w : gW) : Nat → Prop := fun q => wz w ≤ q
def gρ (w : gW) (a : Nat) : Nat := if a = 0 then wb w else wz w + (a - 1)
def gv (w : gW) (v : Value) : Value := match v with
  | .ref a => .ref (gρ w a)
  | v => v
/-- a number as the machine holds it -/
def iI (z : Int) : Int32 := Int32.ofInt z
abbrev gH : Type := Nat × (Nat → Nat × Nat) × (Nat → Nat → Int) × (Nat → Nat → Option Nat) × (Nat → Int64)
def gn (h : gH) : Nat := h.1
def gK (h : gH) : Nat → Nat × Nat := h.2.1
def gI (h : gH) : Nat → Nat → Int := h.2.2.1
def gR (h : gH) : Nat → Nat → Option Nat := h.2.2.2.1
def gJ (h : gH) : Nat → Int64 := h.2.2.2.2
def gputI (h : gH) (a i : Nat) (x : Int) : gH := (h.1, h.2.1, (fun b => if b = a then va_up (h.2.2.1 a) i x else h.2.2.1 b), h.2.2.2.1, h.2.2.2.2)
def gputR (h : gH) (a i : Nat) (x : Option Nat) : gH := (h.1, h.2.1, h.2.2.1, (fun b => if b = a then va_up (h.2.2.2.1 a) i x else h.2.2.2.1 b), h.2.2.2.2)
def gputJ (h : gH) (a : Nat) (x : Int64) : gH := (h.1, h.2.1, h.2.2.1, h.2.2.2.1, (fun b => if b = a then x else h.2.2.2.2 b))
/-- a new cell of a kind -/
def gnew (h : gH) (k : Nat × Nat) : gH := (h.1 + 1, (fun b => if b = h.1 + 1 then k else h.2.1 b), (fun b => if b = h.1 + 1 then (fun _ => 0) else h.2.2.1 b), (fun b => if b = h.1 + 1 then (fun _ => none) else h.2.2.2.1 b), (fun b => if b = h.1 + 1 then 0 else h.2.2.2.2 b))
/-- cells that nobody reads -/
def gdead (h : gH) (n : Nat) : gH := (n, (fun b => if b ≤ h.1 then h.2.1 b else (13, 0)), h.2.2.1, h.2.2.2.1, h.2.2.2.2)
/-- which fields are references -/
def gRf (c i : Nat) : Bool := match c with
  | 0 => i == 1
  | 1 => i == 3
  | 3 => i == 2 || i == 3
  | 5 => i == 0 || i == 1 || i == 2 || i == 3 || i == 4 || i == 6 || i == 12 || i == 14
  | 6 => i == 3 || i == 4 || i == 5 || i == 6 || i == 11 || i == 12 || (decide (14 ≤ i))
  | _ => false
def gfv (w : gW) (c : Nat) (I : Nat → Int) (R : Nat → Option Nat) (i : Nat) : Value := if gRf c i then va_rf ((R i).map (gρ w)) else .int (iI (I i))
/-- what the cell q is -/
def gat (w : gW) (k : Nat × Nat) (I : Nat → Int) (R : Nat → Option Nat) (J : Int64) (q : Nat) (H : Heap) : Prop :=
  (k.1 < 7 → t_OB q ((wD w).1 k.1) k.2 ((wD w).2 k.1) H (gfv w k.1 I R)) ∧
  (k.1 = 7 ∨ k.1 = 8 → H[q]? = some (vp_cell (wcy w k.1) (k.2, .inl (fun j => iI (I j))))) ∧
  (k.1 = 9 → H[q]? = some (vp_cell (wcy w 9) (k.2, .inr (.inl (fun j => if j = 0 then J else 0))))) ∧
  (k.1 = 10 ∨ k.1 = 11 ∨ k.1 = 12 → H[q]? = some (vp_cell (wcy w k.1) (k.2, .inr (.inr (.inr (.inr (fun j => (R j).map (gρ w))))))))
theorem gat.kept {w : gW} {k : Nat × Nat} {I : Nat → Int} {R : Nat → Option Nat} {J : Int64} {q : Nat} {H H1 : Heap} (h : gat w k I R J q H) (e : H1[q]? = H[q]?) : gat w k I R J q H1 :=
  ⟨fun a => (h.1 a).kept e, fun a => e.trans (h.2.1 a), fun a => e.trans (h.2.2.1 a), fun a => e.trans (h.2.2.2 a)⟩
theorem gat.dead {w : gW} {I : Nat → Int} {R : Nat → Option Nat} {J : Int64} {q m : Nat} {H : Heap} : gat w (13, m) I R J q H :=
  ⟨fun a => absurd a (by simp), fun a => absurd a (by simp), fun a => absurd a (by simp), fun a => absurd a (by simp)⟩
/-- the heap is h -/
def gRep (w : gW) (h : gH) (H : Heap) : Prop :=
  H.size = wz w + gn h ∧ gK h 0 = (13, 0) ∧ (∀ a, gn h < a → gK h a = (13, 0)) ∧ (∀ a, gat w (gK h a) (gI h a) (gR h a) (gJ h a) (gρ w a) H) ∧ ∀ q, q < wz w → H[q]? = (wH w)[q]?
theorem gRep.pos {w : gW} {h : gH} {H : Heap} (hR : gRep w h H) {a c n : Nat} (hk : gK h a = (c, n)) (hc : c < 13) : 1 ≤ a ∧ a ≤ gn h := by
  obtain ⟨-, h0, h1, -, -⟩ := hR
  refine ⟨?_, ?_⟩
  · rcases Nat.eq_zero_or_pos a with rfl | q
    · rw [h0] at hk; cases hk; omega
    · exact q
  · rcases Nat.lt_or_ge (gn h) a with q | q
    · rw [h1 a q] at hk; cases hk; omega
    · exact q
theorem gρ_inj {w : gW} {a b : Nat} (hb : wb w < wz w) (h : gρ w a = gρ w b) : a = b := by
  unfold gρ at h
  by_cases ha : a = 0 <;> by_cases hb' : b = 0 <;> simp [ha, hb'] at h ⊢ <;> omega
theorem gρ_pos {w : gW} {a : Nat} (ha : 1 ≤ a) : gρ w a = wz w + (a - 1) := by
  unfold gρ; rw [if_neg (by omega)]
theorem gA_ρ {w : gW} {a : Nat} (ha : 1 ≤ a) : gA w (gρ w a) := by
  rw [gρ_pos ha]; exact Nat.le_add_right _ _
/-- one cell has changed -/
theorem gRep.one {w : gW} {h h' : gH} {H H1 : Heap} {a : Nat} (hR : gRep w h H) (hb : wb w < wz w) (ha : 1 ≤ a) (hz : H1.size = H.size) (hq : ∀ q, q ≠ gρ w a → H1[q]? = H[q]?) (hn : gn h' = gn h) (hk : gK h' = gK h)
    (hI : ∀ b, b ≠ a → gI h' b = gI h b) (hRr : ∀ b, b ≠ a → gR h' b = gR h b) (hJ : ∀ b, b ≠ a → gJ h' b = gJ h b) (hat : gat w (gK h a) (gI h' a) (gR h' a) (gJ h' a) (gρ w a) H1) : gRep w h' H1 := by
  obtain ⟨r1, r2, r3, r4, r5⟩ := hR
  refine ⟨by rw [hz, hn]; exact r1, by rw [hk]; exact r2, by rw [hn, hk]; exact r3, fun b => ?_, fun q hlt => ?_⟩
  · rw [hk]
    by_cases e : b = a
    · subst e; exact hat
    · rw [hI b e, hRr b e, hJ b e]
      exact (r4 b).kept (hq _ (fun z => e (gρ_inj hb z)))
  · rw [hq q (by rw [gρ_pos ha]; omega)]
    exact r5 q hlt
def gtys (w : gW) : List (ClassId × FieldType) := [(wcy w 7, .int), (wcy w 8, .boolean), (wcy w 9, .long), (wcy w 10, .object RX2), (wcy w 11, .object RX3), (wcy w 12, .object RX4)]
/-- the tables' good words -/
def gTb : List Cond := lw_tbl.filter goodWord
theorem gIn {x : Cond} (i : Nat) (h : lw_tbl[i]? = some x) (hg : goodWord x = true) : x ∈ gTb := List.mem_filter.mpr ⟨List.mem_of_getElem? h, hg⟩
theorem gTb_good {ws : List Cond} (h : ∀ x ∈ ws, x ∈ gTb) : GoodIn gTb ws := fun x hx => ⟨h x hx, good_of_word (List.mem_filter.mp (h x hx)).2⟩

/-- words that a call carries by themselves -/
def gNw (w : Cond) : Bool := match w with
  | .fieldLinkNest .. => true
  | .methodLinkNest .. => true
  | .declares _ => true
  | .castable .. => true
  | _ => false
def gNs : List Cond := lw_tbl.filter gNw
theorem gInN {x : Cond} (i : Nat) (h : lw_tbl[i]? = some x) (hg : gNw x = true) : x ∈ gNs := List.mem_filter.mpr ⟨List.mem_of_getElem? h, hg⟩
theorem gNs_w {x : Cond} (h : x ∈ gNs) : gNw x = true := (List.mem_filter.mp h).2
theorem gNw_tab {x : Cond} (h : gNw x = true) : x.onTables = true := by
  cases x <;> first | rfl | (simp [gNw] at h)
theorem gNw_warm {x : Cond} (h : gNw x = true) {s U : State} (hW : s.WarmedH U.vm) (hZ : va_Nw x s) : va_Nw x U := by
  cases x with
  | fieldLinkNest a i b n d o => exact hZ.warmF hW
  | methodLinkNest a i y o => exact hZ.warmM hW
  | declares y => exact hZ.warmD hW
  | castable a b => exact hZ.warmC hW
  | _ => simp [gNw] at h
/-- the texts of the class's exceptions -/
def gStr : List (Nat × String) := [(51, "the room is out of range"), (61, "there are as many machines as may be"), (83, "there is no such machine"), (92, "there is no such tenant"), (94, "the bytes are out of range"), (99, "the heat is out of range"), (107, "there is no such key or tenant"), (127, "this can't be written now"), (136, "there is no such key"), (138, "nothing can be taken away here now"), (140, "no machine that is up has this key"), (145, "no second shard can begin at this key"), (154, "no shard can be split here now"), (163, "there is no such shard"), (169, "the shard can't be joined with a next one now"), (175, "there is no such shard or machine"), (177, "the shard can't begin to move there now"), (182, "the shard does not move"), (191, "the hours are out of range"), (196, "there are not so many hours left"), (204, "what is asked is out of range")]
/-- what the machine's tables give, at any state -/
def gKn (w : gW) (U : State) : Prop :=
  wz w = (wH w).size ∧ wb w < wz w ∧ va_K (wD w) vwCl (gtys w) U ∧ (∀ x ∈ gNs, va_Nw x U) ∧
  vx_Zq Bundle.tN "UNASSIGNED_STACK" Bundle.steD (gA w) U (wH w) ∧ vx_Zq Bundle.tN "SUPPRESSED_SENTINEL" Bundle.listD (gA w) U (wH w) ∧
  (∀ q ∈ gStr, vk_R RX5 q.1 q.2 (wS w q.1) U) ∧ (va_AO RX2 U ∧ va_AO RX3 U ∧ va_AO RX4 U) ∧
  (∀ E ∈ ["java/lang/IllegalArgumentException", "java/lang/IllegalStateException", "java/lang/IndexOutOfBoundsException"], ∀ F ∈ ["java/lang/IllegalArgumentException", "java/lang/IllegalStateException", "java/lang/IndexOutOfBoundsException"], E ≠ F → va_Nc E F U)
theorem gKn.warm {w : gW} {s U : State} (h : gKn w s) (hW : s.WarmedH U.vm) : gKn w U := by
  obtain ⟨h1, h2, h3, h4, h5, h6, h7, ⟨h8, h9, h10⟩, h11⟩ := h
  exact ⟨h1, h2, va_K.moved hW.alike h3, fun x hx => gNw_warm (gNs_w hx) hW (h4 x hx), vx_Zq.moved hW.alike h5, vx_Zq.moved hW.alike h6, fun q hq => vk_R.warm hW (h7 q hq), ⟨va_AO.moved hW.alike h8, va_AO.moved hW.alike h9, va_AO.moved hW.alike h10⟩, fun E hE F hF hn => va_Nc.moved hW.alike (h11 E hE F hF hn)⟩
theorem gKn.same {w : gW} {s U : State} (h : gKn w s) (hv : s.vm = U.vm) : gKn w U := by
  obtain ⟨h1, h2, h3, h4, h5, h6, h7, ⟨h8, h9, h10⟩, h11⟩ := h
  have ha : s.vm.Alike U.vm := by rw [hv]; exact Vm.Alike.refl _
  exact ⟨h1, h2, va_K.moved ha h3, fun x hx => va_Nw.same (gNw_tab (gNs_w hx)) hv (h4 x hx), vx_Zq.moved ha h5, vx_Zq.moved ha h6, fun q hq => vk_R.same hv.symm (h7 q hq), ⟨va_AO.moved ha h8, va_AO.moved ha h9, va_AO.moved ha h10⟩, fun E hE F hF hn => va_Nc.moved ha (h11 E hE F hF hn)⟩
def gRm (d mc ms : Nat) : Room := { frames := d, cells := mc, slots := ms, locals := 30 * d }
def gQc (w : gW) (post : Option Value → gH → Prop) : Array Value → State → Outcome → State → Prop := fun _ _ o t => ∃ (r : Option Value) (h : gH), o = .returned (r.map (gv w)) ∧ post r h ∧ gRep w h t.heap
def gXC (w : gW) (px : String → gH → Prop) : String → State → State → Prop := fun E _ t => ∃ h : gH, px E h ∧ gRep w h t.heap
def gPc (w : gW) (as : List Value) (h : gH) : Array Value → State → Prop := va_Pc (as.map (gv w)) (fun U => gKn w U ∧ gRep w h U.heap)
theorem gPc_blind (w : gW) (as : List Value) (h : gH) : FrameBlind (gPc w as h) := fun a U g mk q => ⟨q.1, gKn.same (U := U.calling g mk a) q.2.1 rfl, q.2.2⟩
/-- a method's contract: from h, with as, it returns; post says of the answer and of the heap then. It makes at most mc cells, ms slots, calls d deep -/
def gCt (w : gW) (l : Launch) (y : MethodName) (cc : ByteArray) (nL : Nat) (ret : Option FieldType) (d mc ms : Nat) (as : List Value) (h : gH) (post : Option Value → gH → Prop) : Prop :=
  Met l y (.code y cc nL ret :: gTb) (gRm d mc ms) (gPc w as h) (gQc w post) mc ms (gA w)
/-- .. of a method that may throw: px says of the class and of the heap then -/
def gCx (w : gW) (l : Launch) (y : MethodName) (cc : ByteArray) (nL : Nat) (ret : Option FieldType) (d mc ms : Nat) (as : List Value) (h : gH) (post : Option Value → gH → Prop) (px : String → gH → Prop) : Prop :=
  vx_Met l y (.code y cc nL ret :: gTb) (gRm d mc ms) (gPc w as h) (gQc w post) (gXC w px) mc ms (gA w)

theorem g_bm {z : Int} (h : -2147483648 ≤ z ∧ z < 2147483648) : z.bmod 4294967296 = z := by
  simp only [Int.bmod]
  omega
theorem iI_toInt {z : Int} (h : -2147483648 ≤ z ∧ z < 2147483648) : (iI z).toInt = z := by
  unfold iI
  rw [Int32.toInt_ofInt]
  exact g_bm h
theorem iI_of (x : Int32) : iI x.toInt = x := Int32.ofInt_toInt x
theorem iI_add (a b : Int) : iI a + iI b = iI (a + b) := (Int32.ofInt_add a b).symm
theorem iI_sub (a b : Int) : iI a - iI b = iI (a - b) := (Int32.ofInt_sub a b).symm
theorem iI_mul (a b : Int) : iI a * iI b = iI (a * b) := (Int32.ofInt_mul a b).symm
theorem iI_neg (a : Int) : -iI a = iI (-a) := (Int32.ofInt_neg a).symm
theorem iI_eq {a b : Int} (ha : -2147483648 ≤ a ∧ a < 2147483648) (hb : -2147483648 ≤ b ∧ b < 2147483648) : iI a = iI b ↔ a = b := by
  constructor
  · intro h
    have := congrArg Int32.toInt h
    rwa [iI_toInt ha, iI_toInt hb] at this
  · intro h; rw [h]
theorem iI_le {a b : Int} (ha : -2147483648 ≤ a ∧ a < 2147483648) (hb : -2147483648 ≤ b ∧ b < 2147483648) : iI a ≤ iI b ↔ a ≤ b := by
  rw [Int32.le_iff_toInt_le, iI_toInt ha, iI_toInt hb]
theorem iI_lt {a b : Int} (ha : -2147483648 ≤ a ∧ a < 2147483648) (hb : -2147483648 ≤ b ∧ b < 2147483648) : iI a < iI b ↔ a < b := by
  rw [Int32.lt_iff_toInt_lt, iI_toInt ha, iI_toInt hb]
theorem iI_nI (n : Nat) : iI (n : Int) = nI n := Int32.ofInt_eq_ofNat
theorem iI_half {a : Int} (h0 : 0 ≤ a) (h : a < 2147483648) : iI a / iI 2 = iI (a / 2) := by
  apply Int32.toInt_inj.mp
  rw [Int32.toInt_div, iI_toInt ⟨by omega, h⟩, iI_toInt ⟨by omega, by omega⟩, iI_toInt ⟨by omega, by omega⟩, Int.tdiv_eq_ediv_of_nonneg h0]
  exact g_bm (by omega)
theorem gCt.of {w : gW} {l : Launch} {y : MethodName} {cc : ByteArray} {nL : Nat} {ret : Option FieldType} {d mc ms : Nat} {as : List Value} {h : gH} {post : Option Value → gH → Prop} (H : gCx w l y cc nL ret d mc ms as h post (fun _ _ => False)) : gCt w l y cc nL ret d mc ms as h post := by
  intro p e ha hc hk s m args below hf happ hP hK
  obtain ⟨n, o, h1, h2, h3, h4⟩ := H p e ha hc hk s m args below hf happ hP hK
  refine ⟨n, o, h1, h2, h3, ?_⟩
  rcases h4 with h4 | ⟨q, -, E, ce, L, ⟨h', hx, -⟩, -⟩
  · exact h4
  · exact hx.elim
/-- what holds in a method's body; Wp is what is to be shown of it -/
def gC (w : gW) (l : Launch) (y : MethodName) (cc : ByteArray) (nL : Nat) (ret : Option FieldType) (d mc ms : Nat) (post : Option Value → gH → Prop) (px : String → gH → Prop) (m : MethodId) (Wp : Heap → List Loc → Nat → Nat → JFrame → Prop) : Prop :=
  ∃ (p : Program) (e : Env) (s : State) (args : Array Value) (below : List Frame) (meth : Method) (c : Code),
    Wp = (fun H locs k u g => W p l e (gRm d mc ms) s m args below meth c H locs k u (vx_MQ below (gQc w post) (gXC w px) args s mc ms (gA w)) g) ∧
    p.tables.exec = Jvm.exec ∧ c.code = cc ∧ c.maxLocals = nL ∧ s.vm.findClass y.cls = some m.cls ∧ (∀ x ∈ gTb, x.before args s = true) ∧ gKn w s ∧ meth.sig.returnType = ret ∧ meth.locks = false ∧
    (∀ x ∈ c.exceptionTable.toList, False) ∧ meth.name = y.name ∧ wz w ≤ s.heap.size ∧ (∀ q, q < wz w → s.heap[q]? = (wH w)[q]?)
/-- the frame's locals: a list of places, some known -/
def gLo (w : gW) (nL : Nat) (lo : List (Option Value)) (ls : Array Slot) : Prop := lv_has ls nL [] ∧ ∀ (i : Nat) (v : Value), lo[i]? = some (some v) → v.category = 1 ∧ ls[i]? = some (.val (gv w v))
/-- from the frame at pc with locals lo, stack st, over the heap h: the method comes to its end as its contract says -/
def gG (w : gW) (m : MethodId) (nL : Nat) (Wp : Heap → List Loc → Nat → Nat → JFrame → Prop) (h : gH) (k u : Nat) (lo : List (Option Value)) (st : List Value) (pc : Nat) : Prop :=
  ∀ (H : Heap) (locs : List Loc) (ls : Array Slot), gRep w h H → (∀ z ∈ locs, gA w z.base) → gLo w nL lo ls → Wp H locs k u (F0 m pc ls (st.map (gv w)))
theorem gv_cat (w : gW) (v : Value) : (gv w v).category = v.category := by cases v <;> rfl
def gpr (w : gW) : Nat → List (Option Value) → List (Nat × Value)
  | _, [] => []
  | i, none :: t => gpr w (i + 1) t
  | i, some v :: t => (i, gv w v) :: gpr w (i + 1) t
theorem gpr_of {w : gW} : ∀ (lo : List (Option Value)) (i : Nat) (q : Nat × Value), q ∈ gpr w i lo → ∃ (k : Nat) (v : Value), q = (i + k, gv w v) ∧ lo[k]? = some (some v)
  | [], i, q, h => by simp [gpr] at h
  | none :: t, i, q, h => by
    obtain ⟨k, v, e, hk⟩ := gpr_of t (i + 1) q h
    exact ⟨k + 1, v, by rw [e]; congr 1; omega, by simpa using hk⟩
  | some v0 :: t, i, q, h => by
    rcases List.mem_cons.mp h with e | h
    · exact ⟨0, v0, by rw [e]; rfl, rfl⟩
    · obtain ⟨k, v, e, hk⟩ := gpr_of t (i + 1) q h
      exact ⟨k + 1, v, by rw [e]; congr 1; omega, by simpa using hk⟩
theorem gpr_in {w : gW} : ∀ (lo : List (Option Value)) (i k : Nat) (v : Value), lo[k]? = some (some v) → (i + k, gv w v) ∈ gpr w i lo
  | [], i, k, v, h => by simp at h
  | none :: t, i, 0, v, h => by simp at h
  | none :: t, i, k + 1, v, h => by
    have := gpr_in (w := w) t (i + 1) k v (by simpa using h)
    rw [show i + (k + 1) = i + 1 + k by omega]
    exact this
  | some v0 :: t, i, 0, v, h => by
    simp at h; subst h
    exact List.mem_cons_self
  | some v0 :: t, i, k + 1, v, h => by
    have := gpr_in (w := w) t (i + 1) k v (by simpa using h)
    rw [show i + (k + 1) = i + 1 + k by omega]
    exact List.mem_cons_of_mem _ this
theorem gLo.has {w : gW} {nL : Nat} {lo : List (Option Value)} {ls : Array Slot} (h : gLo w nL lo ls) : lv_has ls nL (gpr w 0 lo) := by
  refine ⟨h.1.1, h.1.2.1, fun q hq => ?_⟩
  obtain ⟨k, v, e, hk⟩ := gpr_of lo 0 q hq
  rw [e, Nat.zero_add]
  exact (h.2 k v hk).2
theorem gLo.st {w : gW} {nL : Nat} {lo : List (Option Value)} {ls ls' : Array Slot} (h : gLo w nL lo ls) {i : Nat} {v : Value} (hc : v.category = 1) {L : List (Nat × Value)} (hL : (i, gv w v) :: (gpr w 0 lo).filter (fun q => !(q.1 == i) && !(q.1 + 1 == i && q.2.category == 2)) = L) (h' : lv_has ls' nL L) : gLo w nL (lo.set i (some v)) ls' := by
  subst hL
  refine ⟨⟨h'.1, h'.2.1, fun q hq => by cases hq⟩, fun j x hj => ?_⟩
  by_cases e : i = j
  · subst e
    rw [List.getElem?_set] at hj
    simp only [if_true] at hj
    split at hj
    · cases hj
      exact ⟨hc, h'.2.2 (i, gv w v) List.mem_cons_self⟩
    · cases hj
  · rw [List.getElem?_set_ne e] at hj
    have h1 := h.2 j x hj
    refine ⟨h1.1, h'.2.2 (j, gv w x) (List.mem_cons_of_mem _ (List.mem_filter.mpr ⟨?_, ?_⟩))⟩
    · have := gpr_in (w := w) lo 0 j x hj
      rwa [Nat.zero_add] at this
    · have hne : (j == i) = false := by simp [Ne.symm e]
      have h2 : ((gv w x).category == 2) = false := by rw [gv_cat, h1.1]; rfl
      simp [hne, h2]
theorem g_slen : ∀ (vs : List Value), (∀ v ∈ vs, v.category = 1) → (lg_sl vs).length = vs.length
  | [], _ => rfl
  | v :: t, h => by
    have h1 := g_slen t (fun x hx => h x (List.mem_cons_of_mem _ hx))
    have h2 := h v List.mem_cons_self
    simp only [lg_sl, List.flatMap_cons, List.length_append] at h1 ⊢
    rw [h1, if_neg (by rw [h2]; decide)]
    simp; omega
theorem g_args : ∀ (vs : List Value) (i k : Nat) (v : Value), (∀ v ∈ vs, v.category = 1) → vs[k]? = some v → (i + k, v) ∈ lv_args i vs
  | [], i, k, v, _, h => by simp at h
  | v0 :: t, i, 0, v, _, h => by
    simp at h; subst h
    exact List.mem_cons_self
  | v0 :: t, i, k + 1, v, hc, h => by
    have h2 := hc v0 List.mem_cons_self
    have := g_args t (i + 1) k v (fun x hx => hc x (List.mem_cons_of_mem _ hx)) (by simpa using h)
    simp only [lv_args]
    rw [if_neg (by rw [h2]; decide), show i + (k + 1) = i + 1 + k by omega]
    exact List.mem_cons_of_mem _ this
section GS
variable {w : gW} {l : Launch} {y : MethodName} {cc : ByteArray} {nL : Nat} {ret : Option FieldType} {d mc ms : Nat} {as : List Value} {h : gH} {post : Option Value → gH → Prop} {px : String → gH → Prop}
theorem gStart (hy : plainName y.cls = true) (has : ∀ v ∈ as, v.category = 1) (hn : as.length ≤ nL)
    (body : ∀ (m : MethodId) (Wp : Heap → List Loc → Nat → Nat → JFrame → Prop), gC w l y cc nL ret d mc ms post px m Wp → gG w m nL Wp h 0 0 (as.map some ++ List.replicate (nL - as.length) none) [] 0) : gCx w l y cc nL ret d mc ms as h post px := by
  refine vx_ofW (cc := cc) (maxL := nL) (ret := ret) hy rfl ?_
  intro p e s m args below meth c s₁ B hml hno hv
  obtain ⟨rfl, hkn, hrep⟩ := hv
  have hts : ∀ x ∈ gTb, x.before (as.map (gv w)).toArray s = true := fun x hx => atoms_spec (ws := .code y cc nL ret :: gTb) B.pre x (List.mem_cons_of_mem _ hx)
  have hown : s.vm.findClass y.cls = some m.cls := findClass_of_methodNamed B.named
  have hnm : meth.name = y.name := (name_of_methodNamed B.named B.method).1
  have K := body m _ ⟨p, e, s, (as.map (gv w)).toArray, below, meth, c, rfl, B.exec, B.bytes, hml, hown, hts, hkn, B.returns, B.notSynchronized, hno, hnm, by rw [hrep.1]; omega, hrep.2.2.2.2⟩
  rw [lg_entry_eq]
  have hc1 : ∀ v ∈ as.map (gv w), v.category = 1 := fun v hv => by
    obtain ⟨x, hx, rfl⟩ := List.mem_map.mp hv
    rw [gv_cat]; exact has x hx
  have hl := lv_entry (as.map (gv w)) (n := nL) (by rw [g_slen _ hc1, List.length_map]; exact hn)
  refine K s.heap [] _ hrep (fun z hz => by cases hz) ⟨⟨hl.1, hl.2.1, fun q hq => by cases hq⟩, fun i v hi => ?_⟩
  have hi2 : as[i]? = some v := by
    rw [List.getElem?_append] at hi
    split at hi
    · rw [List.getElem?_map] at hi
      cases ha : as[i]? with
      | none => rw [ha] at hi; cases hi
      | some x => rw [ha] at hi; cases hi; rfl
    · rw [List.getElem?_replicate] at hi
      split at hi <;> cases hi
  refine ⟨has v (List.mem_of_getElem? hi2), ?_⟩
  have := hl.2.2 (0 + i, gv w v) (g_args _ 0 i (gv w v) hc1 (by rw [List.getElem?_map, hi2]; rfl))
  rwa [Nat.zero_add] at this
end GS
section GR
variable {w : gW} {l : Launch} {y : MethodName} {cc : ByteArray} {nL : Nat} {ret : Option FieldType} {d mc ms : Nat} {post : Option Value → gH → Prop} {px : String → gH → Prop} {m : MethodId} {Wp : Heap → List Loc → Nat → Nat → JFrame → Prop}
variable {h : gH} {k u : Nat} {lo : List (Option Value)} {st : List Value} {pc : Nat}
/-- other words for the same locals, fewer of them -/
theorem g_lo {lo' : List (Option Value)} (hs : ∀ (i : Nat) (v : Value), lo'[i]? = some (some v) → lo[i]? = some (some v)) (kk : gG w m nL Wp h k u lo' st pc) : gG w m nL Wp h k u lo st pc :=
  fun H locs ls h1 h2 h3 => kk H locs ls h1 h2 ⟨h3.1, fun i v hi => h3.2 i v (hs i v hi)⟩
theorem g_locons {a b : Option Value} {s t : List (Option Value)} (h1 : b = none ∨ b = a) (h2 : ∀ (i : Nat) (v : Value), t[i]? = some (some v) → s[i]? = some (some v)) : ∀ (i : Nat) (v : Value), (b :: t)[i]? = some (some v) → (a :: s)[i]? = some (some v) := by
  intro i v hi
  cases i with
  | zero =>
    simp at hi ⊢
    rcases h1 with e | e
    · rw [e] at hi; cases hi
    · rw [← e]; exact hi
  | succ i => simpa using h2 i v (by simpa using hi)
theorem g_lonil {s : List (Option Value)} : ∀ (i : Nat) (v : Value), ([] : List (Option Value))[i]? = some (some v) → s[i]? = some (some v) := fun i v hi => by simp at hi
theorem g_kind (h' : gH) (e : h' = h) (kk : gG w m nL Wp h' k u lo st pc) : gG w m nL Wp h k u lo st pc := by rw [← e]; exact kk
theorem g_iconst (C : gC w l y cc nL ret d mc ms post px m Wp) {n : Int} (hd : decode cc pc = .ok (.iconst n, 1)) (kk : gG w m nL Wp h k u lo (.int (iI n) :: st) (pc + 1)) : gG w m nL Wp h k u lo st pc := by
  obtain ⟨p, e, s, args, below, meth, c, rfl, hx, hb, -⟩ := C
  exact fun H locs ls h1 h2 h3 => lv_iconst hx hb hd rfl (kk H locs ls h1 h2 h3)
theorem g_bipush (C : gC w l y cc nL ret d mc ms post px m Wp) {n : Int} (hd : decode cc pc = .ok (.bipush n, 2)) (hv : (Int8.ofInt n).toInt32 = iI n) (kk : gG w m nL Wp h k u lo (.int (iI n) :: st) (pc + 2)) : gG w m nL Wp h k u lo st pc := by
  obtain ⟨p, e, s, args, below, meth, c, rfl, hx, hb, -⟩ := C
  exact fun H locs ls h1 h2 h3 => lv_bipush hx hb hd hv (kk H locs ls h1 h2 h3)
theorem g_sipush (C : gC w l y cc nL ret d mc ms post px m Wp) {n : Int} (hd : decode cc pc = .ok (.sipush n, 3)) (hv : (Int16.ofInt n).toInt32 = iI n) (kk : gG w m nL Wp h k u lo (.int (iI n) :: st) (pc + 3)) : gG w m nL Wp h k u lo st pc := by
  obtain ⟨p, e, s, args, below, meth, c, rfl, hx, hb, -⟩ := C
  exact fun H locs ls h1 h2 h3 => lv_sipush hx hb hd hv (kk H locs ls h1 h2 h3)
theorem g_lconst (C : gC w l y cc nL ret d mc ms post px m Wp) {n : Fin 2} (v : Int64) (hd : decode cc pc = .ok (.lconst n, 1)) (hv : Int64.ofNat (n : Nat) = v) (kk : gG w m nL Wp h k u lo (.long v :: st) (pc + 1)) : gG w m nL Wp h k u lo st pc := by
  obtain ⟨p, e, s, args, below, meth, c, rfl, hx, hb, -⟩ := C
  exact fun H locs ls h1 h2 h3 => lv_lconst hx hb hd hv (kk H locs ls h1 h2 h3)
theorem g_iload_n (C : gC w l y cc nL ret d mc ms post px m Wp) {f : Fin 4} (i : Nat) {x : Int} (hd : decode cc pc = .ok (.iload_n f, 1)) (hi : (f : Nat) = i) (hl : lo[i]? = some (some (.int (iI x)))) (kk : gG w m nL Wp h k u lo (.int (iI x) :: st) (pc + 1)) : gG w m nL Wp h k u lo st pc := by
  obtain ⟨p, e, s, args, below, meth, c, rfl, hx, hb, -⟩ := C
  exact fun H locs ls h1 h2 h3 => lv_iload_n hx hb hd hi (h3.2 i _ hl).2 (kk H locs ls h1 h2 h3)
theorem g_iload (C : gC w l y cc nL ret d mc ms post px m Wp) {i : Nat} {x : Int} (hd : decode cc pc = .ok (.iload i, 2)) (hl : lo[i]? = some (some (.int (iI x)))) (kk : gG w m nL Wp h k u lo (.int (iI x) :: st) (pc + 2)) : gG w m nL Wp h k u lo st pc := by
  obtain ⟨p, e, s, args, below, meth, c, rfl, hx, hb, -⟩ := C
  exact fun H locs ls h1 h2 h3 => lv_iload hx hb hd (h3.2 i _ hl).2 (kk H locs ls h1 h2 h3)
theorem g_aload_n (C : gC w l y cc nL ret d mc ms post px m Wp) {f : Fin 4} (i : Nat) {x : Nat} (hd : decode cc pc = .ok (.aload_n f, 1)) (hi : (f : Nat) = i) (hl : lo[i]? = some (some (.ref x))) (kk : gG w m nL Wp h k u lo (.ref x :: st) (pc + 1)) : gG w m nL Wp h k u lo st pc := by
  obtain ⟨p, e, s, args, below, meth, c, rfl, hx, hb, -⟩ := C
  exact fun H locs ls h1 h2 h3 => lv_aload_n hx hb hd hi (h3.2 i _ hl).2 (kk H locs ls h1 h2 h3)
theorem g_aload (C : gC w l y cc nL ret d mc ms post px m Wp) {i : Nat} {x : Nat} (hd : decode cc pc = .ok (.aload i, 2)) (hl : lo[i]? = some (some (.ref x))) (kk : gG w m nL Wp h k u lo (.ref x :: st) (pc + 2)) : gG w m nL Wp h k u lo st pc := by
  obtain ⟨p, e, s, args, below, meth, c, rfl, hx, hb, -⟩ := C
  exact fun H locs ls h1 h2 h3 => lv_aload hx hb hd (h3.2 i _ hl).2 (kk H locs ls h1 h2 h3)
theorem g_aload_nN (C : gC w l y cc nL ret d mc ms post px m Wp) {f : Fin 4} (i : Nat) (hd : decode cc pc = .ok (.aload_n f, 1)) (hi : (f : Nat) = i) (hl : lo[i]? = some (some .null)) (kk : gG w m nL Wp h k u lo (.null :: st) (pc + 1)) : gG w m nL Wp h k u lo st pc := by
  obtain ⟨p, e, s, args, below, meth, c, rfl, hx, hb, -⟩ := C
  exact fun H locs ls h1 h2 h3 => lv_aload_nN hx hb hd hi (h3.2 i _ hl).2 (kk H locs ls h1 h2 h3)
theorem g_istore_n (C : gC w l y cc nL ret d mc ms post px m Wp) {f : Fin 4} (i : Nat) {x : Int} (hd : decode cc pc = .ok (.istore_n f, 1)) (hi : (f : Nat) = i) (hn : i < nL) (kk : gG w m nL Wp h k u (lo.set i (some (.int (iI x)))) st (pc + 1)) : gG w m nL Wp h k u lo (.int (iI x) :: st) pc := by
  obtain ⟨p, e, s, args, below, meth, c, rfl, hx, hb, -⟩ := C
  exact fun H locs ls h1 h2 h3 => lv_istore_n hx hb hd hi h3.has hn rfl (fun ls9 h9 => kk H locs ls9 h1 h2 (h3.st (v := .int (iI x)) rfl rfl h9))
theorem g_istore (C : gC w l y cc nL ret d mc ms post px m Wp) {i : Nat} {x : Int} (hd : decode cc pc = .ok (.istore i, 2)) (hn : i < nL) (kk : gG w m nL Wp h k u (lo.set i (some (.int (iI x)))) st (pc + 2)) : gG w m nL Wp h k u lo (.int (iI x) :: st) pc := by
  obtain ⟨p, e, s, args, below, meth, c, rfl, hx, hb, -⟩ := C
  exact fun H locs ls h1 h2 h3 => lv_istore hx hb hd h3.has hn rfl (fun ls9 h9 => kk H locs ls9 h1 h2 (h3.st (v := .int (iI x)) rfl rfl h9))
theorem g_astore_n (C : gC w l y cc nL ret d mc ms post px m Wp) {f : Fin 4} (i : Nat) {x : Nat} (hd : decode cc pc = .ok (.astore_n f, 1)) (hi : (f : Nat) = i) (hn : i < nL) (kk : gG w m nL Wp h k u (lo.set i (some (.ref x))) st (pc + 1)) : gG w m nL Wp h k u lo (.ref x :: st) pc := by
  obtain ⟨p, e, s, args, below, meth, c, rfl, hx, hb, -⟩ := C
  exact fun H locs ls h1 h2 h3 => lv_astore_n hx hb hd hi h3.has hn rfl (fun ls9 h9 => kk H locs ls9 h1 h2 (h3.st (v := .ref x) rfl rfl h9))
theorem g_astore (C : gC w l y cc nL ret d mc ms post px m Wp) {i : Nat} {x : Nat} (hd : decode cc pc = .ok (.astore i, 2)) (hn : i < nL) (kk : gG w m nL Wp h k u (lo.set i (some (.ref x))) st (pc + 2)) : gG w m nL Wp h k u lo (.ref x :: st) pc := by
  obtain ⟨p, e, s, args, below, meth, c, rfl, hx, hb, -⟩ := C
  exact fun H locs ls h1 h2 h3 => lv_astore hx hb hd h3.has hn rfl (fun ls9 h9 => kk H locs ls9 h1 h2 (h3.st (v := .ref x) rfl rfl h9))
theorem g_astore_nN (C : gC w l y cc nL ret d mc ms post px m Wp) {f : Fin 4} (i : Nat) (hd : decode cc pc = .ok (.astore_n f, 1)) (hi : (f : Nat) = i) (hn : i < nL) (kk : gG w m nL Wp h k u (lo.set i (some .null)) st (pc + 1)) : gG w m nL Wp h k u lo (.null :: st) pc := by
  obtain ⟨p, e, s, args, below, meth, c, rfl, hx, hb, -⟩ := C
  exact fun H locs ls h1 h2 h3 => lv_astore_nN hx hb hd hi h3.has hn rfl (fun ls9 h9 => kk H locs ls9 h1 h2 (h3.st (v := .null) rfl rfl h9))
theorem g_iadd (C : gC w l y cc nL ret d mc ms post px m Wp) {x z : Int} (hd : decode cc pc = .ok (.iadd, 1)) (kk : gG w m nL Wp h k u lo (.int (iI (x + z)) :: st) (pc + 1)) : gG w m nL Wp h k u lo (.int (iI z) :: .int (iI x) :: st) pc := by
  obtain ⟨p, e, s, args, below, meth, c, rfl, hx, hb, -⟩ := C
  exact fun H locs ls h1 h2 h3 => lv_iadd hx hb hd (by rw [iI_add]; exact kk H locs ls h1 h2 h3)
theorem g_isub (C : gC w l y cc nL ret d mc ms post px m Wp) {x z : Int} (hd : decode cc pc = .ok (.isub, 1)) (kk : gG w m nL Wp h k u lo (.int (iI (x - z)) :: st) (pc + 1)) : gG w m nL Wp h k u lo (.int (iI z) :: .int (iI x) :: st) pc := by
  obtain ⟨p, e, s, args, below, meth, c, rfl, hx, hb, -⟩ := C
  exact fun H locs ls h1 h2 h3 => lv_isub hx hb hd (by rw [iI_sub]; exact kk H locs ls h1 h2 h3)
theorem g_imul (C : gC w l y cc nL ret d mc ms post px m Wp) {x z : Int} (hd : decode cc pc = .ok (.imul, 1)) (kk : gG w m nL Wp h k u lo (.int (iI (x * z)) :: st) (pc + 1)) : gG w m nL Wp h k u lo (.int (iI z) :: .int (iI x) :: st) pc := by
  obtain ⟨p, e, s, args, below, meth, c, rfl, hx, hb, -⟩ := C
  exact fun H locs ls h1 h2 h3 => lv_imul hx hb hd (by rw [iI_mul]; exact kk H locs ls h1 h2 h3)
theorem g_half (C : gC w l y cc nL ret d mc ms post px m Wp) {x : Int} (hd : decode cc pc = .ok (.idiv, 1)) (h0 : 0 ≤ x) (h9 : x < 2147483648) (kk : gG w m nL Wp h k u lo (.int (iI (x / 2)) :: st) (pc + 1)) : gG w m nL Wp h k u lo (.int (iI 2) :: .int (iI x) :: st) pc := by
  obtain ⟨p, e, s, args, below, meth, c, rfl, hx, hb, -⟩ := C
  exact fun H locs ls h1 h2 h3 => lv_idiv hx hb hd (by decide) (by rw [iI_half h0 h9]; exact kk H locs ls h1 h2 h3)
theorem g_ineg (C : gC w l y cc nL ret d mc ms post px m Wp) {x : Int} (hd : decode cc pc = .ok (.ineg, 1)) (kk : gG w m nL Wp h k u lo (.int (iI (-x)) :: st) (pc + 1)) : gG w m nL Wp h k u lo (.int (iI x) :: st) pc := by
  obtain ⟨p, e, s, args, below, meth, c, rfl, hx, hb, -⟩ := C
  exact fun H locs ls h1 h2 h3 => lv_ineg hx hb hd (by rw [iI_neg]; exact kk H locs ls h1 h2 h3)
theorem g_iand (C : gC w l y cc nL ret d mc ms post px m Wp) {x z : Int32} (hd : decode cc pc = .ok (.iand, 1)) (kk : gG w m nL Wp h k u lo (.int (x &&& z) :: st) (pc + 1)) : gG w m nL Wp h k u lo (.int z :: .int x :: st) pc := by
  obtain ⟨p, e, s, args, below, meth, c, rfl, hx, hb, -⟩ := C
  exact fun H locs ls h1 h2 h3 => lv_iand hx hb hd (kk H locs ls h1 h2 h3)
theorem g_i2l (C : gC w l y cc nL ret d mc ms post px m Wp) {x : Int32} (hd : decode cc pc = .ok (.i2l, 1)) (kk : gG w m nL Wp h k u lo (.long x.toInt64 :: st) (pc + 1)) : gG w m nL Wp h k u lo (.int x :: st) pc := by
  obtain ⟨p, e, s, args, below, meth, c, rfl, hx, hb, -⟩ := C
  exact fun H locs ls h1 h2 h3 => lv_i2l hx hb hd rfl (kk H locs ls h1 h2 h3)
theorem g_lcmp (C : gC w l y cc nL ret d mc ms post px m Wp) {x z : Int64} (hd : decode cc pc = .ok (.lcmp, 1)) (kk : gG w m nL Wp h k u lo (.int (lg_cmp x z) :: st) (pc + 1)) : gG w m nL Wp h k u lo (.long z :: .long x :: st) pc := by
  obtain ⟨p, e, s, args, below, meth, c, rfl, hx, hb, -⟩ := C
  exact fun H locs ls h1 h2 h3 => W.lcmp hx hb hd (kk H locs ls h1 h2 h3)
theorem g_dup (C : gC w l y cc nL ret d mc ms post px m Wp) {v : Value} (hd : decode cc pc = .ok (.dup, 1)) (hv : v.category = 1) (kk : gG w m nL Wp h k u lo (v :: v :: st) (pc + 1)) : gG w m nL Wp h k u lo (v :: st) pc := by
  obtain ⟨p, e, s, args, below, meth, c, rfl, hx, hb, -⟩ := C
  exact fun H locs ls h1 h2 h3 => lv_dup hx hb hd ((gv_cat w v).trans hv) (kk H locs ls h1 h2 h3)
theorem g_dup2 (C : gC w l y cc nL ret d mc ms post px m Wp) {v v2 : Value} (hd : decode cc pc = .ok (.dup2, 1)) (hv : v.category = 1) (hv2 : v2.category = 1) (kk : gG w m nL Wp h k u lo (v :: v2 :: v :: v2 :: st) (pc + 1)) : gG w m nL Wp h k u lo (v :: v2 :: st) pc := by
  obtain ⟨p, e, s, args, below, meth, c, rfl, hx, hb, -⟩ := C
  exact fun H locs ls h1 h2 h3 => lv_dup2_11 hx hb hd ((gv_cat w v).trans hv) ((gv_cat w v2).trans hv2) (kk H locs ls h1 h2 h3)
theorem g_goto (C : gC w l y cc nL ret d mc ms post px m Wp) {off : Int} (tgt : Nat) (hd : decode cc pc = .ok (.goto off, 3)) (ht : (pc : Int) + off = (tgt : Int)) (kk : gG w m nL Wp h k u lo st tgt) : gG w m nL Wp h k u lo st pc := by
  obtain ⟨p, e, s, args, below, meth, c, rfl, hx, hb, -⟩ := C
  exact fun H locs ls h1 h2 h3 => lv_goto hx hb hd ht (kk H locs ls h1 h2 h3)
theorem g_ifnull (C : gC w l y cc nL ret d mc ms post px m Wp) {x : Nat} {off : Int} (hd : decode cc pc = .ok (.ifnull off, 3)) (kk : gG w m nL Wp h k u lo st (pc + 3)) : gG w m nL Wp h k u lo (.ref x :: st) pc := by
  obtain ⟨p, e, s, args, below, meth, c, rfl, hx, hb, -⟩ := C
  exact fun H locs ls h1 h2 h3 => lv_ifnull hx hb hd (kk H locs ls h1 h2 h3)
theorem g_ifnullN (C : gC w l y cc nL ret d mc ms post px m Wp) {off : Int} (tgt : Nat) (hd : decode cc pc = .ok (.ifnull off, 3)) (ht : (pc : Int) + off = (tgt : Int)) (kk : gG w m nL Wp h k u lo st tgt) : gG w m nL Wp h k u lo (.null :: st) pc := by
  obtain ⟨p, e, s, args, below, meth, c, rfl, hx, hb, -⟩ := C
  exact fun H locs ls h1 h2 h3 => lv_ifnullN hx hb hd ht (kk H locs ls h1 h2 h3)
theorem g_if_eq (C : gC w l y cc nL ret d mc ms post px m Wp) {x : Int} {off : Int} (tgt : Nat) (hd : decode cc pc = .ok (.ifCond .eq off, 3)) (ht : (pc : Int) + off = (tgt : Int)) (h8 : -2147483648 ≤ x ∧ x < 2147483648) (kt : x = 0 → gG w m nL Wp h k u lo st tgt) (kf : ¬ x = 0 → gG w m nL Wp h k u lo st (pc + 3)) : gG w m nL Wp h k u lo (.int (iI x) :: st) pc := by
  obtain ⟨p, e, s, args, below, meth, c, rfl, hx, hb, -⟩ := C
  exact fun H locs ls h1 h2 h3 => lv_if_eq hx hb hd ht (fun q => kt ((iI_eq h8 (show (-2147483648 : Int) ≤ 0 ∧ (0 : Int) < 2147483648 by omega)).mp q) H locs ls h1 h2 h3) (fun q => kf (fun e => q ((iI_eq h8 (show (-2147483648 : Int) ≤ 0 ∧ (0 : Int) < 2147483648 by omega)).mpr e)) H locs ls h1 h2 h3)
theorem g_icmp_eq (C : gC w l y cc nL ret d mc ms post px m Wp) {x z : Int} {off : Int} (tgt : Nat) (hd : decode cc pc = .ok (.if_icmp .eq off, 3)) (ht : (pc : Int) + off = (tgt : Int)) (h8 : -2147483648 ≤ x ∧ x < 2147483648) (h9 : -2147483648 ≤ z ∧ z < 2147483648) (kt : x = z → gG w m nL Wp h k u lo st tgt) (kf : ¬ x = z → gG w m nL Wp h k u lo st (pc + 3)) : gG w m nL Wp h k u lo (.int (iI z) :: .int (iI x) :: st) pc := by
  obtain ⟨p, e, s, args, below, meth, c, rfl, hx, hb, -⟩ := C
  exact fun H locs ls h1 h2 h3 => lv_icmp_eq hx hb hd ht (fun q => kt ((iI_eq h8 h9).mp q) H locs ls h1 h2 h3) (fun q => kf (fun e => q ((iI_eq h8 h9).mpr e)) H locs ls h1 h2 h3)
theorem g_if_ne (C : gC w l y cc nL ret d mc ms post px m Wp) {x : Int} {off : Int} (tgt : Nat) (hd : decode cc pc = .ok (.ifCond .ne off, 3)) (ht : (pc : Int) + off = (tgt : Int)) (h8 : -2147483648 ≤ x ∧ x < 2147483648) (kt : ¬ x = 0 → gG w m nL Wp h k u lo st tgt) (kf : x = 0 → gG w m nL Wp h k u lo st (pc + 3)) : gG w m nL Wp h k u lo (.int (iI x) :: st) pc := by
  obtain ⟨p, e, s, args, below, meth, c, rfl, hx, hb, -⟩ := C
  exact fun H locs ls h1 h2 h3 => lv_if_ne hx hb hd ht (fun q => kt (fun e => q ((iI_eq h8 (show (-2147483648 : Int) ≤ 0 ∧ (0 : Int) < 2147483648 by omega)).mpr e)) H locs ls h1 h2 h3) (fun q => kf ((iI_eq h8 (show (-2147483648 : Int) ≤ 0 ∧ (0 : Int) < 2147483648 by omega)).mp q) H locs ls h1 h2 h3)
theorem g_icmp_ne (C : gC w l y cc nL ret d mc ms post px m Wp) {x z : Int} {off : Int} (tgt : Nat) (hd : decode cc pc = .ok (.if_icmp .ne off, 3)) (ht : (pc : Int) + off = (tgt : Int)) (h8 : -2147483648 ≤ x ∧ x < 2147483648) (h9 : -2147483648 ≤ z ∧ z < 2147483648) (kt : ¬ x = z → gG w m nL Wp h k u lo st tgt) (kf : x = z → gG w m nL Wp h k u lo st (pc + 3)) : gG w m nL Wp h k u lo (.int (iI z) :: .int (iI x) :: st) pc := by
  obtain ⟨p, e, s, args, below, meth, c, rfl, hx, hb, -⟩ := C
  exact fun H locs ls h1 h2 h3 => lv_icmp_ne hx hb hd ht (fun q => kt (fun e => q ((iI_eq h8 h9).mpr e)) H locs ls h1 h2 h3) (fun q => kf ((iI_eq h8 h9).mp q) H locs ls h1 h2 h3)
theorem g_if_lt (C : gC w l y cc nL ret d mc ms post px m Wp) {x : Int} {off : Int} (tgt : Nat) (hd : decode cc pc = .ok (.ifCond .lt off, 3)) (ht : (pc : Int) + off = (tgt : Int)) (h8 : -2147483648 ≤ x ∧ x < 2147483648) (kt : x < 0 → gG w m nL Wp h k u lo st tgt) (kf : ¬ x < 0 → gG w m nL Wp h k u lo st (pc + 3)) : gG w m nL Wp h k u lo (.int (iI x) :: st) pc := by
  obtain ⟨p, e, s, args, below, meth, c, rfl, hx, hb, -⟩ := C
  exact fun H locs ls h1 h2 h3 => lv_if_lt hx hb hd ht (fun q => kt ((iI_lt h8 (show (-2147483648 : Int) ≤ 0 ∧ (0 : Int) < 2147483648 by omega)).mp q) H locs ls h1 h2 h3) (fun q => kf (fun e => q ((iI_lt h8 (show (-2147483648 : Int) ≤ 0 ∧ (0 : Int) < 2147483648 by omega)).mpr e)) H locs ls h1 h2 h3)
theorem g_icmp_lt (C : gC w l y cc nL ret d mc ms post px m Wp) {x z : Int} {off : Int} (tgt : Nat) (hd : decode cc pc = .ok (.if_icmp .lt off, 3)) (ht : (pc : Int) + off = (tgt : Int)) (h8 : -2147483648 ≤ x ∧ x < 2147483648) (h9 : -2147483648 ≤ z ∧ z < 2147483648) (kt : x < z → gG w m nL Wp h k u lo st tgt) (kf : ¬ x < z → gG w m nL Wp h k u lo st (pc + 3)) : gG w m nL Wp h k u lo (.int (iI z) :: .int (iI x) :: st) pc := by
  obtain ⟨p, e, s, args, below, meth, c, rfl, hx, hb, -⟩ := C
  exact fun H locs ls h1 h2 h3 => lv_icmp_lt hx hb hd ht (fun q => kt ((iI_lt h8 h9).mp q) H locs ls h1 h2 h3) (fun q => kf (fun e => q ((iI_lt h8 h9).mpr e)) H locs ls h1 h2 h3)
theorem g_if_ge (C : gC w l y cc nL ret d mc ms post px m Wp) {x : Int} {off : Int} (tgt : Nat) (hd : decode cc pc = .ok (.ifCond .ge off, 3)) (ht : (pc : Int) + off = (tgt : Int)) (h8 : -2147483648 ≤ x ∧ x < 2147483648) (kt : 0 ≤ x → gG w m nL Wp h k u lo st tgt) (kf : ¬ 0 ≤ x → gG w m nL Wp h k u lo st (pc + 3)) : gG w m nL Wp h k u lo (.int (iI x) :: st) pc := by
  obtain ⟨p, e, s, args, below, meth, c, rfl, hx, hb, -⟩ := C
  exact fun H locs ls h1 h2 h3 => lv_if_ge hx hb hd ht (fun q => kt ((iI_le (show (-2147483648 : Int) ≤ 0 ∧ (0 : Int) < 2147483648 by omega) h8).mp q) H locs ls h1 h2 h3) (fun q => kf (fun e => q ((iI_le (show (-2147483648 : Int) ≤ 0 ∧ (0 : Int) < 2147483648 by omega) h8).mpr e)) H locs ls h1 h2 h3)
theorem g_icmp_ge (C : gC w l y cc nL ret d mc ms post px m Wp) {x z : Int} {off : Int} (tgt : Nat) (hd : decode cc pc = .ok (.if_icmp .ge off, 3)) (ht : (pc : Int) + off = (tgt : Int)) (h8 : -2147483648 ≤ x ∧ x < 2147483648) (h9 : -2147483648 ≤ z ∧ z < 2147483648) (kt : z ≤ x → gG w m nL Wp h k u lo st tgt) (kf : ¬ z ≤ x → gG w m nL Wp h k u lo st (pc + 3)) : gG w m nL Wp h k u lo (.int (iI z) :: .int (iI x) :: st) pc := by
  obtain ⟨p, e, s, args, below, meth, c, rfl, hx, hb, -⟩ := C
  exact fun H locs ls h1 h2 h3 => lv_icmp_ge hx hb hd ht (fun q => kt ((iI_le h9 h8).mp q) H locs ls h1 h2 h3) (fun q => kf (fun e => q ((iI_le h9 h8).mpr e)) H locs ls h1 h2 h3)
theorem g_if_gt (C : gC w l y cc nL ret d mc ms post px m Wp) {x : Int} {off : Int} (tgt : Nat) (hd : decode cc pc = .ok (.ifCond .gt off, 3)) (ht : (pc : Int) + off = (tgt : Int)) (h8 : -2147483648 ≤ x ∧ x < 2147483648) (kt : 0 < x → gG w m nL Wp h k u lo st tgt) (kf : ¬ 0 < x → gG w m nL Wp h k u lo st (pc + 3)) : gG w m nL Wp h k u lo (.int (iI x) :: st) pc := by
  obtain ⟨p, e, s, args, below, meth, c, rfl, hx, hb, -⟩ := C
  exact fun H locs ls h1 h2 h3 => lv_if_gt hx hb hd ht (fun q => kt ((iI_lt (show (-2147483648 : Int) ≤ 0 ∧ (0 : Int) < 2147483648 by omega) h8).mp q) H locs ls h1 h2 h3) (fun q => kf (fun e => q ((iI_lt (show (-2147483648 : Int) ≤ 0 ∧ (0 : Int) < 2147483648 by omega) h8).mpr e)) H locs ls h1 h2 h3)
theorem g_icmp_gt (C : gC w l y cc nL ret d mc ms post px m Wp) {x z : Int} {off : Int} (tgt : Nat) (hd : decode cc pc = .ok (.if_icmp .gt off, 3)) (ht : (pc : Int) + off = (tgt : Int)) (h8 : -2147483648 ≤ x ∧ x < 2147483648) (h9 : -2147483648 ≤ z ∧ z < 2147483648) (kt : z < x → gG w m nL Wp h k u lo st tgt) (kf : ¬ z < x → gG w m nL Wp h k u lo st (pc + 3)) : gG w m nL Wp h k u lo (.int (iI z) :: .int (iI x) :: st) pc := by
  obtain ⟨p, e, s, args, below, meth, c, rfl, hx, hb, -⟩ := C
  exact fun H locs ls h1 h2 h3 => lv_icmp_gt hx hb hd ht (fun q => kt ((iI_lt h9 h8).mp q) H locs ls h1 h2 h3) (fun q => kf (fun e => q ((iI_lt h9 h8).mpr e)) H locs ls h1 h2 h3)
theorem g_if_le (C : gC w l y cc nL ret d mc ms post px m Wp) {x : Int} {off : Int} (tgt : Nat) (hd : decode cc pc = .ok (.ifCond .le off, 3)) (ht : (pc : Int) + off = (tgt : Int)) (h8 : -2147483648 ≤ x ∧ x < 2147483648) (kt : x ≤ 0 → gG w m nL Wp h k u lo st tgt) (kf : ¬ x ≤ 0 → gG w m nL Wp h k u lo st (pc + 3)) : gG w m nL Wp h k u lo (.int (iI x) :: st) pc := by
  obtain ⟨p, e, s, args, below, meth, c, rfl, hx, hb, -⟩ := C
  exact fun H locs ls h1 h2 h3 => lv_if_le hx hb hd ht (fun q => kt ((iI_le h8 (show (-2147483648 : Int) ≤ 0 ∧ (0 : Int) < 2147483648 by omega)).mp q) H locs ls h1 h2 h3) (fun q => kf (fun e => q ((iI_le h8 (show (-2147483648 : Int) ≤ 0 ∧ (0 : Int) < 2147483648 by omega)).mpr e)) H locs ls h1 h2 h3)
theorem g_icmp_le (C : gC w l y cc nL ret d mc ms post px m Wp) {x z : Int} {off : Int} (tgt : Nat) (hd : decode cc pc = .ok (.if_icmp .le off, 3)) (ht : (pc : Int) + off = (tgt : Int)) (h8 : -2147483648 ≤ x ∧ x < 2147483648) (h9 : -2147483648 ≤ z ∧ z < 2147483648) (kt : x ≤ z → gG w m nL Wp h k u lo st tgt) (kf : ¬ x ≤ z → gG w m nL Wp h k u lo st (pc + 3)) : gG w m nL Wp h k u lo (.int (iI z) :: .int (iI x) :: st) pc := by
  obtain ⟨p, e, s, args, below, meth, c, rfl, hx, hb, -⟩ := C
  exact fun H locs ls h1 h2 h3 => lv_icmp_le hx hb hd ht (fun q => kt ((iI_le h8 h9).mp q) H locs ls h1 h2 h3) (fun q => kf (fun e => q ((iI_le h8 h9).mpr e)) H locs ls h1 h2 h3)
theorem g_acmp_eq (C : gC w l y cc nL ret d mc ms post px m Wp) {x z : Nat} {off : Int} (tgt : Nat) (hd : decode cc pc = .ok (.if_acmp .eq off, 3)) (ht : (pc : Int) + off = (tgt : Int)) (kt : x = z → gG w m nL Wp h k u lo st tgt) (kf : ¬ x = z → gG w m nL Wp h k u lo st (pc + 3)) : gG w m nL Wp h k u lo (.ref z :: .ref x :: st) pc := by
  obtain ⟨p, e, s, args, below, meth, c, rfl, hx, hb, -, -, -, hkn, -⟩ := C
  have hb0 := hkn.2.1
  exact fun H locs ls h1 h2 h3 => lv_acmp_eq (rx := some (gρ w x)) (ry := some (gρ w z)) hx hb hd ht (fun q => kt (gρ_inj hb0 (Option.some.inj q)) H locs ls h1 h2 h3) (fun q => kf (fun e => q (by rw [e])) H locs ls h1 h2 h3)
theorem g_acmp_ne (C : gC w l y cc nL ret d mc ms post px m Wp) {x z : Nat} {off : Int} (tgt : Nat) (hd : decode cc pc = .ok (.if_acmp .ne off, 3)) (ht : (pc : Int) + off = (tgt : Int)) (kt : ¬ x = z → gG w m nL Wp h k u lo st tgt) (kf : x = z → gG w m nL Wp h k u lo st (pc + 3)) : gG w m nL Wp h k u lo (.ref z :: .ref x :: st) pc := by
  obtain ⟨p, e, s, args, below, meth, c, rfl, hx, hb, -, -, -, hkn, -⟩ := C
  have hb0 := hkn.2.1
  exact fun H locs ls h1 h2 h3 => lv_acmp_ne (rx := some (gρ w x)) (ry := some (gρ w z)) hx hb hd ht (fun q => kt (fun e => q (by rw [e])) H locs ls h1 h2 h3) (fun q => kf (gρ_inj hb0 (Option.some.inj q)) H locs ls h1 h2 h3)

theorem g_iinc (C : gC w l y cc nL ret d mc ms post px m Wp) {i : Nat} {n : Int} {x : Int} (hd : decode cc pc = .ok (.iinc i n, 3)) (hl : lo[i]? = some (some (.int (iI x)))) (hn : i < nL) (kk : gG w m nL Wp h k u (lo.set i (some (.int (iI (x + n))))) st (pc + 3)) : gG w m nL Wp h k u lo st pc := by
  obtain ⟨p, e, s, args, below, meth, c, rfl, hx, hb, -⟩ := C
  intro H locs ls h1 h2 h3
  have hm := gpr_in (w := w) lo 0 i _ hl
  rw [Nat.zero_add] at hm
  obtain ⟨j, hj⟩ := List.getElem?_of_mem hm
  exact lv_iinc hx hb hd h3.has hj (v := iI (x + n)) (iI_add x n) hn rfl (fun ls9 h9 => kk H locs ls9 h1 h2 (h3.st (v := .int (iI (x + n))) rfl rfl h9))
theorem g_tableIn (C : gC w l y cc nL ret d mc ms post px m Wp) {dflt lo9 hi : Int} {offs : Array Int} {len : Nat} {x : Int} {off : Int} (tgt : Nat) (hd : decode cc pc = .ok (.tableswitch dflt lo9 hi offs, len)) (hr : -2147483648 ≤ x ∧ x < 2147483648) (h8 : ¬ x < lo9) (h9 : ¬ hi < x) (ho : offs[(x - lo9).toNat]? = some off) (ht : (pc : Int) + off = (tgt : Int)) (kk : gG w m nL Wp h k u lo st tgt) : gG w m nL Wp h k u lo (.int (iI x) :: st) pc := by
  obtain ⟨p, e, s, args, below, meth, c, rfl, hx, hb, -⟩ := C
  exact fun H locs ls h1 h2 h3 => lv_tableIn hx hb hd (by rw [iI_toInt hr]; exact h8) (by rw [iI_toInt hr]; exact h9) (by rw [iI_toInt hr]; exact ho) ht (kk H locs ls h1 h2 h3)
theorem g_tableOut (C : gC w l y cc nL ret d mc ms post px m Wp) {dflt lo9 hi : Int} {offs : Array Int} {len : Nat} {x : Int} (tgt : Nat) (hd : decode cc pc = .ok (.tableswitch dflt lo9 hi offs, len)) (hr : -2147483648 ≤ x ∧ x < 2147483648) (h8 : x < lo9 ∨ hi < x) (ht : (pc : Int) + dflt = (tgt : Int)) (kk : gG w m nL Wp h k u lo st tgt) : gG w m nL Wp h k u lo (.int (iI x) :: st) pc := by
  obtain ⟨p, e, s, args, below, meth, c, rfl, hx, hb, -⟩ := C
  exact fun H locs ls h1 h2 h3 => lv_tableOut hx hb hd (by rw [iI_toInt hr]; exact h8) ht (kk H locs ls h1 h2 h3)
theorem g_widen {k' u' : Nat} (C : gC w l y cc nL ret d mc ms post px m Wp) (h1 : k ≤ k') (h2 : u ≤ u') (kk : gG w m nL Wp h k' u' lo st pc) : gG w m nL Wp h k u lo st pc := by
  obtain ⟨p, e, s, args, below, meth, c, rfl, hx, hb, -⟩ := C
  exact fun H locs ls a1 a2 a3 => W.widen h1 h2 (kk H locs ls a1 a2 a3)
theorem g_iret (C : gC w l y cc nL (some .int) d mc ms post px m Wp) {x : Int32} (hd : decode cc pc = .ok (.ireturn, 1)) (hk : k ≤ mc) (hu : u ≤ ms) (hp : post (some (.int x)) h) : gG w m nL Wp h k u lo [.int x] pc := by
  obtain ⟨p, e, s, args, below, meth, c, rfl, hx, hb, hml, hown, hts, hkn, hr, hlocks, -⟩ := C
  exact fun H locs ls a1 a2 a3 => W.widen hk hu (vx_ret (W.iret (v := x) hx hb hr (fun t ht hW => ⟨some (.int x), h, rfl, hp, by rw [ht]; exact a1⟩) a2 hd hlocks))
theorem g_zret (C : gC w l y cc nL (some .boolean) d mc ms post px m Wp) {x : Int} (hd : decode cc pc = .ok (.ireturn, 1)) (hz : x = 0 ∨ x = 1) (hk : k ≤ mc) (hu : u ≤ ms) (hp : post (some (.int (iI x))) h) : gG w m nL Wp h k u lo [.int (iI x)] pc := by
  obtain ⟨p, e, s, args, below, meth, c, rfl, hx, hb, hml, hown, hts, hkn, hr, hlocks, -⟩ := C
  exact fun H locs ls a1 a2 a3 => W.widen hk hu (vx_ret (W.zret (v := iI x) hx hb hr (by rcases hz with e | e <;> subst e <;> rfl) (fun t ht hW => ⟨some (.int (iI x)), h, rfl, hp, by rw [ht]; exact a1⟩) a2 hd hlocks))
theorem g_vret (C : gC w l y cc nL none d mc ms post px m Wp) (hd : decode cc pc = .ok (.return_, 1)) (hk : k ≤ mc) (hu : u ≤ ms) (hp : post none h) : gG w m nL Wp h k u lo [] pc := by
  obtain ⟨p, e, s, args, below, meth, c, rfl, hx, hb, hml, hown, hts, hkn, hr, hlocks, -⟩ := C
  exact fun H locs ls a1 a2 a3 => W.widen hk hu (vx_ret (W.vret hx hb hr (fun t ht hW => ⟨none, h, rfl, hp, by rw [ht]; exact a1⟩) a2 hd hlocks))
theorem g_aret {E : String} (C : gC w l y cc nL (some (.object E)) d mc ms post px m Wp) {x : Nat} (hd : decode cc pc = .ok (.areturn, 1)) (hk : k ≤ mc) (hu : u ≤ ms) (hp : post (some (.ref x)) h) : gG w m nL Wp h k u lo [.ref x] pc := by
  obtain ⟨p, e, s, args, below, meth, c, rfl, hx, hb, hml, hown, hts, hkn, hr, hlocks, -⟩ := C
  exact fun H locs ls a1 a2 a3 => W.widen hk hu (vx_ret (W.aret (v := .ref (gρ w x)) hx hb hr (Or.inl ⟨_, rfl⟩) (Or.inr ⟨_, rfl⟩) (fun t ht hW => ⟨some (.ref x), h, rfl, hp, by rw [ht]; exact a1⟩) a2 hd hlocks))
end GR
