/-! ===== BEGIN words of one list among another's, by their places ===== -/
theorem goodIn_r {big : List Cond} (ws : List Cond) (ps : List Nat) (hp : ws = ps.filterMap (fun i => big[i]?)) (h : ws.all goodWord = true) : GoodIn big ws := by
  intro w hw
  have h1 := List.all_eq_true.mp h w hw
  rw [hp] at hw
  obtain ⟨i, -, hi⟩ := List.mem_filterMap.mp hw
  have hm : w ∈ big := by first | exact List.mem_of_getElem? hi | exact List.getElem?_mem hi
  exact ⟨hm, good_of_word h1⟩
theorem goodIn_app {big a b : List Cond} (ha : GoodIn big a) (hb : GoodIn big b) : GoodIn big (a ++ b) := fun w h => (List.mem_append.mp h).elim (ha w) (hb w)
theorem goodIn_ca {big a b : List Cond} {c : Cond} (ha : GoodIn big (c :: a)) (hb : GoodIn big b) : GoodIn big (c :: (a ++ b)) := fun w h => (List.mem_cons.mp h).elim (fun e => ha w (List.mem_cons.mpr (Or.inl e))) (fun h => (List.mem_append.mp h).elim (fun h => ha w (List.mem_cons.mpr (Or.inr h))) (hb w))
theorem goodIn_sub {big ws : List Cond} (hm : ∀ w ∈ ws, w ∈ big) (h : ws.all goodWord = true) : GoodIn big ws := fun w hw => ⟨hm w hw, good_of_word (List.all_eq_true.mp h w hw)⟩
/-! ===== END ===== -/

/-! ===== BEGIN exceptions that leave a method, and their catching by the caller (launches without stack traces) ===== -/
section VXA
/-! The laws vx_back, vx_callV, vx_callS, vx_callSW, vx_throw0, vx_throwS follow proofs of the library, with one case more: JvmDerived/Free/Laws.lean (Back.of_free), Shelf42/LK1.lean (callV, callS), Shelf/KitTraced.lean (throwNew0V, throwNewS). -/
/-- where a method has thrown q: the class by its name, the cell, what was written, the world -/
def vx_T (XC : String → State → State → Prop) (st : State) (q : Addr) (t : State) (mc ms : Nat) (free : Addr → Prop) : Prop :=
  ∃ (E : String) (ce : Cell) (L : List Loc), XC E st t ∧ t.heap[q]? = some ce ∧ ce.vm = .none ∧ st.vm.findClass E = some ce.cls ∧ st.WarmedH t.vm ∧ st.sameButNew ({ t with vm := st.vm } : State) L mc ms ∧ ∀ z ∈ L, free z.base
def vx_Q (Qc : Array Value → State → Outcome → State → Prop) (XC : String → State → State → Prop) (mc ms : Nat) (free : Addr → Prop) : Array Value → State → Outcome → State → Prop := fun a st o t =>
  (Qc a st o t ∧ ∃ L, FrameEnd st o t L mc ms ∧ ∀ q ∈ L, free q.base) ∨ ∃ q, o = .threw q ∧ vx_T XC st q t mc ms free
/-- a callee that returns or throws -/
def vx_Met (l : Launch) (y : MethodName) (ws : List Cond) (rm : Room) (Pc : Array Value → State → Prop) (Qc : Array Value → State → Outcome → State → Prop) (XC : String → State → State → Prop) (mc ms : Nat) (free : Addr → Prop) : Prop :=
  MetFree l y (headSpec ws rm) Pc (fun _ _ _ _ _ => True) (vx_Q Qc XC mc ms free)
def vx_Post (XC : String → State → State → Prop) (mc ms : Nat) (free : Addr → Prop) : Pt → Array Value → Addr → Pt → Prop := fun A a q B =>
  ∃ (g : JFrame) (mk : MethodId) (t : State) (L : List Loc) (E : String) (ce : Cell), B.U.heap = t.heap ∧ B.U.vm = t.vm ∧ XC E (A.U.calling g mk a) t ∧ t.heap[q]? = some ce ∧ ce.vm = .none ∧ A.U.vm.findClass E = some ce.cls ∧ B.locs = A.locs ++ L ∧ (∀ z ∈ L, free z.base) ∧ B.cells = A.cells + mc ∧ B.slots = A.slots + ms
def vx_Back (l : Launch) (R : Room) (p : Program) (e : Env) (below : List Frame) (s : State) (sargs : Array Value) (y : MethodName) (len W9 : Nat)
    (Pre : Pt → Array Value → Prop) (Post : Pt → Array Value → Option Value → Pt → Prop) (PostX : Pt → Array Value → Addr → Pt → Prop) : Prop :=
  ∀ (m : MethodId) (meth : Method) (c : Code) (A : Pt) (g : JFrame) (ig : Instr) (mk : MethodId) (a : Array Value),
    Stand p l e R s m sargs below meth c A.U A.locs A.cells A.slots → g.method = m → g.locals.size = c.maxLocals → decode c.code g.pc = .ok (ig, len) →
    2 * g.monitorRoom + (g.stack.map fun v => v.category).sum ≤ W9 → A.U.methodNamed? y = some mk → Pre A a →
    (∃ (v : Option Value) (B : Pt), Stand p l e R s m sargs below meth c B.U B.locs B.cells B.slots ∧ Post A a v B ∧
      Steps p.tables e below (doInvoke e (A.U.setTop g) [] mk a).1 (B.U.setTop { g with pc := g.pc + len, stack := v.toList ++ g.stack })) ∨
    (∃ (q : Addr) (B : Pt), Stand p l e R s m sargs below meth c B.U B.locs B.cells B.slots ∧ PostX A a q B ∧
      Steps p.tables e below (doInvoke e (A.U.setTop g) [] mk a).1 ((B.U.setTop g).pushFrame (.throwing q)))
section Payer
variable {l : Launch} {R : Room} {p : Program} {e : Env} {below : List Frame} {s : State} {sargs : Array Value} {y : MethodName} {len W9 : Nat}
theorem vx_back {ws : List Cond} {rm : Room} {Pc : Array Value → State → Prop} {Qc : Array Value → State → Outcome → State → Prop} {XC : String → State → State → Prop} {mc ms : Nat} {free : Addr → Prop} {bytes : ByteArray} {maxL : Nat} {ret : Option FieldType}
    (hM : vx_Met l y ws rm Pc Qc XC mc ms free) (hblind : FrameBlind Pc) (hrc : rm.cells = mc) (hrs : rm.slots = ms)
    (hframes : rm.frames + 1 ≤ R.frames) (hlocals : W9 + (maxL + 11) + rm.locals ≤ R.locals)
    (hws : ∀ w ∈ ws, ∀ a' U, s.WarmedH U.vm → w.before a' U = true) (hcode : Cond.code y bytes maxL ret ∈ ws) (hinit : ∀ a' U, s.WarmedH U.vm → (Cond.initialized y.cls).before a' U = true) :
    vx_Back l R p e below s sargs y len W9 (PreOf R mc ms Pc) (PostOf Qc mc ms free) (vx_Post XC mc ms free) := by
  intro m meth c A g ig mk a X hg hsize hdg hW hn hp
  have h1 : (headSpec ws rm).pre.before a A.U = true := atoms_intro fun w hw => hws w hw _ _ X.warmed
  have h2 : (Cond.code y bytes maxL ret).before a A.U = true := hws _ hcode _ _ X.warmed
  have h3 : (Cond.initialized y.cls).before a A.U = true := hinit _ _ X.warmed
  have h4 : A.cells + (headSpec ws rm).room.cells ≤ R.cells := by rw [show (headSpec ws rm).room.cells = mc from hrc]; exact hp.1
  have h5 : A.slots + (headSpec ws rm).room.slots ≤ R.slots := by rw [show (headSpec ws rm).room.slots = ms from hrs]; exact hp.2.1
  have hPc : Pc a (A.U.calling g mk a) := hblind _ _ _ _ hp.2.2
  obtain ⟨U, Ls, c0, s0⟩ := A
  dsimp only [Pt.U, Pt.locs, Pt.cells, Pt.slots] at h1 h2 h3 h4 h5 X hn hPc ⊢
  obtain ⟨methY, cY, hmY, hcY, -, hlY, -, -, -, -⟩ := Cond.code_spec hn h2
  obtain ⟨kY, hkY, -⟩ := className_of_methodNamed hn
  have hinitY : kY.init = .initialized := Cond.initialized_spec (findClass_of_methodNamed hn) hkY h3
  have h : At U g.method c below := by rw [hg]; exact X.here
  have hlocals9 : W9 + (maxL + 11) + (headSpec ws rm).room.locals ≤ R.locals := hlocals
  have happ : (headSpec ws rm).appliesLoose y e.platform (U.calling g mk a) = true :=
    Spec.appliesLoose_calling (g := g) h hdg hn hkY hinitY
      (X.room_calling (g := g) (R' := (headSpec ws rm).room) hsize hmY hcY hframes (by rw [hlY]; omega) h4 h5) h1
  obtain ⟨mid, hmid⟩ := h.above
  have hfr : (U.setTop g).frames = (.java g :: mid) ++ below := by rw [State.frames_setTop' g h.top, hmid]; rfl
  obtain ⟨o, s₂, hsteps, -, hend, hq⟩ := Steps.callFree hM p X.admits X.cas X.clock (acts := []) hfr happ hPc trivial
  have hq' : vx_Q Qc XC mc ms free a (U.calling g mk a) o s₂ := hq
  rw [State.frames_setTop' g h.top] at hend
  obtain ⟨g₀, hg0⟩ := Option.isSome_iff_exists.mp h.top
  obtain ⟨r, hr⟩ := State.topJava?_eq_some.mp hg0
  have hr' : (({ U with heap := s₂.heap, slotsUsed := s₂.slotsUsed } : State).setVm s₂.vm).frames = .java g₀ :: r := hr
  rcases hq' with ⟨hqc, L, hfe, hL⟩ | ⟨q, rfl, E, ce, L, hx, hce, hcv, hcl, hW₂, hsm, hL⟩
  · obtain ⟨⟨v, rfl⟩, hW₂, e2, q2, q3, q4, q5, q6⟩ := id hfe
    have e3 : s₂ = ({ (U.calling g mk a).setFrames s₂.frames with heap := s₂.heap, slotsUsed := s₂.slotsUsed } : State).setVm s₂.vm := by
      have : s₂ = ({ s₂ with vm := (U.calling g mk a).vm } : State).setVm s₂.vm := rfl
      rw [e2] at this
      exact this
    obtain ⟨c₂, i₂, len₂, hc₂, hd₂, hf₂⟩ := hend
    have hW' : U.WarmedH s₂.vm := hW₂
    have hcc : c₂ = c := by
      have h1 : s₂.code? g.method = U.code? g.method := by
        rw [State.code?_eq, State.code?_eq, hW'.alike.method?]
      exact Option.some.inj (hc₂.symm.trans (h1.trans h.code))
    subst hcc
    have hlen : len₂ = len := by rw [hdg] at hd₂; cases hd₂; rfl
    subst hlen
    have hs₂ : s₂ = (({ U with heap := s₂.heap, slotsUsed := s₂.slotsUsed } : State).setVm s₂.vm).setTop { g with pc := g.pc + len₂, stack := v.toList ++ g.stack } := by
      refine e3.trans ?_
      rw [hf₂, State.calling_eq h.top, State.setFrames_setFrames, State.setTop_of_frames _ hr', hr]
      rfl
    have hsame : U.sameButNew ({ U with heap := s₂.heap, slotsUsed := s₂.slotsUsed } : State) L mc ms := by
      refine ⟨?_, q2, q3, q4, q5, q6⟩
      obtain ⟨t, ht, -⟩ := State.frames_cons hr
      show ({ U with heap := s₂.heap, slotsUsed := s₂.slotsUsed } : State) = { U.setFrames U.frames with heap := s₂.heap, slotsUsed := s₂.slotsUsed }
      rw [State.setFrames_self ht]
    subst hg
    refine Or.inl ⟨v, ⟨(({ U with heap := s₂.heap, slotsUsed := s₂.slotsUsed } : State).setVm s₂.vm), Ls ++ L, c0 + mc, s0 + ms⟩,
      ⟨X.admits, X.cas, X.clock, X.frames, X.room, X.hears, X.method, X.code, (X.here.setHeapUsed s₂.heap s₂.slotsUsed).setVm hW'.alike, X.tail, State.WarmedH.trans X.warmed hW', X.limits, X.bytes, X.same.trans (hsame.setVm s.vm)⟩,
      ⟨g, mk, s₂, L, rfl, rfl, hqc, rfl, hL, rfl, rfl⟩, ?_⟩
    show Steps p.tables e below _ ((({ U with heap := s₂.heap, slotsUsed := s₂.slotsUsed } : State).setVm s₂.vm).setTop { g with pc := g.pc + len₂, stack := v.toList ++ g.stack })
    rw [← hs₂]
    exact hsteps
  · obtain ⟨e2, q2, q3, q4, q5, q6⟩ := id hsm
    have e3 : s₂ = ({ (U.calling g mk a).setFrames s₂.frames with heap := s₂.heap, slotsUsed := s₂.slotsUsed } : State).setVm s₂.vm := by
      have : s₂ = ({ s₂ with vm := (U.calling g mk a).vm } : State).setVm s₂.vm := rfl
      rw [e2] at this
      exact this
    have hf₂ : s₂.frames = .throwing q :: .java g :: U.frames.tail := hend
    have hW' : U.WarmedH s₂.vm := hW₂
    have hs₂ : s₂ = ((({ U with heap := s₂.heap, slotsUsed := s₂.slotsUsed } : State).setVm s₂.vm).setTop g).pushFrame (.throwing q) := by
      refine e3.trans ?_
      rw [hf₂, State.calling_eq h.top, State.setFrames_setFrames, State.pushFrame, State.frames_setTop _ hr', State.setTop_of_frames _ hr', State.setFrames_setFrames, hr]
      rfl
    have hsame : U.sameButNew ({ U with heap := s₂.heap, slotsUsed := s₂.slotsUsed } : State) L mc ms := by
      refine ⟨?_, q2, q3, q4, q5, q6⟩
      obtain ⟨t, ht, -⟩ := State.frames_cons hr
      show ({ U with heap := s₂.heap, slotsUsed := s₂.slotsUsed } : State) = { U.setFrames U.frames with heap := s₂.heap, slotsUsed := s₂.slotsUsed }
      rw [State.setFrames_self ht]
    subst hg
    refine Or.inr ⟨q, ⟨(({ U with heap := s₂.heap, slotsUsed := s₂.slotsUsed } : State).setVm s₂.vm), Ls ++ L, c0 + mc, s0 + ms⟩,
      ⟨X.admits, X.cas, X.clock, X.frames, X.room, X.hears, X.method, X.code, (X.here.setHeapUsed s₂.heap s₂.slotsUsed).setVm hW'.alike, X.tail, State.WarmedH.trans X.warmed hW', X.limits, X.bytes, X.same.trans (hsame.setVm s.vm)⟩,
      ⟨g, mk, s₂, L, E, ce, rfl, rfl, hx, hce, hcv, hcl, rfl, hL, rfl, rfl⟩, ?_⟩
    show Steps p.tables e below _ (((({ U with heap := s₂.heap, slotsUsed := s₂.slotsUsed } : State).setVm s₂.vm).setTop g).pushFrame (.throwing q))
    rw [← hs₂]
    exact hsteps
end Payer
section Calls
variable {p : Program} {l : Launch} {e : Env} {R : Room} {s : State} {m : MethodId} {args : Array Value} {below : List Frame} {meth : Method} {c : Code} {T : State} {locs : List Loc} {cells slots : Nat}
theorem vx_callV (X : Stand p l e R s m args below meth c T locs cells slots) (hexec : p.tables.exec = Jvm.exec) {own C : String} {index : Nat} {y : MethodName} {bytes : ByteArray} {maxL : Nat} {ret : Option FieldType}
    (hown : s.vm.findClass own = some m.cls) (hlink : (Cond.methodLink own index y).before args s = true) (hinst : (Cond.instanceMethod y).before args s = true) (hsel : (Cond.selects C y y).before args s = true)
    (hcode : (Cond.code y bytes maxL ret).before args s = true) (hy : y.cls ≠ "java/lang/invoke/MethodHandle" ∧ y.cls ≠ "java/lang/invoke/VarHandle")
    {W9 : Nat} {Pre : Pt → Array Value → Prop} {Post : Pt → Array Value → Option Value → Pt → Prop} {PostX : Pt → Array Value → Addr → Pt → Prop} (hK : vx_Back l R p e below s args y 3 W9 Pre Post PostX)
    {b : Addr} {cellB : Cell} (hcell : T.heap[b]? = some cellB) (hobj : cellB.vm.isStatics = false) (hcls : s.vm.findClass C = some cellB.cls)
    {g : JFrame} (hg : g.method = m) (hsize : g.locals.size = c.maxLocals) {argsL rest : List Value} (hlen : ∀ sig, parseMethodDescriptor y.desc = some sig → argsL.length = sig.parameters.length)
    (hstack : g.stack = argsL.reverse ++ .ref b :: rest) (hW : 2 * g.monitorRoom + (rest.map fun v => v.category).sum ≤ W9) (hdg : decode c.code g.pc = .ok (.invokevirtual index, 3))
    (hpre : ∀ vm₁, s.WarmedH vm₁ → Pre ⟨T.setVm vm₁, locs, cells, slots⟩ (Value.ref b :: argsL).toArray) :
    (∃ (v : Option Value) (vm₁ : Vm) (B : Pt), s.WarmedH vm₁ ∧ Stand p l e R s m args below meth c B.U B.locs B.cells B.slots ∧ Post ⟨T.setVm vm₁, locs, cells, slots⟩ (Value.ref b :: argsL).toArray v B ∧
      ∀ target, Steps p.tables e below (B.U.setTop { g with pc := g.pc + 3, stack := v.toList ++ rest }) target → Steps p.tables e below (T.setTop g) target) ∨
    (∃ (q : Addr) (vm₁ : Vm) (B : Pt), s.WarmedH vm₁ ∧ Stand p l e R s m args below meth c B.U B.locs B.cells B.slots ∧ PostX ⟨T.setVm vm₁, locs, cells, slots⟩ (Value.ref b :: argsL).toArray q B ∧
      Steps p.tables e below (T.setTop g) ((B.U.setTop { g with stack := rest }).pushFrame (.throwing q))) := by
  obtain ⟨mk, methM, hnamed, hmethM, hstM, habM⟩ := Cond.instanceMethod_spec hinst
  obtain ⟨methM', cM, hmethM', -, -, -, -, -, -, hsigM⟩ := Cond.code_spec hnamed hcode
  cases hmethM.symm.trans hmethM'
  obtain ⟨c2, r2, m2, q1, q2, q3, q4, kP, hkP, hkPi⟩ := Cond.selects_spec hsel
  cases hcls.symm.trans q1
  cases (State.methodFound?_of_named hnamed hy).symm.trans q2
  cases hnamed.symm.trans q3
  have hselP : selectMethod e.platform s.vm cellB.cls mk = .method mk := by rw [Launch.admits_selectMethod X.admits]; exact q4
  obtain ⟨vm₁, X₁, hstep₁⟩ := X.invokevirtual hexec hown hlink hnamed hmethM hstM hkP hkPi hy (a := b) (cell := cellB) hcell
    (fun z h => by rw [h] at hobj; cases hobj) hselP hmethM habM hkP hkPi (g := g) hg (argsL := argsL) (rest := rest) (hlen _ hsigM) hstack hdg
  rcases hK m meth c ⟨T.setVm vm₁, locs, cells, slots⟩ { g with stack := rest } (.invokevirtual index) mk (Value.ref b :: argsL).toArray X₁ hg hsize hdg hW (X₁.named hnamed) (hpre vm₁ X₁.warmed) with ⟨v, B, X', hpost, hsteps⟩ | ⟨q, B, X', hpost, hsteps⟩
  · exact Or.inl ⟨v, vm₁, B, X₁.warmed, X', hpost, fun target h => hstep₁ _ fun acts => by rw [doInvoke_state]; exact hsteps.trans h⟩
  · exact Or.inr ⟨q, vm₁, B, X₁.warmed, X', hpost, hstep₁ _ fun acts => by rw [doInvoke_state]; exact hsteps⟩
theorem vx_callS (X : Stand p l e R s m args below meth c T locs cells slots) (hexec : p.tables.exec = Jvm.exec) {own : String} {index : Nat} {y : MethodName} {bytes : ByteArray} {maxL : Nat} {ret : Option FieldType}
    (hown : s.vm.findClass own = some m.cls) (hlink : (Cond.methodLink own index y).before args s = true) (hstat : (Cond.static y).before args s = true) (hinit : (Cond.initialized y.cls).before args s = true)
    (hcode : (Cond.code y bytes maxL ret).before args s = true) (hy : y.cls ≠ "java/lang/invoke/MethodHandle" ∧ y.cls ≠ "java/lang/invoke/VarHandle")
    {W9 : Nat} {Pre : Pt → Array Value → Prop} {Post : Pt → Array Value → Option Value → Pt → Prop} {PostX : Pt → Array Value → Addr → Pt → Prop} (hK : vx_Back l R p e below s args y 3 W9 Pre Post PostX)
    {g : JFrame} (hg : g.method = m) (hsize : g.locals.size = c.maxLocals) {argsL rest : List Value} (hlen : ∀ sig, parseMethodDescriptor y.desc = some sig → argsL.length = sig.parameters.length)
    (hstack : g.stack = argsL.reverse ++ rest) (hW : 2 * g.monitorRoom + (rest.map fun v => v.category).sum ≤ W9) (hdg : decode c.code g.pc = .ok (.invokestatic index, 3))
    (hpre : ∀ vm₁, s.WarmedH vm₁ → Pre ⟨T.setVm vm₁, locs, cells, slots⟩ argsL.toArray) :
    (∃ (v : Option Value) (vm₁ : Vm) (B : Pt), s.WarmedH vm₁ ∧ Stand p l e R s m args below meth c B.U B.locs B.cells B.slots ∧ Post ⟨T.setVm vm₁, locs, cells, slots⟩ argsL.toArray v B ∧
      ∀ target, Steps p.tables e below (B.U.setTop { g with pc := g.pc + 3, stack := v.toList ++ rest }) target → Steps p.tables e below (T.setTop g) target) ∨
    (∃ (q : Addr) (vm₁ : Vm) (B : Pt), s.WarmedH vm₁ ∧ Stand p l e R s m args below meth c B.U B.locs B.cells B.slots ∧ PostX ⟨T.setVm vm₁, locs, cells, slots⟩ argsL.toArray q B ∧
      Steps p.tables e below (T.setTop g) ((B.U.setTop { g with stack := rest }).pushFrame (.throwing q))) := by
  obtain ⟨mk, hnamed⟩ := Cond.code_named hcode
  obtain ⟨methM, cM, hmethM, -, -, -, -, -, -, hsigM⟩ := Cond.code_spec hnamed hcode
  have hstatic : methM.isStatic = true := Cond.static_spec hnamed hmethM hstat
  obtain ⟨kP, hkP, -⟩ := className_of_methodNamed hnamed
  have hinitP : kP.init = .initialized := Cond.initialized_spec (findClass_of_methodNamed hnamed) hkP hinit
  obtain ⟨vm₁, X₁, hstep₁⟩ := X.invokestatic hexec hown hlink hnamed hmethM hstatic hkP hinitP hy (g := g) hg (argsL := argsL) (rest := rest) (hlen _ hsigM) hstack hdg
  rcases hK m meth c ⟨T.setVm vm₁, locs, cells, slots⟩ { g with stack := rest } (.invokestatic index) mk argsL.toArray X₁ hg hsize hdg hW (X₁.named hnamed) (hpre vm₁ X₁.warmed) with ⟨v, B, X', hpost, hsteps⟩ | ⟨q, B, X', hpost, hsteps⟩
  · exact Or.inl ⟨v, vm₁, B, X₁.warmed, X', hpost, fun target h => hstep₁ _ fun acts => by rw [doInvoke_state]; exact hsteps.trans h⟩
  · exact Or.inr ⟨q, vm₁, B, X₁.warmed, X', hpost, hstep₁ _ fun acts => by rw [doInvoke_state]; exact hsteps⟩
end Calls
theorem vx_cls {s : State} {T : State} {vm₁ : Vm} {E : String} {k : ClassId} (hW : s.WarmedH vm₁) (h : (T.setVm vm₁).vm.findClass E = some k) : s.vm.findClass E = some k := by
  have h1 : vm₁.findClass E = some k := h
  rw [hW.alike.findClass] at h1
  exact h1
/-- the method's frame g, with q thrown over it -/
def vx_W (p : Program) (l : Launch) (e : Env) (R : Room) (s : State) (m : MethodId) (args : Array Value) (below : List Frame) (meth : Method) (c : Code) (H : Heap) (locs : List Loc) (cells slots : Nat) (Q : State → Prop) (g : JFrame) (q : Addr) : Prop :=
  ∀ T : State, T.heap = H → Stand p l e R s m args below meth c T locs cells slots → ∃ t, Steps p.tables e below ((T.setTop g).pushFrame (.throwing q)) t ∧ Q t
def vx_Run (p : Program) (l : Launch) (e : Env) (R : Room) (s : State) (m : MethodId) (args : Array Value) (below : List Frame) (meth : Method) (c : Code) (H : Heap) (locs : List Loc) (cells slots mc ms : Nat) (g : JFrame) (rest : List Value) (Qa : State → Outcome → State → Prop) (XC : String → State → State → Prop) (free : Addr → Prop) : Prop :=
  ∀ T : State, T.heap = H → Stand p l e R s m args below meth c T locs cells slots →
    (∃ (v : Option Value) (st₀ t T' : State) (L : List Loc), st₀.heap = H ∧ Stand p l e R s m args below meth c T' (locs ++ L) (cells + mc) (slots + ms) ∧ (∀ q ∈ L, free q.base) ∧ T'.heap = t.heap ∧ T'.vm = t.vm ∧ Qa st₀ (.returned v) t ∧
      Goes p e below T g T' { g with pc := g.pc + 3, stack := v.toList ++ rest }) ∨
    (∃ (q : Addr) (st₀ t T' : State) (L : List Loc) (E : String) (ce : Cell), st₀.heap = H ∧ Stand p l e R s m args below meth c T' (locs ++ L) (cells + mc) (slots + ms) ∧ (∀ z ∈ L, free z.base) ∧ T'.heap = t.heap ∧ T'.vm = t.vm ∧ XC E st₀ t ∧ t.heap[q]? = some ce ∧ ce.vm = .none ∧ s.vm.findClass E = some ce.cls ∧
      Steps p.tables e below (T.setTop g) ((T'.setTop { g with stack := rest }).pushFrame (.throwing q)))
def vx_X {S : Type} (px : S → Prop) (B : String → S → State → Prop) (A : Nat → Prop) : String → State → State → Prop := fun E st t => ∃ u : S, px u ∧ B E u t ∧ va_F A st t
section Runs
variable {p : Program} {l : Launch} {e : Env} {R : Room} {s : State} {m : MethodId} {args : Array Value} {below : List Frame} {meth : Method} {c : Code} {H : Heap} {locs : List Loc} {cells slots : Nat}
variable {y : MethodName} {bytes cc : ByteArray} {maxL nL mc ms n index : Nat} {ret : Option FieldType} {ws : List Cond} {rm : Room} {Pc : Array Value → State → Prop} {Qc : Array Value → State → Outcome → State → Prop} {XC : String → State → State → Prop} {free : Addr → Prop} {Ts : List Cond} {own C : String} {b : Addr} {As rest : List Value} {g : JFrame}
theorem vx_callBack (cb : CallB R s args own index y bytes maxL ret ws rm mc ms n) (hM : vx_Met l y ws rm Pc Qc XC mc ms free) (hbl : FrameBlind Pc) : vx_Back l R p e below s args y 3 8 (PreOf R mc ms Pc) (PostOf Qc mc ms free) (vx_Post XC mc ms free) := by
  obtain ⟨hrc, hrs, hfr, hlo, hws, hcw, -, hini, -⟩ := cb
  exact vx_back (bytes := bytes) (maxL := maxL) (ret := ret) hM hbl hrc hrs hfr hlo hws hcw (fun a' U hW => word_at hW (Or.inl (by first | rfl | simp [Cond.onTables, Cond.keeps, Cond.steady])) hini)
theorem vx_runV (S : CallFix p m c cc nL s args Ts own) (hM : vx_Met l y ws rm Pc Qc XC mc ms free) (cw : CallW R s args own C index y bytes maxL ret ws rm mc ms n) (hp : PreV s H C b Pc As)
    (hg : g.method = m) (hn : As.length = n) (hsize : g.locals.size = nL) (hstack : g.stack = As.reverse ++ .ref b :: rest) (hW : 2 * g.monitorRoom + (rest.map fun v => v.category).sum ≤ 8) (hdg : decode cc g.pc = .ok (.invokevirtual index, 3)) (hf : cells + mc ≤ R.cells ∧ slots + ms ≤ R.slots) :
    vx_Run p l e R s m args below meth c H locs cells slots mc ms g rest (Qc (Value.ref b :: As).toArray) XC free := by
  have hK : vx_Back l R p e below s args y 3 8 (PreOf R mc ms Pc) (PostOf Qc mc ms free) (vx_Post XC mc ms free) := vx_callBack cw.1 hM hp.1
  obtain ⟨⟨-, -, -, -, -, -, hcode, -, hy, hlen, hl⟩, hin, hse⟩ := cw
  obtain ⟨hx, hb, hml, ho, -⟩ := S
  obtain ⟨-, ⟨cellB, hcB, hoB, hclB⟩, hPc⟩ := hp
  intro T hT X
  rcases vx_callV X hx (C := C) (bytes := bytes) (maxL := maxL) (ret := ret) ho hl hin hse hcode hy hK (by rw [hT]; exact hcB) hoB hclB hg (hsize.trans hml.symm) (argsL := As) (rest := rest) (fun sig h => hn.trans (hlen sig h)) hstack hW (by rw [hb]; exact hdg)
    (fun vm₁ hW₁ => ⟨hf.1, hf.2, hPc (T.setVm vm₁) hT hW₁⟩) with ⟨v, vm₁, ⟨U', l2, c2, s2⟩, hW₁, X', ⟨g', mk, t, L, e1, e2, hq, h1, hL, h2, h3⟩, st⟩ | ⟨q, vm₁, ⟨U', l2, c2, s2⟩, hW₁, X', ⟨g', mk, t, L, E, ce, e1, e2, hq, hce, hcv, hcl, h1, hL, h2, h3⟩, st⟩
  · dsimp only [Pt.U, Pt.locs, Pt.cells, Pt.slots] at X' e1 e2 h1 h2 h3 st
    subst h1; subst h2; subst h3
    exact Or.inl ⟨v, (T.setVm vm₁).calling g' mk (Value.ref b :: As).toArray, t, U', L, hT, X', hL, e1, e2, hq, st⟩
  · dsimp only [Pt.U, Pt.locs, Pt.cells, Pt.slots] at X' e1 e2 h1 h2 h3 st hcl
    subst h1; subst h2; subst h3
    exact Or.inr ⟨q, (T.setVm vm₁).calling g' mk (Value.ref b :: As).toArray, t, U', L, E, ce, hT, X', hL, e1, e2, hq, hce, hcv, vx_cls hW₁ hcl, st⟩
theorem vx_runS (S : CallFix p m c cc nL s args Ts own) (hM : vx_Met l y ws rm Pc Qc XC mc ms free) (cw : CallB R s args own index y bytes maxL ret ws rm mc ms n ∧ (Cond.static y).before args s = true) (hp : PreS s H Pc As)
    (hg : g.method = m) (hn : As.length = n) (hsize : g.locals.size = nL) (hstack : g.stack = As.reverse ++ rest) (hW : 2 * g.monitorRoom + (rest.map fun v => v.category).sum ≤ 8) (hdg : decode cc g.pc = .ok (.invokestatic index, 3)) (hf : cells + mc ≤ R.cells ∧ slots + ms ≤ R.slots) :
    vx_Run p l e R s m args below meth c H locs cells slots mc ms g rest (Qc As.toArray) XC free := by
  have hK : vx_Back l R p e below s args y 3 8 (PreOf R mc ms Pc) (PostOf Qc mc ms free) (vx_Post XC mc ms free) := vx_callBack cw.1 hM hp.1
  obtain ⟨⟨-, -, -, -, -, -, hcode, hini, hy, hlen, hl⟩, hstt⟩ := cw
  obtain ⟨hx, hb, hml, ho, -⟩ := S
  intro T hT X
  rcases vx_callS X hx (bytes := bytes) (maxL := maxL) (ret := ret) ho hl hstt hini hcode hy hK hg (hsize.trans hml.symm) (argsL := As) (rest := rest) (fun sig h => hn.trans (hlen sig h)) hstack hW (by rw [hb]; exact hdg)
    (fun vm₁ hW₁ => ⟨hf.1, hf.2, hp.2 (T.setVm vm₁) hT hW₁⟩) with ⟨v, vm₁, ⟨U', l2, c2, s2⟩, hW₁, X', ⟨g', mk, t, L, e1, e2, hq, h1, hL, h2, h3⟩, st⟩ | ⟨q, vm₁, ⟨U', l2, c2, s2⟩, hW₁, X', ⟨g', mk, t, L, E, ce, e1, e2, hq, hce, hcv, hcl, h1, hL, h2, h3⟩, st⟩
  · dsimp only [Pt.U, Pt.locs, Pt.cells, Pt.slots] at X' e1 e2 h1 h2 h3 st
    subst h1; subst h2; subst h3
    exact Or.inl ⟨v, (T.setVm vm₁).calling g' mk As.toArray, t, U', L, hT, X', hL, e1, e2, hq, st⟩
  · dsimp only [Pt.U, Pt.locs, Pt.cells, Pt.slots] at X' e1 e2 h1 h2 h3 st hcl
    subst h1; subst h2; subst h3
    exact Or.inr ⟨q, (T.setVm vm₁).calling g' mk As.toArray, t, U', L, E, ce, hT, X', hL, e1, e2, hq, hce, hcv, vx_cls hW₁ hcl, st⟩
end Runs
section Rows
variable {p : Program} {l : Launch} {e : Env} {R : Room} {s : State} {m : MethodId} {args : Array Value} {below : List Frame} {meth : Method} {c : Code} {H : Heap} {locs : List Loc} {cells slots : Nat} {Q : State → Prop}
variable {mc ms : Nat} {free : Addr → Prop} {A0 A1 : Nat → Prop} {H0 : Heap} {a : Array Value} {pc : Nat} {ls : Array Slot} {st0 rest : List Value}
theorem vx_keep {st₀ t T' : State} {L : List Loc} (h0 : st₀.heap = H) (e1 : T'.heap = t.heap) (hS : va_S A0 H0 H locs) (hA : ∀ q, q < H.size → A1 q → A0 q) (hf : ∀ q, free q → A0 q) (hL : ∀ q ∈ L, free q.base) (hF : va_F A1 st₀ t) :
    H.size ≤ T'.heap.size ∧ (∀ q : Nat, q < H.size → ¬ A1 q → T'.heap[q]? = H[q]?) ∧ va_S A0 H0 T'.heap (locs ++ L) := by
  obtain ⟨hz, hk⟩ := hF
  rw [h0] at hz hk
  exact ⟨by rw [e1]; exact hz, fun q h1 h2 => by rw [e1]; exact hk q h1 h2,
    ⟨Nat.le_trans hS.1 (by rw [e1]; exact hz), fun q h1 h2 => by rw [e1, hk q (Nat.lt_of_lt_of_le h1 hS.1) (fun z => h2 (hA q (Nat.lt_of_lt_of_le h1 hS.1) z))]; exact hS.2.1 q h1 h2, fun q hq => by
      rcases List.mem_append.mp hq with h | h
      · exact hS.2.2 q h
      · exact hf _ (hL q h)⟩⟩
theorem vx_calli {S SX : Type} {post : Int32 → S → Prop} {px : SX → Prop} {B : S → State → Prop} {BX : String → SX → State → Prop} {AX : Nat → Prop} (hr : vx_Run p l e R s m args below meth c H locs cells slots mc ms (F0 m pc ls st0) rest (va_Qi post B A1 a) (vx_X px BX AX) free) (hS : va_S A0 H0 H locs) (hA : ∀ q, q < H.size → A1 q → A0 q) (hf : ∀ q, free q → A0 q) (hAX : ∀ q, q < H.size → AX q → A0 q)
    (kx : ∀ (E : String) (ce : Cell) (q9 : Addr) (u : SX) (t : State) (H1 : Heap) (locs1 : List Loc), t.heap = H1 → s.vm.Alike t.vm → px u → BX E u t → H.size ≤ H1.size → (∀ q : Nat, q < H.size → ¬ AX q → H1[q]? = H[q]?) → va_S A0 H0 H1 locs1 → H1[q9]? = some ce → ce.vm = .none → s.vm.findClass E = some ce.cls → vx_W p l e R s m args below meth c H1 locs1 (cells + mc) (slots + ms) Q (F0 m pc ls rest) q9)
    (kk : ∀ (r : Int32) (u : S) (t : State) (H1 : Heap) (locs1 : List Loc), t.heap = H1 → s.vm.Alike t.vm → post r u → B u t → H.size ≤ H1.size → (∀ q : Nat, q < H.size → ¬ A1 q → H1[q]? = H[q]?) → va_S A0 H0 H1 locs1 → W p l e R s m args below meth c H1 locs1 (cells + mc) (slots + ms) Q (F0 m (pc + 3) ls (.int r :: rest))) : W p l e R s m args below meth c H locs cells slots Q (F0 m pc ls st0) := by
  intro T hT X
  rcases hr T hT X with ⟨v, st₀, t, T', L, h0, X', hL, e1, e2, ⟨⟨r, u, hv, hp, hb⟩, hF⟩, st⟩ | ⟨q, st₀, t, T', L, E, ce, h0, X', hL, e1, e2, ⟨u, hp, hb, hF⟩, hce, hcv, hcl, st⟩
  · cases hv
    obtain ⟨k1, k2, k3⟩ := vx_keep h0 e1 hS hA hf hL hF
    obtain ⟨t2, a1, b1⟩ := kk r u t T'.heap (locs ++ L) e1.symm (by rw [← e2]; exact X'.warmed.alike) hp hb k1 k2 k3 T' rfl X'
    exact ⟨t2, st t2 a1, b1⟩
  · obtain ⟨k1, k2, k3⟩ := vx_keep h0 e1 hS hAX hf hL hF
    obtain ⟨t2, a1, b1⟩ := kx E ce q u t T'.heap (locs ++ L) e1.symm (by rw [← e2]; exact X'.warmed.alike) hp hb k1 k2 k3 (by rw [e1]; exact hce) hcv hcl T' rfl X'
    exact ⟨t2, st.trans a1, b1⟩
theorem vx_calll {S SX : Type} {post : Int64 → S → Prop} {px : SX → Prop} {B : S → State → Prop} {BX : String → SX → State → Prop} {AX : Nat → Prop} (hr : vx_Run p l e R s m args below meth c H locs cells slots mc ms (F0 m pc ls st0) rest (va_Ql post B A1 a) (vx_X px BX AX) free) (hS : va_S A0 H0 H locs) (hA : ∀ q, q < H.size → A1 q → A0 q) (hf : ∀ q, free q → A0 q) (hAX : ∀ q, q < H.size → AX q → A0 q)
    (kx : ∀ (E : String) (ce : Cell) (q9 : Addr) (u : SX) (t : State) (H1 : Heap) (locs1 : List Loc), t.heap = H1 → s.vm.Alike t.vm → px u → BX E u t → H.size ≤ H1.size → (∀ q : Nat, q < H.size → ¬ AX q → H1[q]? = H[q]?) → va_S A0 H0 H1 locs1 → H1[q9]? = some ce → ce.vm = .none → s.vm.findClass E = some ce.cls → vx_W p l e R s m args below meth c H1 locs1 (cells + mc) (slots + ms) Q (F0 m pc ls rest) q9)
    (kk : ∀ (r : Int64) (u : S) (t : State) (H1 : Heap) (locs1 : List Loc), t.heap = H1 → s.vm.Alike t.vm → post r u → B u t → H.size ≤ H1.size → (∀ q : Nat, q < H.size → ¬ A1 q → H1[q]? = H[q]?) → va_S A0 H0 H1 locs1 → W p l e R s m args below meth c H1 locs1 (cells + mc) (slots + ms) Q (F0 m (pc + 3) ls (.long r :: rest))) : W p l e R s m args below meth c H locs cells slots Q (F0 m pc ls st0) := by
  intro T hT X
  rcases hr T hT X with ⟨v, st₀, t, T', L, h0, X', hL, e1, e2, ⟨⟨r, u, hv, hp, hb⟩, hF⟩, st⟩ | ⟨q, st₀, t, T', L, E, ce, h0, X', hL, e1, e2, ⟨u, hp, hb, hF⟩, hce, hcv, hcl, st⟩
  · cases hv
    obtain ⟨k1, k2, k3⟩ := vx_keep h0 e1 hS hA hf hL hF
    obtain ⟨t2, a1, b1⟩ := kk r u t T'.heap (locs ++ L) e1.symm (by rw [← e2]; exact X'.warmed.alike) hp hb k1 k2 k3 T' rfl X'
    exact ⟨t2, st t2 a1, b1⟩
  · obtain ⟨k1, k2, k3⟩ := vx_keep h0 e1 hS hAX hf hL hF
    obtain ⟨t2, a1, b1⟩ := kx E ce q u t T'.heap (locs ++ L) e1.symm (by rw [← e2]; exact X'.warmed.alike) hp hb k1 k2 k3 (by rw [e1]; exact hce) hcv hcl T' rfl X'
    exact ⟨t2, st.trans a1, b1⟩
theorem vx_callf {S SX : Type} {post : UInt32 → S → Prop} {px : SX → Prop} {B : S → State → Prop} {BX : String → SX → State → Prop} {AX : Nat → Prop} (hr : vx_Run p l e R s m args below meth c H locs cells slots mc ms (F0 m pc ls st0) rest (va_Qf post B A1 a) (vx_X px BX AX) free) (hS : va_S A0 H0 H locs) (hA : ∀ q, q < H.size → A1 q → A0 q) (hf : ∀ q, free q → A0 q) (hAX : ∀ q, q < H.size → AX q → A0 q)
    (kx : ∀ (E : String) (ce : Cell) (q9 : Addr) (u : SX) (t : State) (H1 : Heap) (locs1 : List Loc), t.heap = H1 → s.vm.Alike t.vm → px u → BX E u t → H.size ≤ H1.size → (∀ q : Nat, q < H.size → ¬ AX q → H1[q]? = H[q]?) → va_S A0 H0 H1 locs1 → H1[q9]? = some ce → ce.vm = .none → s.vm.findClass E = some ce.cls → vx_W p l e R s m args below meth c H1 locs1 (cells + mc) (slots + ms) Q (F0 m pc ls rest) q9)
    (kk : ∀ (r : UInt32) (u : S) (t : State) (H1 : Heap) (locs1 : List Loc), t.heap = H1 → s.vm.Alike t.vm → post r u → B u t → H.size ≤ H1.size → (∀ q : Nat, q < H.size → ¬ A1 q → H1[q]? = H[q]?) → va_S A0 H0 H1 locs1 → W p l e R s m args below meth c H1 locs1 (cells + mc) (slots + ms) Q (F0 m (pc + 3) ls (.float r :: rest))) : W p l e R s m args below meth c H locs cells slots Q (F0 m pc ls st0) := by
  intro T hT X
  rcases hr T hT X with ⟨v, st₀, t, T', L, h0, X', hL, e1, e2, ⟨⟨r, u, hv, hp, hb⟩, hF⟩, st⟩ | ⟨q, st₀, t, T', L, E, ce, h0, X', hL, e1, e2, ⟨u, hp, hb, hF⟩, hce, hcv, hcl, st⟩
  · cases hv
    obtain ⟨k1, k2, k3⟩ := vx_keep h0 e1 hS hA hf hL hF
    obtain ⟨t2, a1, b1⟩ := kk r u t T'.heap (locs ++ L) e1.symm (by rw [← e2]; exact X'.warmed.alike) hp hb k1 k2 k3 T' rfl X'
    exact ⟨t2, st t2 a1, b1⟩
  · obtain ⟨k1, k2, k3⟩ := vx_keep h0 e1 hS hAX hf hL hF
    obtain ⟨t2, a1, b1⟩ := kx E ce q u t T'.heap (locs ++ L) e1.symm (by rw [← e2]; exact X'.warmed.alike) hp hb k1 k2 k3 (by rw [e1]; exact hce) hcv hcl T' rfl X'
    exact ⟨t2, st.trans a1, b1⟩
theorem vx_calld {S SX : Type} {post : UInt64 → S → Prop} {px : SX → Prop} {B : S → State → Prop} {BX : String → SX → State → Prop} {AX : Nat → Prop} (hr : vx_Run p l e R s m args below meth c H locs cells slots mc ms (F0 m pc ls st0) rest (va_Qd post B A1 a) (vx_X px BX AX) free) (hS : va_S A0 H0 H locs) (hA : ∀ q, q < H.size → A1 q → A0 q) (hf : ∀ q, free q → A0 q) (hAX : ∀ q, q < H.size → AX q → A0 q)
    (kx : ∀ (E : String) (ce : Cell) (q9 : Addr) (u : SX) (t : State) (H1 : Heap) (locs1 : List Loc), t.heap = H1 → s.vm.Alike t.vm → px u → BX E u t → H.size ≤ H1.size → (∀ q : Nat, q < H.size → ¬ AX q → H1[q]? = H[q]?) → va_S A0 H0 H1 locs1 → H1[q9]? = some ce → ce.vm = .none → s.vm.findClass E = some ce.cls → vx_W p l e R s m args below meth c H1 locs1 (cells + mc) (slots + ms) Q (F0 m pc ls rest) q9)
    (kk : ∀ (r : UInt64) (u : S) (t : State) (H1 : Heap) (locs1 : List Loc), t.heap = H1 → s.vm.Alike t.vm → post r u → B u t → H.size ≤ H1.size → (∀ q : Nat, q < H.size → ¬ A1 q → H1[q]? = H[q]?) → va_S A0 H0 H1 locs1 → W p l e R s m args below meth c H1 locs1 (cells + mc) (slots + ms) Q (F0 m (pc + 3) ls (.double r :: rest))) : W p l e R s m args below meth c H locs cells slots Q (F0 m pc ls st0) := by
  intro T hT X
  rcases hr T hT X with ⟨v, st₀, t, T', L, h0, X', hL, e1, e2, ⟨⟨r, u, hv, hp, hb⟩, hF⟩, st⟩ | ⟨q, st₀, t, T', L, E, ce, h0, X', hL, e1, e2, ⟨u, hp, hb, hF⟩, hce, hcv, hcl, st⟩
  · cases hv
    obtain ⟨k1, k2, k3⟩ := vx_keep h0 e1 hS hA hf hL hF
    obtain ⟨t2, a1, b1⟩ := kk r u t T'.heap (locs ++ L) e1.symm (by rw [← e2]; exact X'.warmed.alike) hp hb k1 k2 k3 T' rfl X'
    exact ⟨t2, st t2 a1, b1⟩
  · obtain ⟨k1, k2, k3⟩ := vx_keep h0 e1 hS hAX hf hL hF
    obtain ⟨t2, a1, b1⟩ := kx E ce q u t T'.heap (locs ++ L) e1.symm (by rw [← e2]; exact X'.warmed.alike) hp hb k1 k2 k3 (by rw [e1]; exact hce) hcv hcl T' rfl X'
    exact ⟨t2, st.trans a1, b1⟩
theorem vx_callv {S SX : Type} {post : S → Prop} {px : SX → Prop} {B : S → State → Prop} {BX : String → SX → State → Prop} {AX : Nat → Prop} (hr : vx_Run p l e R s m args below meth c H locs cells slots mc ms (F0 m pc ls st0) rest (va_Qv post B A1 a) (vx_X px BX AX) free) (hS : va_S A0 H0 H locs) (hA : ∀ q, q < H.size → A1 q → A0 q) (hf : ∀ q, free q → A0 q) (hAX : ∀ q, q < H.size → AX q → A0 q)
    (kx : ∀ (E : String) (ce : Cell) (q9 : Addr) (u : SX) (t : State) (H1 : Heap) (locs1 : List Loc), t.heap = H1 → s.vm.Alike t.vm → px u → BX E u t → H.size ≤ H1.size → (∀ q : Nat, q < H.size → ¬ AX q → H1[q]? = H[q]?) → va_S A0 H0 H1 locs1 → H1[q9]? = some ce → ce.vm = .none → s.vm.findClass E = some ce.cls → vx_W p l e R s m args below meth c H1 locs1 (cells + mc) (slots + ms) Q (F0 m pc ls rest) q9)
    (kk : ∀ (u : S) (t : State) (H1 : Heap) (locs1 : List Loc), t.heap = H1 → s.vm.Alike t.vm → post u → B u t → H.size ≤ H1.size → (∀ q : Nat, q < H.size → ¬ A1 q → H1[q]? = H[q]?) → va_S A0 H0 H1 locs1 → W p l e R s m args below meth c H1 locs1 (cells + mc) (slots + ms) Q (F0 m (pc + 3) ls (rest))) : W p l e R s m args below meth c H locs cells slots Q (F0 m pc ls st0) := by
  intro T hT X
  rcases hr T hT X with ⟨v, st₀, t, T', L, h0, X', hL, e1, e2, ⟨⟨u, hv, hp, hb⟩, hF⟩, st⟩ | ⟨q, st₀, t, T', L, E, ce, h0, X', hL, e1, e2, ⟨u, hp, hb, hF⟩, hce, hcv, hcl, st⟩
  · cases hv
    obtain ⟨k1, k2, k3⟩ := vx_keep h0 e1 hS hA hf hL hF
    obtain ⟨t2, a1, b1⟩ := kk u t T'.heap (locs ++ L) e1.symm (by rw [← e2]; exact X'.warmed.alike) hp hb k1 k2 k3 T' rfl X'
    exact ⟨t2, st t2 a1, b1⟩
  · obtain ⟨k1, k2, k3⟩ := vx_keep h0 e1 hS hAX hf hL hF
    obtain ⟨t2, a1, b1⟩ := kx E ce q u t T'.heap (locs ++ L) e1.symm (by rw [← e2]; exact X'.warmed.alike) hp hb k1 k2 k3 (by rw [e1]; exact hce) hcv hcl T' rfl X'
    exact ⟨t2, st.trans a1, b1⟩
/-- caught by the row x of this method's table; the rows ahead don't take it -/
theorem vx_catch {own name : String} {E : String} {ce : Cell} {q : Addr} (hown : s.vm.findClass own = some m.cls) (pre : List ExceptionTableEntry) (x : ExceptionTableEntry) (suf : List ExceptionTableEntry) (hsplit : c.exceptionTable.toList = pre ++ x :: suf)
    (hpass : ∀ z ∈ pre, covers z pc = false ∨ (z.catchType ≠ 0 ∧ ∃ nm : String, (Cond.classLink own z.catchType nm).before args s = true ∧ va_Nc E nm s)) (hx : covers x pc = true) (h0 : x.catchType ≠ 0)
    (hlink : (Cond.classLink own x.catchType name).before args s = true) (hcast : (Cond.castable E name).before args s = true) (hcell : H[q]? = some ce) (hv : ce.vm = .none) (hcl : s.vm.findClass E = some ce.cls)
    (kk : W p l e R s m args below meth c H locs cells slots Q (F0 m x.handlerPc ls [.ref q])) : vx_W p l e R s m args below meth c H locs cells slots Q (F0 m pc ls rest) q := by
  intro T hT X
  have hpl : e.platform.magicAccessors = ({} : Platform).magicAccessors := by rw [X.admits.platform]
  obtain ⟨c3, c4, hc3, hc4, hasg⟩ := Cond.castable_spec hcast
  cases Option.some.inj (hc3.symm.trans hcl)
  obtain ⟨c5, hc5, hcl5⟩ := Cond.classLink_spec hown hlink e.platform hpl
  cases Option.some.inj (hc4.symm.trans hc5)
  obtain ⟨vm', X', st⟩ := X.thenCaughtThrough q (g := F0 m pc ls rest) rfl (Steps.refl _) (by rw [hT]; exact hcell) (by rw [hv]; rfl) (by obtain ⟨k9, h9, -⟩ := Vm.findClass_spec hcl; exact ⟨k9, h9⟩) pre x suf hsplit
    (fun z hz => by
      rcases hpass z hz with h | ⟨hz0, nm, hl1, hn1⟩
      · exact Or.inl h
      · obtain ⟨c6, hc6, hcl6⟩ := Cond.classLink_spec hown hl1 e.platform hpl
        obtain ⟨a8, b8, h1, h2, h3⟩ := hn1
        cases Option.some.inj (h1.symm.trans hcl)
        cases Option.some.inj (h2.symm.trans hc6)
        exact Or.inr ⟨hz0, _, hcl6, h3⟩) hx (Or.inr ⟨h0, c4, hcl5, hasg⟩)
  obtain ⟨t, a1, b1⟩ := kk (T.setVm vm') hT X'
  exact ⟨t, st.trans a1, b1⟩
end Rows
section Ends
variable {p : Program} {l : Launch} {e : Env} {R : Room} {s : State} {m : MethodId} {args : Array Value} {below : List Frame} {meth : Method} {c : Code} {H : Heap} {locs : List Loc} {cells slots : Nat} {Q : State → Prop}
variable {mc ms : Nat} {free : Addr → Prop} {A0 A1 : Nat → Prop} {H0 : Heap} {a : Array Value} {ls : Array Slot} {st0 rest : List Value}
variable {Qc : Array Value → State → Outcome → State → Prop} {XC : String → State → State → Prop}
/-- what a body that may throw owes at its end -/
def vx_MQ (below : List Frame) (Qc : Array Value → State → Outcome → State → Prop) (XC : String → State → State → Prop) (a : Array Value) (s : State) (mc ms : Nat) (free : Addr → Prop) : State → Prop := fun t =>
  ∃ o, t.status = .running ∧ Ended t below o ∧ vx_Q Qc XC mc ms free a s o t
theorem vx_ret {g : JFrame} {mc ms : Nat} (k : W p l e R s m args below meth c H locs cells slots (MQ below Qc args s mc ms free) g) : W p l e R s m args below meth c H locs cells slots (vx_MQ below Qc XC args s mc ms free) g := by
  intro T hT X
  obtain ⟨t, a1, o, b1, b2, b3, b4⟩ := k T hT X
  exact ⟨t, a1, o, b1, b2, Or.inl ⟨b3, b4⟩⟩
/-- not caught here: it goes on to the caller -/
theorem vx_widen {g : JFrame} {q : Addr} {k n : Nat} (h1 : cells ≤ k) (h2 : slots ≤ n) (kk : vx_W p l e R s m args below meth c H locs k n Q g q) : vx_W p l e R s m args below meth c H locs cells slots Q g q := fun T hT X => kk T hT (stand_widen X h1 h2)
theorem vx_out {pc : Nat} {E : String} {ce : Cell} {q : Addr} {mc ms : Nat} (hout : ∀ x ∈ c.exceptionTable.toList, covers x pc = false) (hlocks : meth.locks = false) (hcell : H[q]? = some ce) (hv : ce.vm = .none) (hcl : s.vm.findClass E = some ce.cls)
    (hx : ∀ t : State, t.heap = H → s.vm.Alike t.vm → XC E s t) (hf : ∀ z ∈ locs, free z.base) (hc : cells ≤ mc) (hs : slots ≤ ms) :
    vx_W p l e R s m args below meth c H locs cells slots (vx_MQ below Qc XC args s mc ms free) (F0 m pc ls rest) q := by
  intro T hT X
  obtain ⟨st1, hrun, hend, hW, hsm⟩ := X.leaveThrown q (g := F0 m pc ls rest) rfl rfl rfl hout hlocks
  have hcell9 : (T.setFrames (.throwing q :: below)).heap[q]? = some ce := by
    show T.heap[q]? = some ce
    rw [hT]; exact hcell
  exact ⟨_, st1, .threw q, hrun, hend, Or.inr ⟨q, rfl, E, ce, locs, hx _ hT hW.alike, hcell9, hv, hcl, hW, hsm.mono hc hs, hf⟩⟩
theorem vx_frame {U : State} {k n : Nat} (h : s.sameButNew ({ U with vm := s.vm } : State) locs k n) : s.heap.size ≤ U.heap.size ∧ ∀ q : Nat, q < s.heap.size → (∀ z ∈ locs, z.base ≠ q) → U.heap[q]? = s.heap[q]? := by
  obtain ⟨-, h2, -, -, -, h6⟩ := h
  refine ⟨h2, fun q hq hz => ?_⟩
  obtain ⟨c9, e1, e2, e3, e4⟩ := h6 q _ (Array.getElem?_eq_getElem hq)
  have hs : c9.slots = (s.heap[q]).slots := Array.ext_getElem? fun i => e4 i fun hm => hz _ hm rfl
  have h9 : c9 = s.heap[q] := by
    rw [hs] at e2
    exact e2
  have e5 : U.heap[q]? = some c9 := e1
  rw [e5, h9, Array.getElem?_eq_getElem hq]
/-- the words of a throw but the four that speak of the heap -/
def vx_no (w : Cond) : Bool := decide (w ≠ .isRef (.static Bundle.tN "UNASSIGNED_STACK" Bundle.steD)) && decide (w ≠ .isRef (.static Bundle.tN "SUPPRESSED_SENTINEL" Bundle.listD)) && decide (w ≠ .laysStatic Bundle.tN "UNASSIGNED_STACK" Bundle.steD) && decide (w ≠ .laysStatic Bundle.tN "SUPPRESSED_SENTINEL" Bundle.listD)
def vx_at0 (own : String) (ic : Nat) (X : String) (names : List String) : List Cond := (Bundle.ownAtoms0 own ic X names).filter vx_no
def vx_atS (own : String) (ic : Nat) (X : String) (names : List String) : List Cond := (Bundle.ownAtoms own ic X names).filter vx_no
/-- a word that the tables alone decide, or a good one -/
def vx_ot (w : Cond) : Bool := w.onTables || goodWord w
theorem vx_ot_at {args a' : Array Value} {s U : State} {w : Cond} (hW : s.WarmedH U.vm) (hvm : s.vm = U.vm) (hg : vx_ot w = true) (h : w.before args s = true) : w.before a' U = true := by
  simp only [vx_ot, Bool.or_eq_true] at hg
  rcases hg with hg | hg
  · exact va_tabs hg hvm h
  · exact word_at hW (good_of_word hg) h
/-- a list's words: the good ones out of the method's own list, the others by premises of their own -/
theorem vx_hat {args : Array Value} {s : State} {L B : List Cond} (h1 : ∀ w ∈ L.filter goodWord, w.before args s = true) (h2 : ∀ w ∈ L.filter (fun w => !goodWord w), w ∈ B) (h3 : ∀ w ∈ B, w.before args s = true) : ∀ w ∈ L, w.before args s = true := by
  intro w hw
  by_cases g : goodWord w = true
  · exact h1 w (List.mem_filter.mpr ⟨hw, g⟩)
  · refine h3 w (h2 w (List.mem_filter.mpr ⟨hw, ?_⟩))
    show (!goodWord w) = true
    cases hgw : goodWord w
    · rfl
    · exact absurd hgw g
theorem vx_c {args : Array Value} {s : State} {w : Cond} {B : List Cond} (h : w.before args s = true) (t : ∀ w ∈ B, w.before args s = true) : ∀ w' ∈ w :: B, w'.before args s = true := fun w' h' => (List.mem_cons.mp h').elim (fun e => by rw [e]; exact h) (t w')
theorem vx_n {args : Array Value} {s : State} : ∀ w ∈ ([] : List Cond), w.before args s = true := fun _ h => nomatch h
theorem vx_own {args : Array Value} {s : State} {L : List Cond} (h1 : ∀ w ∈ L.filter vx_no, w.before args s = true)
    (hU : (Cond.isRef (.static Bundle.tN "UNASSIGNED_STACK" Bundle.steD)).before args s = true) (hN : (Cond.isRef (.static Bundle.tN "SUPPRESSED_SENTINEL" Bundle.listD)).before args s = true)
    (lU : (Cond.laysStatic Bundle.tN "UNASSIGNED_STACK" Bundle.steD).before args s = true) (lN : (Cond.laysStatic Bundle.tN "SUPPRESSED_SENTINEL" Bundle.listD).before args s = true) : ∀ w ∈ L, w.before args s = true := by
  intro w hw
  by_cases e1 : w = .isRef (.static Bundle.tN "UNASSIGNED_STACK" Bundle.steD)
  · rw [e1]; exact hU
  · by_cases e2 : w = .isRef (.static Bundle.tN "SUPPRESSED_SENTINEL" Bundle.listD)
    · rw [e2]; exact hN
    · by_cases e3 : w = .laysStatic Bundle.tN "UNASSIGNED_STACK" Bundle.steD
      · rw [e3]; exact lU
      · by_cases e4 : w = .laysStatic Bundle.tN "SUPPRESSED_SENTINEL" Bundle.listD
        · rw [e4]; exact lN
        · exact h1 w (List.mem_filter.mpr ⟨hw, by unfold vx_no; rw [decide_eq_true e1, decide_eq_true e2, decide_eq_true e3, decide_eq_true e4]; rfl⟩)
/-- where a static field lies, its class's statics cell in H -/
def vx_L (C n d : String) (A : Nat → Prop) (U : State) (H : Heap) : Prop := ∃ (c : ClassId) (k : Class) (i : Nat) (f : Field) (a : Nat) (cell : Cell), U.vm.findClass C = some c ∧ U.fieldFound? C n d = some (c, k, i, f) ∧ f.isStatic = true ∧ k.statics = some a ∧ H[a]? = some cell ∧ cell.vm.isStatics = true ∧ cell.cls = c ∧ f.slot < cell.slots.size ∧ k.staticTypes[f.slot]? = some f.type ∧ ¬ A a
theorem vx_L.moved {C n d : String} {A : Nat → Prop} {u U : State} {H : Heap} (hvm : u.vm.Alike U.vm) (h : vx_L C n d A u H) : vx_L C n d A U H := by
  obtain ⟨c, k, i, f, a, cell, h1, h2, h3, h4, h5, h6, h7, h8, h9, h10⟩ := h
  obtain ⟨k', hi', he⟩ := State.fieldFound?_setVm hvm h2
  exact ⟨c, k', i, f, a, cell, by rw [hvm.findClass]; exact h1, hi', h3, by rw [he]; exact h4, h5, h6, h7, h8, by rw [he]; exact h9, h10⟩
theorem vx_L.kept {C n d : String} {A : Nat → Prop} {U : State} {H H1 : Heap} (h : vx_L C n d A U H) (hq : ∀ a : Nat, a < H.size → ¬ A a → H1[a]? = H[a]?) : vx_L C n d A U H1 := by
  obtain ⟨c, k, i, f, a, cell, h1, h2, h3, h4, h5, h6, h7, h8, h9, h10⟩ := h
  exact ⟨c, k, i, f, a, cell, h1, h2, h3, h4, by rw [hq a (Array.getElem?_eq_some_iff.mp h5).1 h10]; exact h5, h6, h7, h8, h9, h10⟩
theorem vx_L.narrow {C n d : String} {A B : Nat → Prop} {U : State} {H : Heap} (h : vx_L C n d A U H) (hAB : ∀ q, B q → A q) : vx_L C n d B U H := by
  obtain ⟨c, k, i, f, a, cell, h1, h2, h3, h4, h5, h6, h7, h8, h9, h10⟩ := h
  exact ⟨c, k, i, f, a, cell, h1, h2, h3, h4, h5, h6, h7, h8, h9, fun z => h10 (hAB _ z)⟩
theorem vx_L.word {C n d : String} {A : Nat → Prop} {s : State} {args : Array Value} (h : vx_L C n d A s s.heap) : (Cond.laysStatic C n d).before args s = true := by
  obtain ⟨c, k, i, f, a, cell, h1, h2, h3, h4, h5, h6, h7, h8, h9, -⟩ := h
  show (Cond.laysStatic C n d).holds args s none s [] = true
  exact Cond.laysStatic_of h1 h2 h3 h4 h5 h6 h7 h8 h9
/-- .. and what it holds: null or some reference -/
def vx_Zq (C n d : String) (A : Nat → Prop) (U : State) (H : Heap) : Prop := va_Zq C n d A U H ∧ vx_L C n d A U H
theorem vx_Zq.moved {C n d : String} {A : Nat → Prop} {u U : State} {H : Heap} (hvm : u.vm.Alike U.vm) (h : vx_Zq C n d A u H) : vx_Zq C n d A U H := ⟨va_Zq.moved hvm h.1, vx_L.moved hvm h.2⟩
theorem vx_Zq.kept {C n d : String} {A : Nat → Prop} {U : State} {H H1 : Heap} (h : vx_Zq C n d A U H) (hq : ∀ a : Nat, a < H.size → ¬ A a → H1[a]? = H[a]?) : vx_Zq C n d A U H1 := ⟨va_Zq.kept h.1 hq, vx_L.kept h.2 hq⟩
theorem vx_Zq.narrow {C n d : String} {A B : Nat → Prop} {U : State} {H : Heap} (h : vx_Zq C n d A U H) (hAB : ∀ q, B q → A q) : vx_Zq C n d B U H := ⟨va_Zq.narrow h.1 hAB, vx_L.narrow h.2 hAB⟩
theorem vx_Zqof {args : Array Value} {s : State} {C n d : String} {A : Nat → Prop} (hl : (Cond.laysStatic C n d).before args s = true) (hini : (Cond.initialized C).before args s = true) (h : (Cond.isRef (.static C n d)).before args s = true) (hA : ∀ a : Nat, a < s.heap.size → ¬ A a) : vx_Zq C n d A s s.heap := by
  refine ⟨va_Zqof hl hini h hA, ?_⟩
  obtain ⟨c, k, i, f, a, cell, h1, h2, h3, h4, h5, h6, h7, h8, h9⟩ := Cond.laysStatic_spec hl
  exact ⟨c, k, i, f, a, cell, h1, h2, h3, h4, h5, h6, h7, h8, h9, hA a (Array.getElem?_eq_some_iff.mp h5).1⟩
theorem vx_isRef {C n d : String} {v : Value} {A : Nat → Prop} {s : State} {args : Array Value} (h : va_Z C n d v A s s.heap) (hv : v.isRef = true) : (Cond.isRef (.static C n d)).before args s = true := by
  obtain ⟨cf, kf, fi, f, a, cell, h1, h2, h3, h4, h5, h6, h7, -⟩ := h
  have he : (Term.static C n d).eval args s none [] s = some v := by
    simp [Term.eval, State.fieldNamed?, h1, h2, h4, h5, h6, h7]
  simp only [Cond.before, Cond.holds, Cond.value, he]
  cases v <;> simp_all [Value.isRef]
theorem vx_isRefq {C n d : String} {A : Nat → Prop} {s : State} {args : Array Value} (h : va_Zq C n d A s s.heap) : (Cond.isRef (.static C n d)).before args s = true := by
  rcases h with h | ⟨t, h⟩
  · exact vx_isRef h rfl
  · exact vx_isRef h rfl
/-- the same frame, seen from here: as if the method were called anew in this heap -/
theorem vx_rebase {T : State} (X : Stand p l e R s m args below meth c T locs cells slots) {R' : Room} (hf : R'.frames ≤ R.frames) (hl : R'.locals ≤ R.locals) (hc : cells + R'.cells ≤ R.cells) (hs : slots + R'.slots ≤ R.slots) :
    Stand p l e R' ((T.setVm s.vm).setFrames (.invoking m args :: below)) m args below meth c T [] 0 0 := by
  have htop : (T.setVm s.vm).topJava?.isSome := X.here.top
  have hF : ((T.setVm s.vm).setFrames (.invoking m args :: below)).frames = .invoking m args :: below := State.frames_setFrames _ (State.cur_lt_of_top htop)
  obtain ⟨g₀, hg0⟩ := Option.isSome_iff_exists.mp htop
  obtain ⟨r, hr⟩ := State.topJava?_eq_some.mp hg0
  have hl9 : e.platform.stackLimits (T.setVm s.vm).me = e.platform.stackLimits s.me := X.limits
  have hb9 : (T.setVm s.vm).me.stackBytes = s.me.stackBytes := X.bytes
  refine ⟨X.admits, X.cas, X.clock, hF, ?_, X.hears, X.method, X.code, X.here, X.tail, X.warmed, ?_, ?_, ?_⟩
  · have h := X.room
    have hU : ((T.setVm s.vm).setFrames (.invoking m args :: below)).localsInUse = s.localsInUse := by
      rw [State.localsInUse_invoking hF (meth := meth) (c := c) X.method X.code, State.localsInUse_invoking X.frames X.method X.code]
    simp only [State.hasRoom, Bool.and_eq_true, decide_eq_true_eq] at h ⊢
    obtain ⟨⟨⟨⟨h1, h2, h3, h4, h5, h6⟩, h7⟩, h8⟩, h9⟩ := h
    rw [X.frames, List.length_cons] at h2 h3
    have q1 := X.heapSize
    have q2 := X.used
    simp only [hF, hU, List.length_cons, State.stackLimits_setFrames, State.stackBytes_setFrames, hl9, hb9]
    refine ⟨⟨⟨⟨by omega, by omega, by omega, by omega, by omega, h6⟩, ?_⟩, ?_⟩, X.book⟩
    · show T.heap.size + R'.cells ≤ e.platform.maxCells
      omega
    · show T.slotsUsed + R'.slots ≤ e.platform.maxSlots
      omega
  · rw [State.stackLimits_setFrames]; rfl
  · rw [State.stackBytes_setFrames]; rfl
  · refine ⟨?_, Nat.le_refl _, Nat.le_refl _, ?_, ?_, fun a c9 h9 => ⟨c9, h9, rfl, rfl, fun _ _ => rfl⟩⟩
    · obtain ⟨t, ht, -⟩ := State.frames_cons hr
      show T.setVm s.vm = { ((T.setVm s.vm).setFrames (.invoking m args :: below)).setFrames (T.setVm s.vm).frames with heap := T.heap, slotsUsed := T.slotsUsed }
      rw [State.setFrames_setFrames, State.setFrames_self ht]
      rfl
    · show T.slotsUsed = T.slotsUsed + ((T.heap.toList.drop T.heap.size).map (·.slots.size)).sum
      rw [List.drop_eq_nil_of_le (Nat.le_of_eq Array.length_toList)]
      rfl
    · show ((T.heap.toList.drop T.heap.size).map (·.slots.size)).sum ≤ 0
      rw [List.drop_eq_nil_of_le (Nat.le_of_eq Array.length_toList)]
      exact Nat.le_refl _
/-- 'throw new E()': new; dup; invokespecial; athrow -/
theorem vx_throw0 {cc : ByteArray} {pc : Nat} (hexec : p.tables.exec = Jvm.exec) (hb : c.code = cc) (hl : l.stackTraces = false) {own cls : String} {names : List String} {ik ic mc ms : Nat} {A : Nat → Prop}
    (hown : s.vm.findClass own = some m.cls) (hcls : Bundle.fit cls = true) (hnames : ∀ n ∈ names, Bundle.fit n = true)
    (hk : (Cond.classLink own ik cls).before args s = true) (hini : (Cond.initialized cls).before args s = true) (hat : ∀ w ∈ vx_at0 own ic cls names, w.before args s = true)
    (hgood : ∀ w ∈ Cond.classLink own ik cls :: Cond.initialized cls :: vx_at0 own ic cls names, vx_ot w = true)
    (hU : vx_Zq Bundle.tN "UNASSIGNED_STACK" Bundle.steD A s s.heap) (hN : vx_Zq Bundle.tN "SUPPRESSED_SENTINEL" Bundle.listD A s s.heap) (hS : va_S A s.heap H locs) (hsize : ls.size = c.maxLocals)
    (d0 : decode cc pc = .ok (.new ik, 3)) (d3 : decode cc (pc + 3) = .ok (.dup, 1)) (d4 : decode cc (pc + 4) = .ok (.invokespecial ic, 3)) (d7 : decode cc (pc + 7) = .ok (.athrow, 1))
    (hout : ∀ x ∈ c.exceptionTable.toList, covers x (pc + 7) = false)
    (hRframes : names.length + 3 < R.frames) (hRlocals : (rest.map fun v => v.category).sum + (13 * (names.length + 1) + 42) ≤ R.locals) (hRcells : cells + 1 ≤ R.cells) (hRslots : slots + 6 ≤ R.slots) (hlocks : meth.locks = false)
    (hx : ∀ t : State, s.vm.Alike t.vm → H.size ≤ t.heap.size → (∀ q : Nat, q < H.size → t.heap[q]? = H[q]?) → XC cls s t)
    (hf : ∀ z ∈ locs, free z.base) (hc : cells + 1 ≤ mc) (hs : slots + 6 ≤ ms) :
    W p l e R s m args below meth c H locs cells slots (vx_MQ below Qc XC args s mc ms free) (F0 m pc ls rest) := by
  intro T hT X
  have htr : e.platform.stackTraces = false := (show e.platform.stackTraces = l.stackTraces by rw [X.admits.platform]).trans hl
  have Y := vx_rebase X (R' := { frames := R.frames, locals := R.locals, cells := 1, slots := 6 }) (Nat.le_refl _) (Nat.le_refl _) hRcells hRslots
  obtain ⟨s', hA⟩ : ∃ z, z = (T.setVm s.vm).setFrames (.invoking m args :: below) := ⟨_, rfl⟩
  rw [← hA] at Y
  have hvm : s'.vm = s.vm := by rw [hA]; rfl
  have hhp : s'.heap = H := by rw [hA]; exact hT
  have hW0 : s.WarmedH s'.vm := by rw [hvm]; exact State.WarmedH.refl s
  have hat' : ∀ w ∈ vx_at0 own ic cls names, w.before args s' = true := fun w hw => vx_ot_at hW0 hvm.symm (hgood w (List.mem_cons_of_mem _ (List.mem_cons_of_mem _ hw))) (hat w hw)
  have hk' : (Cond.classLink own ik cls).before args s' = true := vx_ot_at hW0 hvm.symm (hgood _ List.mem_cons_self) hk
  have hini' : (Cond.initialized cls).before args s' = true := vx_ot_at hW0 hvm.symm (hgood _ (List.mem_cons_of_mem _ List.mem_cons_self)) hini
  have hU' : vx_Zq Bundle.tN "UNASSIGNED_STACK" Bundle.steD A s' s'.heap := by rw [hhp]; exact vx_Zq.moved hW0.alike (hU.kept hS.2.1)
  have hN' : vx_Zq Bundle.tN "SUPPRESSED_SENTINEL" Bundle.listD A s' s'.heap := by rw [hhp]; exact vx_Zq.moved hW0.alike (hN.kept hS.2.1)
  have h : ∀ w ∈ Bundle.ownAtoms0 own ic cls names, w.before args s' = true := vx_own hat' (vx_isRefq hU'.1) (vx_isRefq hN'.1) hU'.2.word hN'.2.word
  have hown' : s'.vm.findClass own = some m.cls := by rw [hvm]; exact hown
  have hins : (Cond.instantiable cls 6).before args s' = true := h _ (by simp [Bundle.ownAtoms0])
  obtain ⟨vm₁, cX, kX, hfX, hkX, -, -, X₁, st1⟩ := Y.newCold hexec (own := own) (C := cls) (index := ik) (n := 6) hown' hk' hins hini'
    (g := F0 m pc ls rest) rfl (by rw [hb]; exact d0) (Nat.le_refl _) (Nat.le_refl _)
  generalize hT1 : (T.setVm vm₁).pushCell { cls := cX, slots := kX.instanceTypes.map defaultValue, vm := .none } = T1 at X₁ st1
  have hcat : (Value.ref T.heap.size).category = 1 := rfl
  have hcellA : T1.heap[T.heap.size]? = some (freshCell cX kX) := by rw [← hT1]; exact State.heap_pushCell_size _ _
  have d3' : decode c.code (pc + 3) = .ok (.dup, 1) := by rw [hb]; exact d3
  obtain ⟨U, hsteps, hrun, hend, hW, hsame, ce, hce, hO⟩ := X₁.ctorThrow0 hexec htr (own := own) (cls := cls) (names := names) (ic := ic) hown' hcls hnames h (fun x hx => nomatch hx) hfX hkX hcellA (by rw [hhp, hT]; exact Nat.le_refl _)
    (g := { method := m, pc := pc + 4, locals := ls, stack := .ref T.heap.size :: .ref T.heap.size :: rest, locked := none }) rfl hsize rfl rfl (rest := rest) rfl
    (by rw [hb]; exact d4) (by rw [hb]; exact d7) hout hRframes (by simp only [List.map_cons, List.sum_cons, hcat]; omega) hlocks
  obtain ⟨f1, f2⟩ := vx_frame hsame
  rw [hhp] at f1 f2
  have hWs : s.WarmedH U.vm := State.WarmedH.trans hW0 hW
  have hcl : s.vm.findClass cls = some ce.cls := by
    have h9 := hO.cls
    rw [hvm] at h9
    exact h9
  have hall : s.sameButNew ({ U with vm := s.vm } : State) locs mc ms := by
    subst hA
    obtain ⟨e1, e2⟩ := hsame
    rw [State.setFrames_setFrames] at e1
    have h2 : (T.setVm s.vm).sameButNew ({ U with vm := s.vm } : State) [] (0 + 1) (0 + 6) := ⟨e1, e2⟩
    have h3 := X.same.trans h2
    rw [List.append_nil] at h3
    exact h3.mono hc hs
  refine ⟨U, ?_, .threw T.heap.size, hrun, hend, Or.inr ⟨T.heap.size, rfl, cls, ce, locs, hx U hWs.alike f1 (fun q hq => f2 q hq (fun z hz => nomatch hz)), hce, hO.vm, hcl, hWs, hall, hf⟩⟩
  refine st1 _ ?_
  show Steps p.tables e below (T1.setTop { method := m, pc := pc + 3, locals := ls, stack := .ref T.heap.size :: rest, locked := none }) _
  jvm_step X₁.here [X₁.here.top, hexec, d3', Value.category]
  exact hsteps
/-- 'throw new E("text")': new; dup; ldc; invokespecial; athrow -/
theorem vx_throwS {cc : ByteArray} {pc : Nat} (hexec : p.tables.exec = Jvm.exec) (hb : c.code = cc) (hl : l.stackTraces = false) {own cls text : String} {names : List String} {ik is ic mc ms sa : Nat} {A : Nat → Prop}
    (hown : s.vm.findClass own = some m.cls) (hcls : Bundle.fit cls = true) (hnames : ∀ n ∈ names, Bundle.fit n = true)
    (hk : (Cond.classLink own ik cls).before args s = true) (hini : (Cond.initialized cls).before args s = true) (hstr : vk_R own is text sa s) (hat : ∀ w ∈ vx_atS own ic cls names, w.before args s = true)
    (hgood : ∀ w ∈ Cond.classLink own ik cls :: Cond.initialized cls :: vx_atS own ic cls names, vx_ot w = true)
    (hU : vx_Zq Bundle.tN "UNASSIGNED_STACK" Bundle.steD A s s.heap) (hN : vx_Zq Bundle.tN "SUPPRESSED_SENTINEL" Bundle.listD A s s.heap) (hS : va_S A s.heap H locs) (hsize : ls.size = c.maxLocals)
    (d0 : decode cc pc = .ok (.new ik, 3)) (d3 : decode cc (pc + 3) = .ok (.dup, 1)) (d4 : decode cc (pc + 4) = .ok (.ldc is, 2)) (d6 : decode cc (pc + 6) = .ok (.invokespecial ic, 3)) (d9 : decode cc (pc + 9) = .ok (.athrow, 1))
    (hout : ∀ x ∈ c.exceptionTable.toList, covers x (pc + 9) = false)
    (hRframes : names.length + 3 < R.frames) (hRlocals : (rest.map fun v => v.category).sum + (13 * (names.length + 1) + 43) ≤ R.locals) (hRcells : cells + 1 ≤ R.cells) (hRslots : slots + 6 ≤ R.slots) (hlocks : meth.locks = false)
    (hx : ∀ t : State, s.vm.Alike t.vm → H.size ≤ t.heap.size → (∀ q : Nat, q < H.size → t.heap[q]? = H[q]?) → XC cls s t)
    (hf : ∀ z ∈ locs, free z.base) (hc : cells + 1 ≤ mc) (hs : slots + 6 ≤ ms) :
    W p l e R s m args below meth c H locs cells slots (vx_MQ below Qc XC args s mc ms free) (F0 m pc ls rest) := by
  intro T hT X
  have htr : e.platform.stackTraces = false := (show e.platform.stackTraces = l.stackTraces by rw [X.admits.platform]).trans hl
  have Y := vx_rebase X (R' := { frames := R.frames, locals := R.locals, cells := 1, slots := 6 }) (Nat.le_refl _) (Nat.le_refl _) hRcells hRslots
  obtain ⟨s', hA⟩ : ∃ z, z = (T.setVm s.vm).setFrames (.invoking m args :: below) := ⟨_, rfl⟩
  rw [← hA] at Y
  have hvm : s'.vm = s.vm := by rw [hA]; rfl
  have hhp : s'.heap = H := by rw [hA]; exact hT
  have hW0 : s.WarmedH s'.vm := by rw [hvm]; exact State.WarmedH.refl s
  have hat' : ∀ w ∈ vx_atS own ic cls names, w.before args s' = true := fun w hw => vx_ot_at hW0 hvm.symm (hgood w (List.mem_cons_of_mem _ (List.mem_cons_of_mem _ hw))) (hat w hw)
  have hk' : (Cond.classLink own ik cls).before args s' = true := vx_ot_at hW0 hvm.symm (hgood _ List.mem_cons_self) hk
  have hini' : (Cond.initialized cls).before args s' = true := vx_ot_at hW0 hvm.symm (hgood _ (List.mem_cons_of_mem _ List.mem_cons_self)) hini
  have hU' : vx_Zq Bundle.tN "UNASSIGNED_STACK" Bundle.steD A s' s'.heap := by rw [hhp]; exact vx_Zq.moved hW0.alike (hU.kept hS.2.1)
  have hN' : vx_Zq Bundle.tN "SUPPRESSED_SENTINEL" Bundle.listD A s' s'.heap := by rw [hhp]; exact vx_Zq.moved hW0.alike (hN.kept hS.2.1)
  have h : ∀ w ∈ Bundle.ownAtoms own ic cls names, w.before args s' = true := vx_own hat' (vx_isRefq hU'.1) (vx_isRefq hN'.1) hU'.2.word hN'.2.word
  have hown' : s'.vm.findClass own = some m.cls := by rw [hvm]; exact hown
  have hins : (Cond.instantiable cls 6).before args s' = true := h _ (by simp [Bundle.ownAtoms])
  obtain ⟨vm₁, cX, kX, hfX, hkX, -, -, X₁, st1⟩ := Y.newCold hexec (own := own) (C := cls) (index := ik) (n := 6) hown' hk' hins hini'
    (g := F0 m pc ls rest) rfl (by rw [hb]; exact d0) (Nat.le_refl _) (Nat.le_refl _)
  generalize hT1 : (T.setVm vm₁).pushCell { cls := cX, slots := kX.instanceTypes.map defaultValue, vm := .none } = T1 at X₁ st1
  have hcat : (Value.ref T.heap.size).category = 1 := rfl
  have hcellA : T1.heap[T.heap.size]? = some (freshCell cX kX) := by rw [← hT1]; exact State.heap_pushCell_size _ _
  have d3' : decode c.code (pc + 3) = .ok (.dup, 1) := by rw [hb]; exact d3
  have d4' : decode c.code (pc + 4) = .ok (.ldc is, 2) := by rw [hb]; exact d4
  have hstr' : vk_R own is text sa s' := vk_R.warm hW0 hstr
  obtain ⟨U, hsteps, hrun, hend, hW, hsame, ce, hce, hO⟩ := X₁.ctorThrowS hexec htr (own := own) (cls := cls) (names := names) (ic := ic) hown' hcls hnames h (fun x hx => nomatch hx) hfX hkX hcellA (by rw [hhp, hT]; exact Nat.le_refl _) (msg := .ref sa) rfl
    (g := { method := m, pc := pc + 6, locals := ls, stack := .ref sa :: .ref T.heap.size :: .ref T.heap.size :: rest, locked := none }) rfl hsize rfl rfl (rest := rest) rfl
    (by rw [hb]; exact d6) (by rw [hb]; exact d9) hout hRframes (by simp only [List.map_cons, List.sum_cons, hcat]; omega) hlocks
  obtain ⟨f1, f2⟩ := vx_frame hsame
  rw [hhp] at f1 f2
  have hWs : s.WarmedH U.vm := State.WarmedH.trans hW0 hW
  have hcl : s.vm.findClass cls = some ce.cls := by
    have h9 := hO.cls
    rw [hvm] at h9
    exact h9
  have hall : s.sameButNew ({ U with vm := s.vm } : State) locs mc ms := by
    subst hA
    obtain ⟨e1, e2⟩ := hsame
    rw [State.setFrames_setFrames] at e1
    have h2 : (T.setVm s.vm).sameButNew ({ U with vm := s.vm } : State) [] (0 + 1) (0 + 6) := ⟨e1, e2⟩
    have h3 := X.same.trans h2
    rw [List.append_nil] at h3
    exact h3.mono hc hs
  refine ⟨U, ?_, .threw T.heap.size, hrun, hend, Or.inr ⟨T.heap.size, rfl, cls, ce, locs, hx U hWs.alike f1 (fun q hq => f2 q hq (fun z hz => nomatch hz)), hce, hO.vm, hcl, hWs, hall, hf⟩⟩
  refine st1 _ ?_
  show Steps p.tables e below (T1.setTop { method := m, pc := pc + 3, locals := ls, stack := .ref T.heap.size :: rest, locked := none }) _
  jvm_step X₁.here [X₁.here.top, hexec, d3', Value.category]
  exact X₁.ldcString hexec (own := own) (text := text) (index := is) (a := sa) hown' hstr'.1 hstr'.2
    (g := { method := m, pc := pc + 4, locals := ls, stack := .ref T.heap.size :: .ref T.heap.size :: rest, locked := none }) rfl d4' _ hsteps
/-- 'throw new E("text")', the text by a wide index -/
theorem vx_throwSW {cc : ByteArray} {pc : Nat} (hexec : p.tables.exec = Jvm.exec) (hb : c.code = cc) (hl : l.stackTraces = false) {own cls text : String} {names : List String} {ik is ic mc ms sa : Nat} {A : Nat → Prop}
    (hown : s.vm.findClass own = some m.cls) (hcls : Bundle.fit cls = true) (hnames : ∀ n ∈ names, Bundle.fit n = true)
    (hk : (Cond.classLink own ik cls).before args s = true) (hini : (Cond.initialized cls).before args s = true) (hstr : vk_R own is text sa s) (hat : ∀ w ∈ vx_atS own ic cls names, w.before args s = true)
    (hgood : ∀ w ∈ Cond.classLink own ik cls :: Cond.initialized cls :: vx_atS own ic cls names, vx_ot w = true)
    (hU : vx_Zq Bundle.tN "UNASSIGNED_STACK" Bundle.steD A s s.heap) (hN : vx_Zq Bundle.tN "SUPPRESSED_SENTINEL" Bundle.listD A s s.heap) (hS : va_S A s.heap H locs) (hsize : ls.size = c.maxLocals)
    (d0 : decode cc pc = .ok (.new ik, 3)) (d3 : decode cc (pc + 3) = .ok (.dup, 1)) (d4 : decode cc (pc + 4) = .ok (.ldc_w is, 3)) (d7 : decode cc (pc + 7) = .ok (.invokespecial ic, 3)) (d10 : decode cc (pc + 10) = .ok (.athrow, 1))
    (hout : ∀ x ∈ c.exceptionTable.toList, covers x (pc + 10) = false)
    (hRframes : names.length + 3 < R.frames) (hRlocals : (rest.map fun v => v.category).sum + (13 * (names.length + 1) + 43) ≤ R.locals) (hRcells : cells + 1 ≤ R.cells) (hRslots : slots + 6 ≤ R.slots) (hlocks : meth.locks = false)
    (hx : ∀ t : State, s.vm.Alike t.vm → H.size ≤ t.heap.size → (∀ q : Nat, q < H.size → t.heap[q]? = H[q]?) → XC cls s t)
    (hf : ∀ z ∈ locs, free z.base) (hc : cells + 1 ≤ mc) (hs : slots + 6 ≤ ms) :
    W p l e R s m args below meth c H locs cells slots (vx_MQ below Qc XC args s mc ms free) (F0 m pc ls rest) := by
  intro T hT X
  have htr : e.platform.stackTraces = false := (show e.platform.stackTraces = l.stackTraces by rw [X.admits.platform]).trans hl
  have Y := vx_rebase X (R' := { frames := R.frames, locals := R.locals, cells := 1, slots := 6 }) (Nat.le_refl _) (Nat.le_refl _) hRcells hRslots
  obtain ⟨s', hA⟩ : ∃ z, z = (T.setVm s.vm).setFrames (.invoking m args :: below) := ⟨_, rfl⟩
  rw [← hA] at Y
  have hvm : s'.vm = s.vm := by rw [hA]; rfl
  have hhp : s'.heap = H := by rw [hA]; exact hT
  have hW0 : s.WarmedH s'.vm := by rw [hvm]; exact State.WarmedH.refl s
  have hat' : ∀ w ∈ vx_atS own ic cls names, w.before args s' = true := fun w hw => vx_ot_at hW0 hvm.symm (hgood w (List.mem_cons_of_mem _ (List.mem_cons_of_mem _ hw))) (hat w hw)
  have hk' : (Cond.classLink own ik cls).before args s' = true := vx_ot_at hW0 hvm.symm (hgood _ List.mem_cons_self) hk
  have hini' : (Cond.initialized cls).before args s' = true := vx_ot_at hW0 hvm.symm (hgood _ (List.mem_cons_of_mem _ List.mem_cons_self)) hini
  have hU' : vx_Zq Bundle.tN "UNASSIGNED_STACK" Bundle.steD A s' s'.heap := by rw [hhp]; exact vx_Zq.moved hW0.alike (hU.kept hS.2.1)
  have hN' : vx_Zq Bundle.tN "SUPPRESSED_SENTINEL" Bundle.listD A s' s'.heap := by rw [hhp]; exact vx_Zq.moved hW0.alike (hN.kept hS.2.1)
  have h : ∀ w ∈ Bundle.ownAtoms own ic cls names, w.before args s' = true := vx_own hat' (vx_isRefq hU'.1) (vx_isRefq hN'.1) hU'.2.word hN'.2.word
  have hown' : s'.vm.findClass own = some m.cls := by rw [hvm]; exact hown
  have hins : (Cond.instantiable cls 6).before args s' = true := h _ (by simp [Bundle.ownAtoms])
  obtain ⟨vm₁, cX, kX, hfX, hkX, -, -, X₁, st1⟩ := Y.newCold hexec (own := own) (C := cls) (index := ik) (n := 6) hown' hk' hins hini'
    (g := F0 m pc ls rest) rfl (by rw [hb]; exact d0) (Nat.le_refl _) (Nat.le_refl _)
  generalize hT1 : (T.setVm vm₁).pushCell { cls := cX, slots := kX.instanceTypes.map defaultValue, vm := .none } = T1 at X₁ st1
  have hcat : (Value.ref T.heap.size).category = 1 := rfl
  have hcellA : T1.heap[T.heap.size]? = some (freshCell cX kX) := by rw [← hT1]; exact State.heap_pushCell_size _ _
  have d3' : decode c.code (pc + 3) = .ok (.dup, 1) := by rw [hb]; exact d3
  have d4' : decode c.code (pc + 4) = .ok (.ldc_w is, 3) := by rw [hb]; exact d4
  have hstr' : vk_R own is text sa s' := vk_R.warm hW0 hstr
  obtain ⟨U, hsteps, hrun, hend, hW, hsame, ce, hce, hO⟩ := X₁.ctorThrowS hexec htr (own := own) (cls := cls) (names := names) (ic := ic) hown' hcls hnames h (fun x hx => nomatch hx) hfX hkX hcellA (by rw [hhp, hT]; exact Nat.le_refl _) (msg := .ref sa) rfl
    (g := { method := m, pc := pc + 7, locals := ls, stack := .ref sa :: .ref T.heap.size :: .ref T.heap.size :: rest, locked := none }) rfl hsize rfl rfl (rest := rest) rfl
    (by rw [hb]; exact d7) (by rw [hb]; exact d10) hout hRframes (by simp only [List.map_cons, List.sum_cons, hcat]; omega) hlocks
  obtain ⟨f1, f2⟩ := vx_frame hsame
  rw [hhp] at f1 f2
  have hWs : s.WarmedH U.vm := State.WarmedH.trans hW0 hW
  have hcl : s.vm.findClass cls = some ce.cls := by
    have h9 := hO.cls
    rw [hvm] at h9
    exact h9
  have hall : s.sameButNew ({ U with vm := s.vm } : State) locs mc ms := by
    subst hA
    obtain ⟨e1, e2⟩ := hsame
    rw [State.setFrames_setFrames] at e1
    have h2 : (T.setVm s.vm).sameButNew ({ U with vm := s.vm } : State) [] (0 + 1) (0 + 6) := ⟨e1, e2⟩
    have h3 := X.same.trans h2
    rw [List.append_nil] at h3
    exact h3.mono hc hs
  refine ⟨U, ?_, .threw T.heap.size, hrun, hend, Or.inr ⟨T.heap.size, rfl, cls, ce, locs, hx U hWs.alike f1 (fun q hq => f2 q hq (fun z hz => nomatch hz)), hce, hO.vm, hcl, hWs, hall, hf⟩⟩
  refine st1 _ ?_
  show Steps p.tables e below (T1.setTop { method := m, pc := pc + 3, locals := ls, stack := .ref T.heap.size :: rest, locked := none }) _
  jvm_step X₁.here [X₁.here.top, hexec, d3', Value.category]
  exact X₁.ldcStringW hexec (own := own) (text := text) (index := is) (a := sa) hown' hstr'.1 hstr'.2
    (g := { method := m, pc := pc + 4, locals := ls, stack := .ref T.heap.size :: .ref T.heap.size :: rest, locked := none }) rfl d4' _ hsteps
end Ends
section Bodies
variable {l : Launch}
theorem vx_ofW {y : MethodName} {ws ws' : List Cond} {rm : Room} {Pc : Array Value → State → Prop} {Qc : Array Value → State → Outcome → State → Prop} {XC : String → State → State → Prop} {mc ms : Nat} {free : Addr → Prop} {cc : ByteArray} {maxL : Nat} {ret : Option FieldType}
    (hy : plainName y.cls = true) (hw : ws = Cond.code y cc maxL ret :: ws')
    (body : ∀ p e s m args below meth c s₁, BodyLoose p l y (headSpec ws rm) cc maxL ret e s m args below meth c s₁ → c.maxLocals = maxL → (∀ x ∈ c.exceptionTable.toList, False) → Pc args s →
      W p l e (headSpec ws rm).room s m args below meth c s.heap [] 0 0 (vx_MQ below Qc XC args s mc ms free) (entryFrame m args maxL)) : vx_Met l y ws rm Pc Qc XC mc ms free := by
  refine MetFree.of_bodyS (code := cc) (maxLocals := maxL) (ret := ret) hy ?_ ?_
  · intro args s m h hn
    obtain ⟨meth, c, h1, h2, h3, h4, h5, h6, -, -⟩ := Cond.code_spec hn (atoms_spec (ws := ws) h _ (by rw [hw]; exact List.mem_cons_self))
    exact ⟨meth, c, h1, h2, h3, h4, h5, h6⟩
  · intro p e s m args below meth c s₁ B hml hP _
    have hh0 : s₁.heap = s.heap := by rw [B.state]; rfl
    have ht : ∀ x ∈ c.exceptionTable.toList, False := by
      obtain ⟨meth9, c9, h1, h2, -, -, -, -, h7, -⟩ := Cond.code_spec B.named (atoms_spec (ws := ws) B.pre _ (by rw [hw]; exact List.mem_cons_self))
      cases Option.some.inj (h1.symm.trans B.method)
      cases Option.some.inj (h2.symm.trans (Stand.of_body B).code)
      intro x hx
      rw [Array.isEmpty_iff.mp h7] at hx
      cases hx
    obtain ⟨t, a1, o, b1, b2, b3⟩ := body p e s m args below meth c s₁ B hml ht hP s₁ hh0 (Stand.of_body B)
    exact ⟨t, o, a1, b1, b2, b3⟩
/-- the table of a body with handlers -/
theorem vx_table {p : Program} {x y : MethodName} {S : Spec} {cc bytes : ByteArray} {maxL maxL' : Nat} {ret ret' : Option FieldType} {e : Env} {s s₁ : State} {m : MethodId} {args : Array Value} {below : List Frame} {meth : Method} {c : Code} {hh : List (Nat × Nat × Nat × Nat)}
    (B : BodyLoose p l y S cc maxL ret e s m args below meth c s₁) (h : (Cond.codeWith y bytes maxL' ret' hh).before args s = true) : c.exceptionTable.toList = tableOf hh := by
  obtain ⟨m9, meth9, c9, hn9, h1, h2, -, -, h6, -⟩ := Cond.codeWith_spec h
  cases Option.some.inj (hn9.symm.trans B.named)
  cases Option.some.inj (h1.symm.trans B.method)
  cases Option.some.inj (h2.symm.trans (Stand.of_body B).code)
  rw [← h6, table_eq]
end Bodies
end VXA
/-! ===== END ===== -/
/-! ===== BEGIN a static call of a method with an exception table ===== -/
section VXS
variable {p : Program} {l : Launch} {e : Env} {R : Room} {s : State} {m : MethodId} {args : Array Value} {below : List Frame} {meth : Method} {c : Code} {T : State} {H : Heap} {locs : List Loc} {cells slots : Nat}
abbrev vx_CSW (R : Room) (s : State) (args : Array Value) (own : String) (index : Nat) (y : MethodName) (bytes : ByteArray) (maxL : Nat) (ret : Option FieldType) (hh : List (Nat × Nat × Nat × Nat)) (ws : List Cond) (rm : Room) (mc ms n : Nat) : Prop :=
  (rm.cells = mc ∧ rm.slots = ms ∧ rm.frames + 1 ≤ R.frames ∧ 8 + (maxL + 11) + rm.locals ≤ R.locals ∧ (∀ w ∈ ws, ∀ (a' : Array Value) (U : State), s.WarmedH U.vm → w.before a' U = true) ∧ Cond.codeWith y bytes maxL ret hh ∈ ws) ∧
  (Cond.codeWith y bytes maxL ret hh).before args s = true ∧ (Cond.initialized y.cls).before args s = true ∧ (y.cls ≠ "java/lang/invoke/MethodHandle" ∧ y.cls ≠ "java/lang/invoke/VarHandle") ∧
  (∀ sig, parseMethodDescriptor y.desc = some sig → n = sig.parameters.length) ∧ (Cond.methodLink own index y).before args s = true ∧ (Cond.static y).before args s = true
theorem vx_cwSW {own : String} {index maxL mc ms : Nat} {y : MethodName} {bytes : ByteArray} {ret : Option FieldType} {hh : List (Nat × Nat × Nat × Nat)} {Ts ws ws' : List Cond} {rm : Room} (n : Nat) (ht : ∀ w ∈ Ts, w.before args s = true) (hT : GoodIn Ts (va_wsS own index y ws)) (hw : ws = Cond.codeWith y bytes maxL ret hh :: ws') (hrc : rm.cells = mc) (hrs : rm.slots = ms)
    (hd : y.cls ≠ "java/lang/invoke/MethodHandle" ∧ y.cls ≠ "java/lang/invoke/VarHandle" ∧ (parseMethodDescriptor y.desc).map (fun d => d.parameters.length) = some n) (hR : rm.frames + 1 ≤ R.frames ∧ 8 + (maxL + 11) + rm.locals ≤ R.locals) :
    vx_CSW R s args own index y bytes maxL ret hh ws rm mc ms n := by
  have ok : ∀ w ∈ va_wsS own index y ws, w.before args s = true := fun w h => ht w (hT w h).1
  have hG : GoodIn Ts ws := fun w h => hT w (by unfold va_wsS; exact List.mem_append_right _ h)
  have hc : Cond.codeWith y bytes maxL ret hh ∈ ws := by rw [hw]; exact List.mem_cons_self
  refine ⟨⟨hrc, hrs, hR.1, hR.2, pay_in ht hG, hc⟩, ht _ (hG _ hc).1, ok _ (by simp [va_wsS]), ⟨hd.1, hd.2.1⟩, fun sig h => ?_, ok _ (by simp [va_wsS]), ok _ (by simp [va_wsS])⟩
  have h2 := hd.2.2
  rw [h] at h2
  exact (Option.some.inj h2).symm
theorem vx_callSW (X : Stand p l e R s m args below meth c T locs cells slots) (hexec : p.tables.exec = Jvm.exec) {own : String} {index : Nat} {y : MethodName} {bytes : ByteArray} {maxL : Nat} {ret : Option FieldType} {hh : List (Nat × Nat × Nat × Nat)}
    (hown : s.vm.findClass own = some m.cls) (hlink : (Cond.methodLink own index y).before args s = true) (hstat : (Cond.static y).before args s = true) (hinit : (Cond.initialized y.cls).before args s = true)
    (hcode : (Cond.codeWith y bytes maxL ret hh).before args s = true) (hy : y.cls ≠ "java/lang/invoke/MethodHandle" ∧ y.cls ≠ "java/lang/invoke/VarHandle")
    {W9 : Nat} {Pre : Pt → Array Value → Prop} {Post : Pt → Array Value → Option Value → Pt → Prop} (hK : Back l R p e below s args y 3 W9 Pre Post)
    {g : JFrame} (hg : g.method = m) (hsize : g.locals.size = c.maxLocals) {argsL rest : List Value} (hlen : ∀ sig, parseMethodDescriptor y.desc = some sig → argsL.length = sig.parameters.length)
    (hstack : g.stack = argsL.reverse ++ rest) (hW : 2 * g.monitorRoom + (rest.map fun v => v.category).sum ≤ W9) (hdg : decode c.code g.pc = .ok (.invokestatic index, 3))
    (hpre : ∀ vm₁, s.WarmedH vm₁ → Pre ⟨T.setVm vm₁, locs, cells, slots⟩ argsL.toArray) :
    ∃ (v : Option Value) (vm₁ : Vm) (B : Pt), s.WarmedH vm₁ ∧ Stand p l e R s m args below meth c B.U B.locs B.cells B.slots ∧ Post ⟨T.setVm vm₁, locs, cells, slots⟩ argsL.toArray v B ∧
      ∀ target, Steps p.tables e below (B.U.setTop { g with pc := g.pc + 3, stack := v.toList ++ rest }) target → Steps p.tables e below (T.setTop g) target := by
  obtain ⟨mk, methM, cM, hnamed, hmethM, -, -, -, -, -, -, hsigM⟩ := Cond.codeWith_spec hcode
  have hstatic : methM.isStatic = true := Cond.static_spec hnamed hmethM hstat
  obtain ⟨kP, hkP, -⟩ := className_of_methodNamed hnamed
  have hinitP : kP.init = .initialized := Cond.initialized_spec (findClass_of_methodNamed hnamed) hkP hinit
  obtain ⟨vm₁, X₁, hstep₁⟩ := X.invokestatic hexec hown hlink hnamed hmethM hstatic hkP hinitP hy (g := g) hg (argsL := argsL) (rest := rest) (hlen _ hsigM) hstack hdg
  obtain ⟨v, B, X', hpost, hsteps⟩ := hK m meth c ⟨T.setVm vm₁, locs, cells, slots⟩ { g with stack := rest } (.invokestatic index) mk argsL.toArray X₁ hg hsize hdg hW (X₁.named hnamed) (hpre vm₁ X₁.warmed)
  exact ⟨v, vm₁, B, X₁.warmed, X', hpost, fun target h => hstep₁ _ fun acts => by rw [doInvoke_state]; exact hsteps.trans h⟩
theorem vx_runSW {y : MethodName} {bytes cc : ByteArray} {maxL nL mc ms n index : Nat} {ret : Option FieldType} {hh : List (Nat × Nat × Nat × Nat)} {ws : List Cond} {rm : Room} {Pc : Array Value → State → Prop} {Qc : Array Value → State → Outcome → State → Prop} {free : Addr → Prop} {Ts : List Cond} {own : String} {As rest : List Value} {g : JFrame}
    (S : CallFix p m c cc nL s args Ts own) (hM : Met l y ws rm Pc Qc mc ms free) (cw : vx_CSW R s args own index y bytes maxL ret hh ws rm mc ms n) (hp : PreS s H Pc As)
    (hg : g.method = m) (hn : As.length = n) (hsize : g.locals.size = nL) (hstack : g.stack = As.reverse ++ rest) (hW : 2 * g.monitorRoom + (rest.map fun v => v.category).sum ≤ 8) (hdg : decode cc g.pc = .ok (.invokestatic index, 3)) (hf : cells + mc ≤ R.cells ∧ slots + ms ≤ R.slots) :
    va_Run p l e R s m args below meth c H locs cells slots mc ms g rest (Qc As.toArray) (free) := by
  obtain ⟨⟨hrc, hrs, hfr, hlo, hws, hcw⟩, hcode, hini, hy, hlen, hl, hstt⟩ := cw
  have hK : Back l R p e below s args y 3 8 (PreOf R mc ms Pc) (PostOf Qc mc ms free) := va_backW (hh := hh) (bytes := bytes) (maxL := maxL) (ret := ret) hM hp.1 hrc hrs hfr hlo hws hcw (fun a' U hW => word_at hW (Or.inl (by first | rfl | simp [Cond.onTables, Cond.keeps, Cond.steady])) hini)
  obtain ⟨hx, hb, hml, ho, -⟩ := S
  intro T hT X
  obtain ⟨v, vm₁, ⟨U', l2, c2, s2⟩, hW₁, X', ⟨g', mk, t, L, e1, e2, hq, h1, hL, h2, h3⟩, st⟩ := vx_callSW X hx (hh := hh) (bytes := bytes) (maxL := maxL) (ret := ret) ho hl hstt hini hcode hy hK hg (hsize.trans hml.symm) (argsL := As) (rest := rest) (fun sig h => hn.trans (hlen sig h)) hstack hW (by rw [hb]; exact hdg)
    (fun vm₁ hW₁ => ⟨hf.1, hf.2, hp.2 (T.setVm vm₁) hT hW₁⟩)
  dsimp only [Pt.U, Pt.locs, Pt.cells, Pt.slots] at X' e1 e2 h1 h2 h3 st
  subst h1; subst h2; subst h3
  exact ⟨v, (T.setVm vm₁).calling g' mk As.toArray, t, U', L, hT, X', hL, e1, e2, hq, st⟩
/-- not caught here, past rows that name other classes: it goes on to the caller -/
theorem vx_outP {p : Program} {l : Launch} {e : Env} {R : Room} {s : State} {m : MethodId} {args : Array Value} {below : List Frame} {meth : Method} {c : Code} {H : Heap} {locs : List Loc} {cells slots : Nat} {free : Addr → Prop} {ls : Array Slot} {rest : List Value} {Qc : Array Value → State → Outcome → State → Prop} {XC : String → State → State → Prop}
    {pc : Nat} {own E : String} {ce : Cell} {q : Addr} {mc ms : Nat} (hown : s.vm.findClass own = some m.cls) (hlocks : meth.locks = false)
    (hpass : ∀ z ∈ c.exceptionTable.toList, covers z pc = false ∨ (z.catchType ≠ 0 ∧ ∃ nm : String, (Cond.classLink own z.catchType nm).before args s = true ∧ va_Nc E nm s)) (hcell : H[q]? = some ce) (hv : ce.vm = .none) (hcl : s.vm.findClass E = some ce.cls)
    (hx : ∀ t : State, t.heap = H → s.vm.Alike t.vm → XC E s t) (hf : ∀ z ∈ locs, free z.base) (hc : cells ≤ mc) (hs : slots ≤ ms) :
    vx_W p l e R s m args below meth c H locs cells slots (vx_MQ below Qc XC args s mc ms free) (F0 m pc ls rest) q := by
  intro T hT X
  have hpl : e.platform.magicAccessors = ({} : Platform).magicAccessors := by rw [X.admits.platform]
  obtain ⟨vm', hW', X', st⟩ := X.outThrough hlocks q (g := F0 m pc ls rest) rfl rfl rfl (cell := ce) (by rw [hT]; exact hcell) (by rw [hv]; rfl)
    (by obtain ⟨k9, h9, -⟩ := Vm.findClass_spec hcl; exact ⟨k9, h9⟩) (fun z hz => by
      rcases hpass z hz with h | ⟨hz0, nm, hl1, hn1⟩
      · exact Or.inl h
      · obtain ⟨c6, hc6, hcl6⟩ := Cond.classLink_spec hown hl1 e.platform hpl
        obtain ⟨a8, b8, h1, h2, h3⟩ := hn1
        cases Option.some.inj (h1.symm.trans hcl)
        cases Option.some.inj (h2.symm.trans hc6)
        exact Or.inr ⟨hz0, _, hcl6, h3⟩)
  obtain ⟨g₀, hfr⟩ := X'.frames_eq
  have hcell9 : ((T.setVm vm').setFrames (.throwing q :: below)).heap[q]? = some ce := by
    show T.heap[q]? = some ce
    rw [hT]; exact hcell
  have hend : Ended ((T.setVm vm').setFrames (.throwing q :: below)) below (.threw q) := State.frames_setFrames _ (State.cur_lt_of_frames hfr)
  refine ⟨(T.setVm vm').setFrames (.throwing q :: below), ?_, .threw q, X'.here.running, hend, Or.inr ⟨q, rfl, E, ce, locs, hx _ hT (X'.ends _).1.alike, hcell9, hv, hcl, (X'.ends _).1, (X'.ends _).2.mono hc hs, hf⟩⟩
  rw [X.pushThrowing_eq]
  exact st
/-- a thing of a world lies in the heap -/
theorem vx_lt {D : va_G} {cl : List vw_C} {ws : va_W} {H1 : Heap} (h : va_P D cl ws H1) {k : Nat} {q : Nat × va_E} (hk : ws[k]? = some q) : q.1 < H1.size := (h k q hk).lt
end VXS
/-! ===== END ===== -/
/-! ===== BEGIN methods with a table of their own: called by a name, returning or throwing ===== -/
section VXH
/-! vx_backW, vx_callVX, vx_callSX, vx_callVW, vx_runVW, vx_runVX, vx_runSX, vx_ofWH follow the same proofs as their sisters above (Free/Laws.lean, Shelf42/LK1.lean); vx_outP calls Shelf42/NT130.lean (outThrough). -/
section
variable {l : Launch} {R : Room} {p : Program} {e : Env} {below : List Frame} {s : State} {sargs : Array Value} {y : MethodName} {len W9 : Nat}
theorem vx_backW {ws : List Cond} {rm : Room} {Pc : Array Value → State → Prop} {Qc : Array Value → State → Outcome → State → Prop} {XC : String → State → State → Prop} {mc ms : Nat} {free : Addr → Prop} {bytes : ByteArray} {maxL : Nat} {ret : Option FieldType} {hh : List (Nat × Nat × Nat × Nat)}
    (hM : vx_Met l y ws rm Pc Qc XC mc ms free) (hblind : FrameBlind Pc) (hrc : rm.cells = mc) (hrs : rm.slots = ms)
    (hframes : rm.frames + 1 ≤ R.frames) (hlocals : W9 + (maxL + 11) + rm.locals ≤ R.locals)
    (hws : ∀ w ∈ ws, ∀ a' U, s.WarmedH U.vm → w.before a' U = true) (hcode : Cond.codeWith y bytes maxL ret hh ∈ ws) (hinit : ∀ a' U, s.WarmedH U.vm → (Cond.initialized y.cls).before a' U = true) :
    vx_Back l R p e below s sargs y len W9 (PreOf R mc ms Pc) (PostOf Qc mc ms free) (vx_Post XC mc ms free) := by
  intro m meth c A g ig mk a X hg hsize hdg hW hn hp
  have h1 : (headSpec ws rm).pre.before a A.U = true := atoms_intro fun w hw => hws w hw _ _ X.warmed
  have h2 : (Cond.codeWith y bytes maxL ret hh).before a A.U = true := hws _ hcode _ _ X.warmed
  have h3 : (Cond.initialized y.cls).before a A.U = true := hinit _ _ X.warmed
  have h4 : A.cells + (headSpec ws rm).room.cells ≤ R.cells := by rw [show (headSpec ws rm).room.cells = mc from hrc]; exact hp.1
  have h5 : A.slots + (headSpec ws rm).room.slots ≤ R.slots := by rw [show (headSpec ws rm).room.slots = ms from hrs]; exact hp.2.1
  have hPc : Pc a (A.U.calling g mk a) := hblind _ _ _ _ hp.2.2
  obtain ⟨U, Ls, c0, s0⟩ := A
  dsimp only [Pt.U, Pt.locs, Pt.cells, Pt.slots] at h1 h2 h3 h4 h5 X hn hPc ⊢
  obtain ⟨m9, methY, cY, hn9, hmY, hcY, -, hlY, -⟩ := Cond.codeWith_spec h2
  cases Option.some.inj (hn9.symm.trans hn)
  obtain ⟨kY, hkY, -⟩ := className_of_methodNamed hn
  have hinitY : kY.init = .initialized := Cond.initialized_spec (findClass_of_methodNamed hn) hkY h3
  have h : At U g.method c below := by rw [hg]; exact X.here
  have hlocals9 : W9 + (maxL + 11) + (headSpec ws rm).room.locals ≤ R.locals := hlocals
  have happ : (headSpec ws rm).appliesLoose y e.platform (U.calling g mk a) = true :=
    Spec.appliesLoose_calling (g := g) h hdg hn hkY hinitY
      (X.room_calling (g := g) (R' := (headSpec ws rm).room) hsize hmY hcY hframes (by rw [hlY]; omega) h4 h5) h1
  obtain ⟨mid, hmid⟩ := h.above
  have hfr : (U.setTop g).frames = (.java g :: mid) ++ below := by rw [State.frames_setTop' g h.top, hmid]; rfl
  obtain ⟨o, s₂, hsteps, -, hend, hq⟩ := Steps.callFree hM p X.admits X.cas X.clock (acts := []) hfr happ hPc trivial
  have hq' : vx_Q Qc XC mc ms free a (U.calling g mk a) o s₂ := hq
  rw [State.frames_setTop' g h.top] at hend
  obtain ⟨g₀, hg0⟩ := Option.isSome_iff_exists.mp h.top
  obtain ⟨r, hr⟩ := State.topJava?_eq_some.mp hg0
  have hr' : (({ U with heap := s₂.heap, slotsUsed := s₂.slotsUsed } : State).setVm s₂.vm).frames = .java g₀ :: r := hr
  rcases hq' with ⟨hqc, L, hfe, hL⟩ | ⟨q, rfl, E, ce, L, hx, hce, hcv, hcl, hW₂, hsm, hL⟩
  · obtain ⟨⟨v, rfl⟩, hW₂, e2, q2, q3, q4, q5, q6⟩ := id hfe
    have e3 : s₂ = ({ (U.calling g mk a).setFrames s₂.frames with heap := s₂.heap, slotsUsed := s₂.slotsUsed } : State).setVm s₂.vm := by
      have : s₂ = ({ s₂ with vm := (U.calling g mk a).vm } : State).setVm s₂.vm := rfl
      rw [e2] at this
      exact this
    obtain ⟨c₂, i₂, len₂, hc₂, hd₂, hf₂⟩ := hend
    have hW' : U.WarmedH s₂.vm := hW₂
    have hcc : c₂ = c := by
      have h1 : s₂.code? g.method = U.code? g.method := by
        rw [State.code?_eq, State.code?_eq, hW'.alike.method?]
      exact Option.some.inj (hc₂.symm.trans (h1.trans h.code))
    subst hcc
    have hlen : len₂ = len := by rw [hdg] at hd₂; cases hd₂; rfl
    subst hlen
    have hs₂ : s₂ = (({ U with heap := s₂.heap, slotsUsed := s₂.slotsUsed } : State).setVm s₂.vm).setTop { g with pc := g.pc + len₂, stack := v.toList ++ g.stack } := by
      refine e3.trans ?_
      rw [hf₂, State.calling_eq h.top, State.setFrames_setFrames, State.setTop_of_frames _ hr', hr]
      rfl
    have hsame : U.sameButNew ({ U with heap := s₂.heap, slotsUsed := s₂.slotsUsed } : State) L mc ms := by
      refine ⟨?_, q2, q3, q4, q5, q6⟩
      obtain ⟨t, ht, -⟩ := State.frames_cons hr
      show ({ U with heap := s₂.heap, slotsUsed := s₂.slotsUsed } : State) = { U.setFrames U.frames with heap := s₂.heap, slotsUsed := s₂.slotsUsed }
      rw [State.setFrames_self ht]
    subst hg
    refine Or.inl ⟨v, ⟨(({ U with heap := s₂.heap, slotsUsed := s₂.slotsUsed } : State).setVm s₂.vm), Ls ++ L, c0 + mc, s0 + ms⟩,
      ⟨X.admits, X.cas, X.clock, X.frames, X.room, X.hears, X.method, X.code, (X.here.setHeapUsed s₂.heap s₂.slotsUsed).setVm hW'.alike, X.tail, State.WarmedH.trans X.warmed hW', X.limits, X.bytes, X.same.trans (hsame.setVm s.vm)⟩,
      ⟨g, mk, s₂, L, rfl, rfl, hqc, rfl, hL, rfl, rfl⟩, ?_⟩
    show Steps p.tables e below _ ((({ U with heap := s₂.heap, slotsUsed := s₂.slotsUsed } : State).setVm s₂.vm).setTop { g with pc := g.pc + len₂, stack := v.toList ++ g.stack })
    rw [← hs₂]
    exact hsteps
  · obtain ⟨e2, q2, q3, q4, q5, q6⟩ := id hsm
    have e3 : s₂ = ({ (U.calling g mk a).setFrames s₂.frames with heap := s₂.heap, slotsUsed := s₂.slotsUsed } : State).setVm s₂.vm := by
      have : s₂ = ({ s₂ with vm := (U.calling g mk a).vm } : State).setVm s₂.vm := rfl
      rw [e2] at this
      exact this
    have hf₂ : s₂.frames = .throwing q :: .java g :: U.frames.tail := hend
    have hW' : U.WarmedH s₂.vm := hW₂
    have hs₂ : s₂ = ((({ U with heap := s₂.heap, slotsUsed := s₂.slotsUsed } : State).setVm s₂.vm).setTop g).pushFrame (.throwing q) := by
      refine e3.trans ?_
      rw [hf₂, State.calling_eq h.top, State.setFrames_setFrames, State.pushFrame, State.frames_setTop _ hr', State.setTop_of_frames _ hr', State.setFrames_setFrames, hr]
      rfl
    have hsame : U.sameButNew ({ U with heap := s₂.heap, slotsUsed := s₂.slotsUsed } : State) L mc ms := by
      refine ⟨?_, q2, q3, q4, q5, q6⟩
      obtain ⟨t, ht, -⟩ := State.frames_cons hr
      show ({ U with heap := s₂.heap, slotsUsed := s₂.slotsUsed } : State) = { U.setFrames U.frames with heap := s₂.heap, slotsUsed := s₂.slotsUsed }
      rw [State.setFrames_self ht]
    subst hg
    refine Or.inr ⟨q, ⟨(({ U with heap := s₂.heap, slotsUsed := s₂.slotsUsed } : State).setVm s₂.vm), Ls ++ L, c0 + mc, s0 + ms⟩,
      ⟨X.admits, X.cas, X.clock, X.frames, X.room, X.hears, X.method, X.code, (X.here.setHeapUsed s₂.heap s₂.slotsUsed).setVm hW'.alike, X.tail, State.WarmedH.trans X.warmed hW', X.limits, X.bytes, X.same.trans (hsame.setVm s.vm)⟩,
      ⟨g, mk, s₂, L, E, ce, rfl, rfl, hx, hce, hcv, hcl, rfl, hL, rfl, rfl⟩, ?_⟩
    show Steps p.tables e below _ (((({ U with heap := s₂.heap, slotsUsed := s₂.slotsUsed } : State).setVm s₂.vm).setTop g).pushFrame (.throwing q))
    rw [← hs₂]
    exact hsteps
end
variable {p : Program} {l : Launch} {e : Env} {R : Room} {s : State} {m : MethodId} {args : Array Value} {below : List Frame} {meth : Method} {c : Code} {T : State} {H : Heap} {locs : List Loc} {cells slots : Nat}
theorem vx_callVX (X : Stand p l e R s m args below meth c T locs cells slots) (hexec : p.tables.exec = Jvm.exec) {own C : String} {index : Nat} {y : MethodName} {bytes : ByteArray} {maxL : Nat} {ret : Option FieldType} {hh : List (Nat × Nat × Nat × Nat)}
    (hown : s.vm.findClass own = some m.cls) (hlink : (Cond.methodLink own index y).before args s = true) (hinst : (Cond.instanceMethod y).before args s = true) (hsel : (Cond.selects C y y).before args s = true)
    (hcode : (Cond.codeWith y bytes maxL ret hh).before args s = true) (hy : y.cls ≠ "java/lang/invoke/MethodHandle" ∧ y.cls ≠ "java/lang/invoke/VarHandle")
    {W9 : Nat} {Pre : Pt → Array Value → Prop} {Post : Pt → Array Value → Option Value → Pt → Prop} {PostX : Pt → Array Value → Addr → Pt → Prop} (hK : vx_Back l R p e below s args y 3 W9 Pre Post PostX)
    {b : Addr} {cellB : Cell} (hcell : T.heap[b]? = some cellB) (hobj : cellB.vm.isStatics = false) (hcls : s.vm.findClass C = some cellB.cls)
    {g : JFrame} (hg : g.method = m) (hsize : g.locals.size = c.maxLocals) {argsL rest : List Value} (hlen : ∀ sig, parseMethodDescriptor y.desc = some sig → argsL.length = sig.parameters.length)
    (hstack : g.stack = argsL.reverse ++ .ref b :: rest) (hW : 2 * g.monitorRoom + (rest.map fun v => v.category).sum ≤ W9) (hdg : decode c.code g.pc = .ok (.invokevirtual index, 3))
    (hpre : ∀ vm₁, s.WarmedH vm₁ → Pre ⟨T.setVm vm₁, locs, cells, slots⟩ (Value.ref b :: argsL).toArray) :
    (∃ (v : Option Value) (vm₁ : Vm) (B : Pt), s.WarmedH vm₁ ∧ Stand p l e R s m args below meth c B.U B.locs B.cells B.slots ∧ Post ⟨T.setVm vm₁, locs, cells, slots⟩ (Value.ref b :: argsL).toArray v B ∧
      ∀ target, Steps p.tables e below (B.U.setTop { g with pc := g.pc + 3, stack := v.toList ++ rest }) target → Steps p.tables e below (T.setTop g) target) ∨
    (∃ (q : Addr) (vm₁ : Vm) (B : Pt), s.WarmedH vm₁ ∧ Stand p l e R s m args below meth c B.U B.locs B.cells B.slots ∧ PostX ⟨T.setVm vm₁, locs, cells, slots⟩ (Value.ref b :: argsL).toArray q B ∧
      Steps p.tables e below (T.setTop g) ((B.U.setTop { g with stack := rest }).pushFrame (.throwing q))) := by
  obtain ⟨mk, methM, hnamed, hmethM, hstM, habM⟩ := Cond.instanceMethod_spec hinst
  obtain ⟨m8, methM', cM, hn8, hmethM', -, -, -, -, -, -, hsigM⟩ := Cond.codeWith_spec hcode
  cases Option.some.inj (hn8.symm.trans hnamed)
  cases hmethM.symm.trans hmethM'
  obtain ⟨c2, r2, m2, q1, q2, q3, q4, kP, hkP, hkPi⟩ := Cond.selects_spec hsel
  cases hcls.symm.trans q1
  cases (State.methodFound?_of_named hnamed hy).symm.trans q2
  cases hnamed.symm.trans q3
  have hselP : selectMethod e.platform s.vm cellB.cls mk = .method mk := by rw [Launch.admits_selectMethod X.admits]; exact q4
  obtain ⟨vm₁, X₁, hstep₁⟩ := X.invokevirtual hexec hown hlink hnamed hmethM hstM hkP hkPi hy (a := b) (cell := cellB) hcell
    (fun z h => by rw [h] at hobj; cases hobj) hselP hmethM habM hkP hkPi (g := g) hg (argsL := argsL) (rest := rest) (hlen _ hsigM) hstack hdg
  rcases hK m meth c ⟨T.setVm vm₁, locs, cells, slots⟩ { g with stack := rest } (.invokevirtual index) mk (Value.ref b :: argsL).toArray X₁ hg hsize hdg hW (X₁.named hnamed) (hpre vm₁ X₁.warmed) with ⟨v, B, X', hpost, hsteps⟩ | ⟨q, B, X', hpost, hsteps⟩
  · exact Or.inl ⟨v, vm₁, B, X₁.warmed, X', hpost, fun target h => hstep₁ _ fun acts => by rw [doInvoke_state]; exact hsteps.trans h⟩
  · exact Or.inr ⟨q, vm₁, B, X₁.warmed, X', hpost, hstep₁ _ fun acts => by rw [doInvoke_state]; exact hsteps⟩
theorem vx_callSX (X : Stand p l e R s m args below meth c T locs cells slots) (hexec : p.tables.exec = Jvm.exec) {own : String} {index : Nat} {y : MethodName} {bytes : ByteArray} {maxL : Nat} {ret : Option FieldType} {hh : List (Nat × Nat × Nat × Nat)}
    (hown : s.vm.findClass own = some m.cls) (hlink : (Cond.methodLink own index y).before args s = true) (hstat : (Cond.static y).before args s = true) (hinit : (Cond.initialized y.cls).before args s = true)
    (hcode : (Cond.codeWith y bytes maxL ret hh).before args s = true) (hy : y.cls ≠ "java/lang/invoke/MethodHandle" ∧ y.cls ≠ "java/lang/invoke/VarHandle")
    {W9 : Nat} {Pre : Pt → Array Value → Prop} {Post : Pt → Array Value → Option Value → Pt → Prop} {PostX : Pt → Array Value → Addr → Pt → Prop} (hK : vx_Back l R p e below s args y 3 W9 Pre Post PostX)
    {g : JFrame} (hg : g.method = m) (hsize : g.locals.size = c.maxLocals) {argsL rest : List Value} (hlen : ∀ sig, parseMethodDescriptor y.desc = some sig → argsL.length = sig.parameters.length)
    (hstack : g.stack = argsL.reverse ++ rest) (hW : 2 * g.monitorRoom + (rest.map fun v => v.category).sum ≤ W9) (hdg : decode c.code g.pc = .ok (.invokestatic index, 3))
    (hpre : ∀ vm₁, s.WarmedH vm₁ → Pre ⟨T.setVm vm₁, locs, cells, slots⟩ argsL.toArray) :
    (∃ (v : Option Value) (vm₁ : Vm) (B : Pt), s.WarmedH vm₁ ∧ Stand p l e R s m args below meth c B.U B.locs B.cells B.slots ∧ Post ⟨T.setVm vm₁, locs, cells, slots⟩ argsL.toArray v B ∧
      ∀ target, Steps p.tables e below (B.U.setTop { g with pc := g.pc + 3, stack := v.toList ++ rest }) target → Steps p.tables e below (T.setTop g) target) ∨
    (∃ (q : Addr) (vm₁ : Vm) (B : Pt), s.WarmedH vm₁ ∧ Stand p l e R s m args below meth c B.U B.locs B.cells B.slots ∧ PostX ⟨T.setVm vm₁, locs, cells, slots⟩ argsL.toArray q B ∧
      Steps p.tables e below (T.setTop g) ((B.U.setTop { g with stack := rest }).pushFrame (.throwing q))) := by
  obtain ⟨mk, methM, cM, hnamed, hmethM, -, -, -, -, -, -, hsigM⟩ := Cond.codeWith_spec hcode
  have hstatic : methM.isStatic = true := Cond.static_spec hnamed hmethM hstat
  obtain ⟨kP, hkP, -⟩ := className_of_methodNamed hnamed
  have hinitP : kP.init = .initialized := Cond.initialized_spec (findClass_of_methodNamed hnamed) hkP hinit
  obtain ⟨vm₁, X₁, hstep₁⟩ := X.invokestatic hexec hown hlink hnamed hmethM hstatic hkP hinitP hy (g := g) hg (argsL := argsL) (rest := rest) (hlen _ hsigM) hstack hdg
  rcases hK m meth c ⟨T.setVm vm₁, locs, cells, slots⟩ { g with stack := rest } (.invokestatic index) mk argsL.toArray X₁ hg hsize hdg hW (X₁.named hnamed) (hpre vm₁ X₁.warmed) with ⟨v, B, X', hpost, hsteps⟩ | ⟨q, B, X', hpost, hsteps⟩
  · exact Or.inl ⟨v, vm₁, B, X₁.warmed, X', hpost, fun target h => hstep₁ _ fun acts => by rw [doInvoke_state]; exact hsteps.trans h⟩
  · exact Or.inr ⟨q, vm₁, B, X₁.warmed, X', hpost, hstep₁ _ fun acts => by rw [doInvoke_state]; exact hsteps⟩
theorem vx_callVW (X : Stand p l e R s m args below meth c T locs cells slots) (hexec : p.tables.exec = Jvm.exec) {own C : String} {index : Nat} {y : MethodName} {bytes : ByteArray} {maxL : Nat} {ret : Option FieldType} {hh : List (Nat × Nat × Nat × Nat)}
    (hown : s.vm.findClass own = some m.cls) (hlink : (Cond.methodLink own index y).before args s = true) (hinst : (Cond.instanceMethod y).before args s = true) (hsel : (Cond.selects C y y).before args s = true)
    (hcode : (Cond.codeWith y bytes maxL ret hh).before args s = true) (hy : y.cls ≠ "java/lang/invoke/MethodHandle" ∧ y.cls ≠ "java/lang/invoke/VarHandle")
    {W9 : Nat} {Pre : Pt → Array Value → Prop} {Post : Pt → Array Value → Option Value → Pt → Prop} (hK : Back l R p e below s args y 3 W9 Pre Post)
    {b : Addr} {cellB : Cell} (hcell : T.heap[b]? = some cellB) (hobj : cellB.vm.isStatics = false) (hcls : s.vm.findClass C = some cellB.cls)
    {g : JFrame} (hg : g.method = m) (hsize : g.locals.size = c.maxLocals) {argsL rest : List Value} (hlen : ∀ sig, parseMethodDescriptor y.desc = some sig → argsL.length = sig.parameters.length)
    (hstack : g.stack = argsL.reverse ++ .ref b :: rest) (hW : 2 * g.monitorRoom + (rest.map fun v => v.category).sum ≤ W9) (hdg : decode c.code g.pc = .ok (.invokevirtual index, 3))
    (hpre : ∀ vm₁, s.WarmedH vm₁ → Pre ⟨T.setVm vm₁, locs, cells, slots⟩ (Value.ref b :: argsL).toArray) :
    ∃ (v : Option Value) (vm₁ : Vm) (B : Pt), s.WarmedH vm₁ ∧ Stand p l e R s m args below meth c B.U B.locs B.cells B.slots ∧ Post ⟨T.setVm vm₁, locs, cells, slots⟩ (Value.ref b :: argsL).toArray v B ∧
      ∀ target, Steps p.tables e below (B.U.setTop { g with pc := g.pc + 3, stack := v.toList ++ rest }) target → Steps p.tables e below (T.setTop g) target := by
  obtain ⟨mk, methM, hnamed, hmethM, hstM, habM⟩ := Cond.instanceMethod_spec hinst
  obtain ⟨m8, methM', cM, hn8, hmethM', -, -, -, -, -, -, hsigM⟩ := Cond.codeWith_spec hcode
  cases Option.some.inj (hn8.symm.trans hnamed)
  cases hmethM.symm.trans hmethM'
  obtain ⟨c2, r2, m2, q1, q2, q3, q4, kP, hkP, hkPi⟩ := Cond.selects_spec hsel
  cases hcls.symm.trans q1
  cases (State.methodFound?_of_named hnamed hy).symm.trans q2
  cases hnamed.symm.trans q3
  have hselP : selectMethod e.platform s.vm cellB.cls mk = .method mk := by rw [Launch.admits_selectMethod X.admits]; exact q4
  obtain ⟨vm₁, X₁, hstep₁⟩ := X.invokevirtual hexec hown hlink hnamed hmethM hstM hkP hkPi hy (a := b) (cell := cellB) hcell
    (fun z h => by rw [h] at hobj; cases hobj) hselP hmethM habM hkP hkPi (g := g) hg (argsL := argsL) (rest := rest) (hlen _ hsigM) hstack hdg
  obtain ⟨v, B, X', hpost, hsteps⟩ := hK m meth c ⟨T.setVm vm₁, locs, cells, slots⟩ { g with stack := rest } (.invokevirtual index) mk (Value.ref b :: argsL).toArray X₁ hg hsize hdg hW (X₁.named hnamed) (hpre vm₁ X₁.warmed)
  exact ⟨v, vm₁, B, X₁.warmed, X', hpost, fun target h => hstep₁ _ fun acts => by rw [doInvoke_state]; exact hsteps.trans h⟩
abbrev vx_CVW (R : Room) (s : State) (args : Array Value) (own C : String) (index : Nat) (y : MethodName) (bytes : ByteArray) (maxL : Nat) (ret : Option FieldType) (hh : List (Nat × Nat × Nat × Nat)) (ws : List Cond) (rm : Room) (mc ms n : Nat) : Prop :=
  (rm.cells = mc ∧ rm.slots = ms ∧ rm.frames + 1 ≤ R.frames ∧ 8 + (maxL + 11) + rm.locals ≤ R.locals ∧ (∀ w ∈ ws, ∀ (a' : Array Value) (U : State), s.WarmedH U.vm → w.before a' U = true) ∧ Cond.codeWith y bytes maxL ret hh ∈ ws) ∧
  (Cond.codeWith y bytes maxL ret hh).before args s = true ∧ (Cond.initialized y.cls).before args s = true ∧ (y.cls ≠ "java/lang/invoke/MethodHandle" ∧ y.cls ≠ "java/lang/invoke/VarHandle") ∧
  (∀ sig, parseMethodDescriptor y.desc = some sig → n = sig.parameters.length) ∧ (Cond.methodLink own index y).before args s = true ∧ (Cond.instanceMethod y).before args s = true ∧ (Cond.selects C y y).before args s = true
theorem vx_cwVW {own C : String} {index maxL mc ms : Nat} {y : MethodName} {bytes : ByteArray} {ret : Option FieldType} {hh : List (Nat × Nat × Nat × Nat)} {Ts ws ws' : List Cond} {rm : Room} (n : Nat) (ht : ∀ w ∈ Ts, w.before args s = true) (hT : GoodIn Ts (wsV own index C y ws)) (hw : ws = Cond.codeWith y bytes maxL ret hh :: ws') (hrc : rm.cells = mc) (hrs : rm.slots = ms)
    (hd : y.cls = C ∧ y.cls ≠ "java/lang/invoke/MethodHandle" ∧ y.cls ≠ "java/lang/invoke/VarHandle" ∧ (parseMethodDescriptor y.desc).map (fun d => d.parameters.length) = some n) (hR : rm.frames + 1 ≤ R.frames ∧ 8 + (maxL + 11) + rm.locals ≤ R.locals) :
    vx_CVW R s args own C index y bytes maxL ret hh ws rm mc ms n := by
  obtain ⟨hC, hd⟩ := hd
  subst hC
  have ok : ∀ w ∈ wsV own index y.cls y ws, w.before args s = true := fun w h => ht w (hT w h).1
  have hG : GoodIn Ts ws := fun w h => hT w (by unfold wsV; exact List.mem_append_right _ h)
  have hc : Cond.codeWith y bytes maxL ret hh ∈ ws := by rw [hw]; exact List.mem_cons_self
  refine ⟨⟨hrc, hrs, hR.1, hR.2, pay_in ht hG, hc⟩, ht _ (hG _ hc).1, ok _ (by simp [wsV]), ⟨hd.1, hd.2.1⟩, fun sig h => ?_, ok _ (by simp [wsV]), ok _ (by simp [wsV]), ok _ (by simp [wsV])⟩
  have h2 := hd.2.2
  rw [h] at h2
  exact (Option.some.inj h2).symm
theorem vx_runVW {y : MethodName} {bytes cc : ByteArray} {maxL nL mc ms n index : Nat} {ret : Option FieldType} {hh : List (Nat × Nat × Nat × Nat)} {ws : List Cond} {rm : Room} {Pc : Array Value → State → Prop} {Qc : Array Value → State → Outcome → State → Prop} {free : Addr → Prop} {Ts : List Cond} {own C : String} {b : Addr} {As rest : List Value} {g : JFrame}
    (S : CallFix p m c cc nL s args Ts own) (hM : Met l y ws rm Pc Qc mc ms free) (cw : vx_CVW R s args own C index y bytes maxL ret hh ws rm mc ms n) (hp : PreV s H C b Pc As)
    (hg : g.method = m) (hn : As.length = n) (hsize : g.locals.size = nL) (hstack : g.stack = As.reverse ++ .ref b :: rest) (hW : 2 * g.monitorRoom + (rest.map fun v => v.category).sum ≤ 8) (hdg : decode cc g.pc = .ok (.invokevirtual index, 3)) (hf : cells + mc ≤ R.cells ∧ slots + ms ≤ R.slots) :
    va_Run p l e R s m args below meth c H locs cells slots mc ms g rest (Qc (Value.ref b :: As).toArray) free := by
  obtain ⟨⟨hrc, hrs, hfr, hlo, hws, hcw⟩, hcode, hini, hy, hlen, hl, hin, hse⟩ := cw
  have hK : Back l R p e below s args y 3 8 (PreOf R mc ms Pc) (PostOf Qc mc ms free) := va_backW (hh := hh) (bytes := bytes) (maxL := maxL) (ret := ret) hM hp.1 hrc hrs hfr hlo hws hcw (fun a' U hW => word_at hW (Or.inl (by first | rfl | simp [Cond.onTables, Cond.keeps, Cond.steady])) hini)
  obtain ⟨hx, hb, hml, ho, -⟩ := S
  obtain ⟨-, ⟨cellB, hcB, hoB, hclB⟩, hPc⟩ := hp
  intro T hT X
  obtain ⟨v, vm₁, ⟨U', l2, c2, s2⟩, hW₁, X', ⟨g', mk, t, L, e1, e2, hq, h1, hL, h2, h3⟩, st⟩ := vx_callVW X hx (C := C) (hh := hh) (bytes := bytes) (maxL := maxL) (ret := ret) ho hl hin hse hcode hy hK (by rw [hT]; exact hcB) hoB hclB hg (hsize.trans hml.symm) (argsL := As) (rest := rest) (fun sig h => hn.trans (hlen sig h)) hstack hW (by rw [hb]; exact hdg)
    (fun vm₁ hW₁ => ⟨hf.1, hf.2, hPc (T.setVm vm₁) hT hW₁⟩)
  dsimp only [Pt.U, Pt.locs, Pt.cells, Pt.slots] at X' e1 e2 h1 h2 h3 st
  subst h1; subst h2; subst h3
  exact ⟨v, (T.setVm vm₁).calling g' mk (Value.ref b :: As).toArray, t, U', L, hT, X', hL, e1, e2, hq, st⟩
section
variable {y : MethodName} {bytes cc : ByteArray} {maxL nL mc ms n index : Nat} {ret : Option FieldType} {ws : List Cond} {rm : Room} {Pc : Array Value → State → Prop} {Qc : Array Value → State → Outcome → State → Prop} {XC : String → State → State → Prop} {free : Addr → Prop} {Ts : List Cond} {own C : String} {b : Addr} {As rest : List Value} {g : JFrame}
theorem vx_runVX {hh : List (Nat × Nat × Nat × Nat)} (S : CallFix p m c cc nL s args Ts own) (hM : vx_Met l y ws rm Pc Qc XC mc ms free) (cw : vx_CVW R s args own C index y bytes maxL ret hh ws rm mc ms n) (hp : PreV s H C b Pc As)
    (hg : g.method = m) (hn : As.length = n) (hsize : g.locals.size = nL) (hstack : g.stack = As.reverse ++ .ref b :: rest) (hW : 2 * g.monitorRoom + (rest.map fun v => v.category).sum ≤ 8) (hdg : decode cc g.pc = .ok (.invokevirtual index, 3)) (hf : cells + mc ≤ R.cells ∧ slots + ms ≤ R.slots) :
    vx_Run p l e R s m args below meth c H locs cells slots mc ms g rest (Qc (Value.ref b :: As).toArray) XC free := by
  obtain ⟨⟨hrc, hrs, hfr, hlo, hws, hcw⟩, hcode, hini, hy, hlen, hl, hin, hse⟩ := cw
  have hK : vx_Back l R p e below s args y 3 8 (PreOf R mc ms Pc) (PostOf Qc mc ms free) (vx_Post XC mc ms free) := vx_backW (hh := hh) (bytes := bytes) (maxL := maxL) (ret := ret) hM hp.1 hrc hrs hfr hlo hws hcw (fun a' U hW => word_at hW (Or.inl (by first | rfl | simp [Cond.onTables, Cond.keeps, Cond.steady])) hini)
  obtain ⟨hx, hb, hml, ho, -⟩ := S
  obtain ⟨-, ⟨cellB, hcB, hoB, hclB⟩, hPc⟩ := hp
  intro T hT X
  rcases vx_callVX X hx (C := C) (hh := hh) (bytes := bytes) (maxL := maxL) (ret := ret) ho hl hin hse hcode hy hK (by rw [hT]; exact hcB) hoB hclB hg (hsize.trans hml.symm) (argsL := As) (rest := rest) (fun sig h => hn.trans (hlen sig h)) hstack hW (by rw [hb]; exact hdg)
    (fun vm₁ hW₁ => ⟨hf.1, hf.2, hPc (T.setVm vm₁) hT hW₁⟩) with ⟨v, vm₁, ⟨U', l2, c2, s2⟩, hW₁, X', ⟨g', mk, t, L, e1, e2, hq, h1, hL, h2, h3⟩, st⟩ | ⟨q, vm₁, ⟨U', l2, c2, s2⟩, hW₁, X', ⟨g', mk, t, L, E, ce, e1, e2, hq, hce, hcv, hcl, h1, hL, h2, h3⟩, st⟩
  · dsimp only [Pt.U, Pt.locs, Pt.cells, Pt.slots] at X' e1 e2 h1 h2 h3 st
    subst h1; subst h2; subst h3
    exact Or.inl ⟨v, (T.setVm vm₁).calling g' mk (Value.ref b :: As).toArray, t, U', L, hT, X', hL, e1, e2, hq, st⟩
  · dsimp only [Pt.U, Pt.locs, Pt.cells, Pt.slots] at X' e1 e2 h1 h2 h3 st hcl
    subst h1; subst h2; subst h3
    exact Or.inr ⟨q, (T.setVm vm₁).calling g' mk (Value.ref b :: As).toArray, t, U', L, E, ce, hT, X', hL, e1, e2, hq, hce, hcv, vx_cls hW₁ hcl, st⟩
theorem vx_runSX {hh : List (Nat × Nat × Nat × Nat)} (S : CallFix p m c cc nL s args Ts own) (hM : vx_Met l y ws rm Pc Qc XC mc ms free) (cw : vx_CSW R s args own index y bytes maxL ret hh ws rm mc ms n) (hp : PreS s H Pc As)
    (hg : g.method = m) (hn : As.length = n) (hsize : g.locals.size = nL) (hstack : g.stack = As.reverse ++ rest) (hW : 2 * g.monitorRoom + (rest.map fun v => v.category).sum ≤ 8) (hdg : decode cc g.pc = .ok (.invokestatic index, 3)) (hf : cells + mc ≤ R.cells ∧ slots + ms ≤ R.slots) :
    vx_Run p l e R s m args below meth c H locs cells slots mc ms g rest (Qc As.toArray) XC free := by
  obtain ⟨⟨hrc, hrs, hfr, hlo, hws, hcw⟩, hcode, hini, hy, hlen, hl, hstt⟩ := cw
  have hK : vx_Back l R p e below s args y 3 8 (PreOf R mc ms Pc) (PostOf Qc mc ms free) (vx_Post XC mc ms free) := vx_backW (hh := hh) (bytes := bytes) (maxL := maxL) (ret := ret) hM hp.1 hrc hrs hfr hlo hws hcw (fun a' U hW => word_at hW (Or.inl (by first | rfl | simp [Cond.onTables, Cond.keeps, Cond.steady])) hini)
  obtain ⟨hx, hb, hml, ho, -⟩ := S
  intro T hT X
  rcases vx_callSX X hx (hh := hh) (bytes := bytes) (maxL := maxL) (ret := ret) ho hl hstt hini hcode hy hK hg (hsize.trans hml.symm) (argsL := As) (rest := rest) (fun sig h => hn.trans (hlen sig h)) hstack hW (by rw [hb]; exact hdg)
    (fun vm₁ hW₁ => ⟨hf.1, hf.2, hp.2 (T.setVm vm₁) hT hW₁⟩) with ⟨v, vm₁, ⟨U', l2, c2, s2⟩, hW₁, X', ⟨g', mk, t, L, e1, e2, hq, h1, hL, h2, h3⟩, st⟩ | ⟨q, vm₁, ⟨U', l2, c2, s2⟩, hW₁, X', ⟨g', mk, t, L, E, ce, e1, e2, hq, hce, hcv, hcl, h1, hL, h2, h3⟩, st⟩
  · dsimp only [Pt.U, Pt.locs, Pt.cells, Pt.slots] at X' e1 e2 h1 h2 h3 st
    subst h1; subst h2; subst h3
    exact Or.inl ⟨v, (T.setVm vm₁).calling g' mk As.toArray, t, U', L, hT, X', hL, e1, e2, hq, st⟩
  · dsimp only [Pt.U, Pt.locs, Pt.cells, Pt.slots] at X' e1 e2 h1 h2 h3 st hcl
    subst h1; subst h2; subst h3
    exact Or.inr ⟨q, (T.setVm vm₁).calling g' mk As.toArray, t, U', L, E, ce, hT, X', hL, e1, e2, hq, hce, hcv, vx_cls hW₁ hcl, st⟩
end
end VXH
theorem vx_ofWH {l : Launch} {y : MethodName} {ws ws' : List Cond} {rm : Room} {Pc : Array Value → State → Prop} {Qc : Array Value → State → Outcome → State → Prop} {XC : String → State → State → Prop} {mc ms : Nat} {free : Addr → Prop} {cc : ByteArray} {maxL : Nat} {ret : Option FieldType} {hh : List (Nat × Nat × Nat × Nat)}
    (hy : plainName y.cls = true) (hw : ws = Cond.codeWith y cc maxL ret hh :: ws')
    (body : ∀ p e s m args below meth c s₁, BodyLoose p l y (headSpec ws rm) cc maxL ret e s m args below meth c s₁ → c.maxLocals = maxL → Pc args s →
      W p l e (headSpec ws rm).room s m args below meth c s.heap [] 0 0 (vx_MQ below Qc XC args s mc ms free) (entryFrame m args maxL)) : vx_Met l y ws rm Pc Qc XC mc ms free := by
  refine MetFree.of_bodyS (code := cc) (maxLocals := maxL) (ret := ret) hy ?_ ?_
  · intro args s m h hn
    obtain ⟨m9, meth, c, hn9, h1, h2, h3, h4, -, h5, h6, -⟩ := Cond.codeWith_spec (atoms_spec (ws := ws) h _ (by rw [hw]; exact List.mem_cons_self))
    cases hn.symm.trans hn9
    exact ⟨meth, c, h1, h2, h3, h4, h5, h6⟩
  · intro p e s m args below meth c s₁ B hml hP _
    have hh0 : s₁.heap = s.heap := by rw [B.state]; rfl
    obtain ⟨t, a1, o, b1, b2, b3⟩ := body p e s m args below meth c s₁ B hml hP s₁ hh0 (Stand.of_body B)
    exact ⟨t, o, a1, b1, b2, b3⟩
/-! ===== END ===== -/

/-! ===== BEGIN printed: names, fields, word lists, decode rows ===== -/
def RX0 : String := "ShardHarbour$Change"
def TX0 : u_T := fun k => match k with
  | 0 => ("ShardHarbour$Change", "hour", "I", true)
  | 1 => ("ShardHarbour$Change", "earlier", "LShardHarbour$Change;", true)
  | 2 => ("ShardHarbour$Change", "tenantBefore", "I", false)
  | 3 => ("ShardHarbour$Change", "bytesBefore", "I", false)
  | 4 => ("ShardHarbour$Change", "tenantBehind", "I", false)
  | _ => ("ShardHarbour$Change", "bytesBehind", "I", false)
def tyX0 : Nat → FieldType := fun k => match k with
  | 0 => .int
  | 1 => .object "ShardHarbour$Change"
  | 2 => .int
  | 3 => .int
  | 4 => .int
  | _ => .int
abbrev wsX00 : List Cond := u_ws RX0 TX0 6
theorem nmX0 : ∀ a, a < 6 → ∀ b, b < 6 → a ≠ b → (TX0 a).2.1 ≠ (TX0 b).2.1 := by decide +kernel
theorem tyX0_ok : ∀ k, k < 6 → parseFieldDescriptor (TX0 k).2.2.1 = some (tyX0 k) := by decide +kernel
abbrev cX0_init : ByteArray := prog_2_method_1_code
def yX0_init : MethodName := ⟨RX0, "<init>", "(ILShardHarbour$Change;)V"⟩
abbrev cX0_setBefore : ByteArray := prog_2_method_2_code
def yX0_setBefore : MethodName := ⟨RX0, "setBefore", "(II)V"⟩
abbrev cX0_setBehind : ByteArray := prog_2_method_3_code
def yX0_setBehind : MethodName := ⟨RX0, "setBehind", "(II)V"⟩
abbrev cX0_moreBytesOf : ByteArray := prog_2_method_4_code
def yX0_moreBytesOf : MethodName := ⟨RX0, "moreBytesOf", "(I)I"⟩
def RX1 : String := "ShardHarbour$CutOver"
def TX1 : u_T := fun k => match k with
  | 0 => ("ShardHarbour$CutOver", "first", "I", true)
  | 1 => ("ShardHarbour$CutOver", "last", "I", true)
  | 2 => ("ShardHarbour$CutOver", "machine", "I", true)
  | _ => ("ShardHarbour$CutOver", "earlier", "LShardHarbour$CutOver;", true)
def tyX1 : Nat → FieldType := fun k => match k with
  | 0 => .int
  | 1 => .int
  | 2 => .int
  | _ => .object "ShardHarbour$CutOver"
abbrev wsX10 : List Cond := u_ws RX1 TX1 4
theorem nmX1 : ∀ a, a < 4 → ∀ b, b < 4 → a ≠ b → (TX1 a).2.1 ≠ (TX1 b).2.1 := by decide +kernel
theorem tyX1_ok : ∀ k, k < 4 → parseFieldDescriptor (TX1 k).2.2.1 = some (tyX1 k) := by decide +kernel
abbrev cX1_init : ByteArray := prog_3_method_1_code
def yX1_init : MethodName := ⟨RX1, "<init>", "(IIILShardHarbour$CutOver;)V"⟩
def RX2 : String := "ShardHarbour$Machine"
def TX2 : u_T := fun k => match k with
  | 0 => ("ShardHarbour$Machine", "number", "I", true)
  | 1 => ("ShardHarbour$Machine", "room", "I", false)
  | 2 => ("ShardHarbour$Machine", "isUp", "Z", false)
  | _ => ("ShardHarbour$Machine", "held", "I", false)
def tyX2 : Nat → FieldType := fun k => match k with
  | 0 => .int
  | 1 => .int
  | 2 => .boolean
  | _ => .int
abbrev wsX20 : List Cond := u_ws RX2 TX2 4
theorem nmX2 : ∀ a, a < 4 → ∀ b, b < 4 → a ≠ b → (TX2 a).2.1 ≠ (TX2 b).2.1 := by decide +kernel
theorem tyX2_ok : ∀ k, k < 4 → parseFieldDescriptor (TX2 k).2.2.1 = some (tyX2 k) := by decide +kernel
abbrev cX2_init : ByteArray := prog_4_method_1_code
def yX2_init : MethodName := ⟨RX2, "<init>", "(I)V"⟩
abbrev cX2_hasRoomFor : ByteArray := prog_4_method_2_code
def yX2_hasRoomFor : MethodName := ⟨RX2, "hasRoomFor", "(I)Z"⟩
def RX3 : String := "ShardHarbour$Shard"
def TX3 : u_T := fun k => match k with
  | 0 => ("ShardHarbour$Shard", "first", "I", false)
  | 1 => ("ShardHarbour$Shard", "last", "I", false)
  | 2 => ("ShardHarbour$Shard", "home", "LShardHarbour$Machine;", false)
  | 3 => ("ShardHarbour$Shard", "target", "LShardHarbour$Machine;", false)
  | 4 => ("ShardHarbour$Shard", "nextToCopy", "I", false)
  | 5 => ("ShardHarbour$Shard", "mayCopy", "I", false)
  | 6 => ("ShardHarbour$Shard", "copied", "I", false)
  | 7 => ("ShardHarbour$Shard", "bytes", "I", false)
  | _ => ("ShardHarbour$Shard", "heat", "I", false)
def tyX3 : Nat → FieldType := fun k => match k with
  | 0 => .int
  | 1 => .int
  | 2 => .object "ShardHarbour$Machine"
  | 3 => .object "ShardHarbour$Machine"
  | 4 => .int
  | 5 => .int
  | 6 => .int
  | 7 => .int
  | _ => .int
abbrev wsX30 : List Cond := u_ws RX3 TX3 9
theorem nmX3 : ∀ a, a < 9 → ∀ b, b < 9 → a ≠ b → (TX3 a).2.1 ≠ (TX3 b).2.1 := by decide +kernel
theorem tyX3_ok : ∀ k, k < 9 → parseFieldDescriptor (TX3 k).2.2.1 = some (tyX3 k) := by decide +kernel
abbrev cX3_init : ByteArray := prog_5_method_1_code
def yX3_init : MethodName := ⟨RX3, "<init>", "(LShardHarbour$Machine;)V"⟩
abbrev cX3_isMoving : ByteArray := prog_5_method_2_code
def yX3_isMoving : MethodName := ⟨RX3, "isMoving", "()Z"⟩
abbrev cX3_hasCopied : ByteArray := prog_5_method_3_code
def yX3_hasCopied : MethodName := ⟨RX3, "hasCopied", "(I)Z"⟩
abbrev cX3_aimAt : ByteArray := prog_5_method_4_code
def yX3_aimAt : MethodName := ⟨RX3, "aimAt", "(LShardHarbour$Machine;)V"⟩
abbrev cX3_takeCopy : ByteArray := prog_5_method_5_code
def yX3_takeCopy : MethodName := ⟨RX3, "takeCopy", "(I)V"⟩
def RX4 : String := "ShardHarbour$Tenant"
def TX4 : u_T := fun k => match k with
  | 0 => ("ShardHarbour$Tenant", "bytes", "I", false)
  | 1 => ("ShardHarbour$Tenant", "quota", "I", false)
  | _ => ("ShardHarbour$Tenant", "bill", "I", false)
def tyX4 : Nat → FieldType := fun k => match k with
  | 0 => .int
  | 1 => .int
  | _ => .int
abbrev wsX40 : List Cond := u_ws RX4 TX4 3
theorem nmX4 : ∀ a, a < 3 → ∀ b, b < 3 → a ≠ b → (TX4 a).2.1 ≠ (TX4 b).2.1 := by decide +kernel
theorem tyX4_ok : ∀ k, k < 3 → parseFieldDescriptor (TX4 k).2.2.1 = some (tyX4 k) := by decide +kernel
abbrev cX4_init : ByteArray := prog_6_method_1_code
def yX4_init : MethodName := ⟨RX4, "<init>", "()V"⟩
def RX5 : String := "ShardHarbour"
def TX5 : u_T := fun k => match k with
  | 0 => ("ShardHarbour", "nowhere", "LShardHarbour$Machine;", true)
  | 1 => ("ShardHarbour", "bytesAt", "[I", true)
  | 2 => ("ShardHarbour", "tenantAt", "[I", true)
  | 3 => ("ShardHarbour", "tenants", "[LShardHarbour$Tenant;", true)
  | 4 => ("ShardHarbour", "machines", "[LShardHarbour$Machine;", true)
  | 5 => ("ShardHarbour", "machineCount", "I", false)
  | 6 => ("ShardHarbour", "shards", "[LShardHarbour$Shard;", true)
  | 7 => ("ShardHarbour", "shardCount", "I", false)
  | 8 => ("ShardHarbour", "hour", "I", false)
  | 9 => ("ShardHarbour", "heatLimit", "I", false)
  | 10 => ("ShardHarbour", "movesDone", "I", false)
  | 11 => ("ShardHarbour", "movesFailed", "I", false)
  | 12 => ("ShardHarbour", "lastChange", "LShardHarbour$Change;", false)
  | 13 => ("ShardHarbour", "changeCount", "I", false)
  | _ => ("ShardHarbour", "lastCutOver", "LShardHarbour$CutOver;", false)
def tyX5 : Nat → FieldType := fun k => match k with
  | 0 => .object "ShardHarbour$Machine"
  | 1 => .array .int
  | 2 => .array .int
  | 3 => .array (.object "ShardHarbour$Tenant")
  | 4 => .array (.object "ShardHarbour$Machine")
  | 5 => .int
  | 6 => .array (.object "ShardHarbour$Shard")
  | 7 => .int
  | 8 => .int
  | 9 => .int
  | 10 => .int
  | 11 => .int
  | 12 => .object "ShardHarbour$Change"
  | 13 => .int
  | _ => .object "ShardHarbour$CutOver"
abbrev wsX50 : List Cond := u_ws RX5 TX5 15
theorem nmX5 : ∀ a, a < 15 → ∀ b, b < 15 → a ≠ b → (TX5 a).2.1 ≠ (TX5 b).2.1 := by decide +kernel
theorem tyX5_ok : ∀ k, k < 15 → parseFieldDescriptor (TX5 k).2.2.1 = some (tyX5 k) := by decide +kernel
abbrev cX5_init : ByteArray := prog_1_method_1_code
def yX5_init : MethodName := ⟨RX5, "<init>", "()V"⟩
abbrev cX5_machine : ByteArray := prog_1_method_2_code
def yX5_machine : MethodName := ⟨RX5, "machine", "(I)I"⟩
abbrev cX5_down : ByteArray := prog_1_method_3_code
def yX5_down : MethodName := ⟨RX5, "down", "(IZ)Z"⟩
abbrev cX5_quota : ByteArray := prog_1_method_4_code
def yX5_quota : MethodName := ⟨RX5, "quota", "(II)I"⟩
abbrev cX5_limit : ByteArray := prog_1_method_5_code
def yX5_limit : MethodName := ⟨RX5, "limit", "(I)I"⟩
abbrev cX5_write : ByteArray := prog_1_method_6_code
def yX5_write : MethodName := ⟨RX5, "write", "(III)I"⟩
abbrev cX5_take : ByteArray := prog_1_method_7_code
def yX5_take : MethodName := ⟨RX5, "take", "(I)I"⟩
abbrev cX5_read : ByteArray := prog_1_method_8_code
def yX5_read : MethodName := ⟨RX5, "read", "(I)I"⟩
abbrev cX5_split : ByteArray := prog_1_method_9_code
def yX5_split : MethodName := ⟨RX5, "split", "(I)I"⟩
abbrev cX5_join : ByteArray := prog_1_method_10_code
def yX5_join : MethodName := ⟨RX5, "join", "(I)I"⟩
abbrev cX5_move : ByteArray := prog_1_method_11_code
def yX5_move : MethodName := ⟨RX5, "move", "(II)I"⟩
abbrev cX5_callOff : ByteArray := prog_1_method_12_code
def yX5_callOff : MethodName := ⟨RX5, "callOff", "(I)I"⟩
abbrev cX5_pass : ByteArray := prog_1_method_13_code
def yX5_pass : MethodName := ⟨RX5, "pass", "(I)I"⟩
abbrev cX5_hour : ByteArray := prog_1_method_14_code
def yX5_hour : MethodName := ⟨RX5, "hour", "()I"⟩
abbrev cX5_shards : ByteArray := prog_1_method_15_code
def yX5_shards : MethodName := ⟨RX5, "shards", "()I"⟩
abbrev cX5_shardOf : ByteArray := prog_1_method_16_code
def yX5_shardOf : MethodName := ⟨RX5, "shardOf", "(I)I"⟩
abbrev cX5_shard : ByteArray := prog_1_method_17_code
def yX5_shard : MethodName := ⟨RX5, "shard", "(II)I"⟩
abbrev cX5_machineOf : ByteArray := prog_1_method_18_code
def yX5_machineOf : MethodName := ⟨RX5, "machineOf", "(II)I"⟩
abbrev cX5_tenant : ByteArray := prog_1_method_19_code
def yX5_tenant : MethodName := ⟨RX5, "tenant", "(II)I"⟩
abbrev cX5_billAnew : ByteArray := prog_1_method_20_code
def yX5_billAnew : MethodName := ⟨RX5, "billAnew", "(I)I"⟩
abbrev cX5_whereAnew : ByteArray := prog_1_method_21_code
def yX5_whereAnew : MethodName := ⟨RX5, "whereAnew", "(I)I"⟩
abbrev cX5_moves : ByteArray := prog_1_method_22_code
def yX5_moves : MethodName := ⟨RX5, "moves", "(Z)I"⟩
abbrev cX5_isKey : ByteArray := prog_1_method_23_code
def yX5_isKey : MethodName := ⟨RX5, "isKey", "(I)Z"⟩
abbrev cX5_isTenant : ByteArray := prog_1_method_24_code
def yX5_isTenant : MethodName := ⟨RX5, "isTenant", "(I)Z"⟩
abbrev cX5_isMachine : ByteArray := prog_1_method_25_code
def yX5_isMachine : MethodName := ⟨RX5, "isMachine", "(I)Z"⟩
abbrev cX5_isShard : ByteArray := prog_1_method_26_code
def yX5_isShard : MethodName := ⟨RX5, "isShard", "(I)Z"⟩
abbrev cX5_numberOfShardWith : ByteArray := prog_1_method_27_code
def yX5_numberOfShardWith : MethodName := ⟨RX5, "numberOfShardWith", "(I)I"⟩
abbrev cX5_bytesBetween : ByteArray := prog_1_method_28_code
def yX5_bytesBetween : MethodName := ⟨RX5, "bytesBetween", "(II)I"⟩
abbrev cX5_heatOf : ByteArray := prog_1_method_29_code
def yX5_heatOf : MethodName := ⟨RX5, "heatOf", "(LShardHarbour$Machine;)I"⟩
abbrev cX5_shardCountOn : ByteArray := prog_1_method_30_code
def yX5_shardCountOn : MethodName := ⟨RX5, "shardCountOn", "(LShardHarbour$Machine;)I"⟩
abbrev cX5_mayChange : ByteArray := prog_1_method_31_code
def yX5_mayChange : MethodName := ⟨RX5, "mayChange", "(LShardHarbour$Shard;)Z"⟩
abbrev cX5_hasQuotaFor : ByteArray := prog_1_method_32_code
def yX5_hasQuotaFor : MethodName := ⟨RX5, "hasQuotaFor", "(III)Z"⟩
abbrev cX5_change : ByteArray := prog_1_method_33_code
def yX5_change : MethodName := ⟨RX5, "change", "(LShardHarbour$Shard;III)V"⟩
abbrev cX5_addToTenant : ByteArray := prog_1_method_34_code
def yX5_addToTenant : MethodName := ⟨RX5, "addToTenant", "(II)V"⟩
abbrev cX5_changeCopy : ByteArray := prog_1_method_35_code
def yX5_changeCopy : MethodName := ⟨RX5, "changeCopy", "(LShardHarbour$Shard;I)V"⟩
abbrev cX5_settleAllShardsOn : ByteArray := prog_1_method_36_code
def yX5_settleAllShardsOn : MethodName := ⟨RX5, "settleAllShardsOn", "(LShardHarbour$Machine;)V"⟩
abbrev cX5_cutInTwo : ByteArray := prog_1_method_37_code
def yX5_cutInTwo : MethodName := ⟨RX5, "cutInTwo", "(LShardHarbour$Shard;LShardHarbour$Shard;I)V"⟩
abbrev cX5_canBeJoined : ByteArray := prog_1_method_38_code
def yX5_canBeJoined : MethodName := ⟨RX5, "canBeJoined", "(LShardHarbour$Shard;LShardHarbour$Shard;)Z"⟩
abbrev cX5_failMovesOf : ByteArray := prog_1_method_39_code
def yX5_failMovesOf : MethodName := ⟨RX5, "failMovesOf", "(LShardHarbour$Machine;)V"⟩
abbrev cX5_failMove : ByteArray := prog_1_method_40_code
def yX5_failMove : MethodName := ⟨RX5, "failMove", "(LShardHarbour$Shard;)V"⟩
abbrev cX5_cutOver : ByteArray := prog_1_method_41_code
def yX5_cutOver : MethodName := ⟨RX5, "cutOver", "(LShardHarbour$Shard;)V"⟩
abbrev cX5_copyForOneHour : ByteArray := prog_1_method_42_code
def yX5_copyForOneHour : MethodName := ⟨RX5, "copyForOneHour", "(LShardHarbour$Shard;)V"⟩
abbrev cX5_passOneHour : ByteArray := prog_1_method_43_code
def yX5_passOneHour : MethodName := ⟨RX5, "passOneHour", "()V"⟩
abbrev cX5_drawMoveByHeat : ByteArray := prog_1_method_44_code
def yX5_drawMoveByHeat : MethodName := ⟨RX5, "drawMoveByHeat", "()V"⟩
abbrev cX5_hottestMachineUp : ByteArray := prog_1_method_45_code
def yX5_hottestMachineUp : MethodName := ⟨RX5, "hottestMachineUp", "()LShardHarbour$Machine;"⟩
abbrev cX5_coldestMachineUp : ByteArray := prog_1_method_46_code
def yX5_coldestMachineUp : MethodName := ⟨RX5, "coldestMachineUp", "()LShardHarbour$Machine;"⟩
abbrev cX5_movesAwayFrom : ByteArray := prog_1_method_47_code
def yX5_movesAwayFrom : MethodName := ⟨RX5, "movesAwayFrom", "(LShardHarbour$Machine;)Z"⟩
abbrev cX5_hottestShardOn : ByteArray := prog_1_method_48_code
def yX5_hottestShardOn : MethodName := ⟨RX5, "hottestShardOn", "(LShardHarbour$Machine;)I"⟩
def RX6 : String := "ShardHarbourModel"
def TX6 : u_T := fun k => match k with
  | 0 => ("ShardHarbourModel", "thrown", "I", false)
  | 1 => ("ShardHarbourModel", "hour", "I", false)
  | 2 => ("ShardHarbourModel", "machines", "I", false)
  | 3 => ("ShardHarbourModel", "room", "[I", true)
  | 4 => ("ShardHarbourModel", "isDown", "[Z", true)
  | 5 => ("ShardHarbourModel", "quota", "[I", true)
  | 6 => ("ShardHarbourModel", "bill", "[I", true)
  | 7 => ("ShardHarbourModel", "limit", "I", false)
  | 8 => ("ShardHarbourModel", "logged", "I", false)
  | 9 => ("ShardHarbourModel", "done", "I", false)
  | 10 => ("ShardHarbourModel", "failed", "I", false)
  | 11 => ("ShardHarbourModel", "owner", "[I", true)
  | 12 => ("ShardHarbourModel", "bytes", "[I", true)
  | 13 => ("ShardHarbourModel", "shards", "I", false)
  | 14 => ("ShardHarbourModel", "first", "[I", true)
  | 15 => ("ShardHarbourModel", "on", "[I", true)
  | 16 => ("ShardHarbourModel", "to", "[I", true)
  | 17 => ("ShardHarbourModel", "next", "[I", true)
  | 18 => ("ShardHarbourModel", "left", "[I", true)
  | _ => ("ShardHarbourModel", "heat", "[I", true)
def tyX6 : Nat → FieldType := fun k => match k with
  | 0 => .int
  | 1 => .int
  | 2 => .int
  | 3 => .array .int
  | 4 => .array .boolean
  | 5 => .array .int
  | 6 => .array .int
  | 7 => .int
  | 8 => .int
  | 9 => .int
  | 10 => .int
  | 11 => .array .int
  | 12 => .array .int
  | 13 => .int
  | 14 => .array .int
  | 15 => .array .int
  | 16 => .array .int
  | 17 => .array .int
  | 18 => .array .int
  | _ => .array .int
abbrev wsX60 : List Cond := u_ws RX6 TX6 20
theorem nmX6 : ∀ a, a < 20 → ∀ b, b < 20 → a ≠ b → (TX6 a).2.1 ≠ (TX6 b).2.1 := by decide +kernel
theorem tyX6_ok : ∀ k, k < 20 → parseFieldDescriptor (TX6 k).2.2.1 = some (tyX6 k) := by decide +kernel
abbrev cX6_init : ByteArray := prog_8_method_1_code
def yX6_init : MethodName := ⟨RX6, "<init>", "()V"⟩
abbrev cX6_thrown : ByteArray := prog_8_method_2_code
def yX6_thrown : MethodName := ⟨RX6, "thrown", "()I"⟩
abbrev cX6_in : ByteArray := prog_8_method_3_code
def yX6_in : MethodName := ⟨RX6, "in", "(III)Z"⟩
abbrev cX6_refused : ByteArray := prog_8_method_4_code
def yX6_refused : MethodName := ⟨RX6, "refused", "(I)Z"⟩
abbrev cX6_isKey : ByteArray := prog_8_method_5_code
def yX6_isKey : MethodName := ⟨RX6, "isKey", "(I)Z"⟩
abbrev cX6_isTenant : ByteArray := prog_8_method_6_code
def yX6_isTenant : MethodName := ⟨RX6, "isTenant", "(I)Z"⟩
abbrev cX6_isMachine : ByteArray := prog_8_method_7_code
def yX6_isMachine : MethodName := ⟨RX6, "isMachine", "(I)Z"⟩
abbrev cX6_isShard : ByteArray := prog_8_method_8_code
def yX6_isShard : MethodName := ⟨RX6, "isShard", "(I)Z"⟩
abbrev cX6_shardAt : ByteArray := prog_8_method_9_code
def yX6_shardAt : MethodName := ⟨RX6, "shardAt", "(I)I"⟩
abbrev cX6_sum : ByteArray := prog_8_method_10_code
def yX6_sum : MethodName := ⟨RX6, "sum", "(II)I"⟩
abbrev cX6_sizeOf : ByteArray := prog_8_method_11_code
def yX6_sizeOf : MethodName := ⟨RX6, "sizeOf", "(I)I"⟩
abbrev cX6_copied : ByteArray := prog_8_method_12_code
def yX6_copied : MethodName := ⟨RX6, "copied", "(I)I"⟩
abbrev cX6_held : ByteArray := prog_8_method_13_code
def yX6_held : MethodName := ⟨RX6, "held", "(I)I"⟩
abbrev cX6_bytesOf : ByteArray := prog_8_method_14_code
def yX6_bytesOf : MethodName := ⟨RX6, "bytesOf", "(I)I"⟩
abbrev cX6_rollBack : ByteArray := prog_8_method_15_code
def yX6_rollBack : MethodName := ⟨RX6, "rollBack", "(I)V"⟩
abbrev cX6_machine : ByteArray := prog_8_method_16_code
def yX6_machine : MethodName := ⟨RX6, "machine", "(I)I"⟩
abbrev cX6_down : ByteArray := prog_8_method_17_code
def yX6_down : MethodName := ⟨RX6, "down", "(IZ)Z"⟩
abbrev cX6_quota : ByteArray := prog_8_method_18_code
def yX6_quota : MethodName := ⟨RX6, "quota", "(II)I"⟩
abbrev cX6_limit : ByteArray := prog_8_method_19_code
def yX6_limit : MethodName := ⟨RX6, "limit", "(I)I"⟩
abbrev cX6_isCopied : ByteArray := prog_8_method_20_code
def yX6_isCopied : MethodName := ⟨RX6, "isCopied", "(II)Z"⟩
abbrev cX6_write : ByteArray := prog_8_method_21_code
def yX6_write : MethodName := ⟨RX6, "write", "(III)I"⟩
abbrev cX6_take : ByteArray := prog_8_method_22_code
def yX6_take : MethodName := ⟨RX6, "take", "(I)I"⟩
abbrev cX6_read : ByteArray := prog_8_method_23_code
def yX6_read : MethodName := ⟨RX6, "read", "(I)I"⟩
abbrev cX6_lay : ByteArray := prog_8_method_24_code
def yX6_lay : MethodName := ⟨RX6, "lay", "(II)V"⟩
abbrev cX6_split : ByteArray := prog_8_method_25_code
def yX6_split : MethodName := ⟨RX6, "split", "(I)I"⟩
abbrev cX6_join : ByteArray := prog_8_method_26_code
def yX6_join : MethodName := ⟨RX6, "join", "(I)I"⟩
abbrev cX6_begins : ByteArray := prog_8_method_27_code
def yX6_begins : MethodName := ⟨RX6, "begins", "(II)V"⟩
abbrev cX6_move : ByteArray := prog_8_method_28_code
def yX6_move : MethodName := ⟨RX6, "move", "(II)I"⟩
abbrev cX6_callOff : ByteArray := prog_8_method_29_code
def yX6_callOff : MethodName := ⟨RX6, "callOff", "(I)I"⟩
abbrev cX6_copies : ByteArray := prog_8_method_30_code
def yX6_copies : MethodName := ⟨RX6, "copies", "(I)V"⟩
abbrev cX6_heatOf : ByteArray := prog_8_method_31_code
def yX6_heatOf : MethodName := ⟨RX6, "heatOf", "(I)I"⟩
abbrev cX6_draw : ByteArray := prog_8_method_32_code
def yX6_draw : MethodName := ⟨RX6, "draw", "()V"⟩
abbrev cX6_pass : ByteArray := prog_8_method_33_code
def yX6_pass : MethodName := ⟨RX6, "pass", "(I)I"⟩
abbrev cX6_hour : ByteArray := prog_8_method_34_code
def yX6_hour : MethodName := ⟨RX6, "hour", "()I"⟩
abbrev cX6_shards : ByteArray := prog_8_method_35_code
def yX6_shards : MethodName := ⟨RX6, "shards", "()I"⟩
abbrev cX6_shardOf : ByteArray := prog_8_method_36_code
def yX6_shardOf : MethodName := ⟨RX6, "shardOf", "(I)I"⟩
abbrev cX6_shard : ByteArray := prog_8_method_37_code
def yX6_shard : MethodName := ⟨RX6, "shard", "(II)I"⟩
abbrev cX6_machineOf : ByteArray := prog_8_method_38_code
def yX6_machineOf : MethodName := ⟨RX6, "machineOf", "(II)I"⟩
abbrev cX6_tenant : ByteArray := prog_8_method_39_code
def yX6_tenant : MethodName := ⟨RX6, "tenant", "(II)I"⟩
abbrev cX6_billAnew : ByteArray := prog_8_method_40_code
def yX6_billAnew : MethodName := ⟨RX6, "billAnew", "(I)I"⟩
abbrev cX6_whereAnew : ByteArray := prog_8_method_41_code
def yX6_whereAnew : MethodName := ⟨RX6, "whereAnew", "(I)I"⟩
abbrev cX6_moves : ByteArray := prog_8_method_42_code
def yX6_moves : MethodName := ⟨RX6, "moves", "(Z)I"⟩
def RJ0 : String := "java/lang/String"
def TJ0 : u_T := fun k => match k with
  | _ => ("", "", "", false)
def tyJ0 : Nat → FieldType := fun k => match k with
  | _ => .int
abbrev wsJ00 : List Cond := u_ws RJ0 TJ0 0
theorem nmJ0 : ∀ a, a < 0 → ∀ b, b < 0 → a ≠ b → (TJ0 a).2.1 ≠ (TJ0 b).2.1 := by decide +kernel
theorem tyJ0_ok : ∀ k, k < 0 → parseFieldDescriptor (TJ0 k).2.2.1 = some (tyJ0 k) := by decide +kernel
def RL : String := "ShardHarbourLaw"
abbrev cL_machine : ByteArray := method_3_code
def yL_machine : MethodName := ⟨RL, "machine", "(LShardHarbour;I[J)I"⟩
abbrev cL_down : ByteArray := method_4_code
def yL_down : MethodName := ⟨RL, "down", "(LShardHarbour;IZ[J)I"⟩
abbrev cL_quota : ByteArray := method_5_code
def yL_quota : MethodName := ⟨RL, "quota", "(LShardHarbour;II[J)I"⟩
abbrev cL_limit : ByteArray := method_6_code
def yL_limit : MethodName := ⟨RL, "limit", "(LShardHarbour;I[J)I"⟩
abbrev cL_write : ByteArray := method_7_code
def yL_write : MethodName := ⟨RL, "write", "(LShardHarbour;III[J)I"⟩
abbrev cL_take : ByteArray := method_8_code
def yL_take : MethodName := ⟨RL, "take", "(LShardHarbour;I[J)I"⟩
abbrev cL_read : ByteArray := method_9_code
def yL_read : MethodName := ⟨RL, "read", "(LShardHarbour;I[J)I"⟩
abbrev cL_split : ByteArray := method_10_code
def yL_split : MethodName := ⟨RL, "split", "(LShardHarbour;I[J)I"⟩
abbrev cL_join : ByteArray := method_11_code
def yL_join : MethodName := ⟨RL, "join", "(LShardHarbour;I[J)I"⟩
abbrev cL_move : ByteArray := method_12_code
def yL_move : MethodName := ⟨RL, "move", "(LShardHarbour;II[J)I"⟩
abbrev cL_callOff : ByteArray := method_13_code
def yL_callOff : MethodName := ⟨RL, "callOff", "(LShardHarbour;I[J)I"⟩
abbrev cL_pass : ByteArray := method_14_code
def yL_pass : MethodName := ⟨RL, "pass", "(LShardHarbour;I[J)I"⟩
abbrev cL_shardOf : ByteArray := method_15_code
def yL_shardOf : MethodName := ⟨RL, "shardOf", "(LShardHarbour;I[J)I"⟩
abbrev cL_shard : ByteArray := method_16_code
def yL_shard : MethodName := ⟨RL, "shard", "(LShardHarbour;II[J)I"⟩
abbrev cL_machineOf : ByteArray := method_17_code
def yL_machineOf : MethodName := ⟨RL, "machineOf", "(LShardHarbour;II[J)I"⟩
abbrev cL_tenant : ByteArray := method_18_code
def yL_tenant : MethodName := ⟨RL, "tenant", "(LShardHarbour;II[J)I"⟩
abbrev cL_billAnew : ByteArray := method_19_code
def yL_billAnew : MethodName := ⟨RL, "billAnew", "(LShardHarbour;I[J)I"⟩
abbrev cL_whereAnew : ByteArray := method_20_code
def yL_whereAnew : MethodName := ⟨RL, "whereAnew", "(LShardHarbour;I[J)I"⟩
abbrev cL_law : ByteArray := code
def yL_law : MethodName := ⟨RL, "law", "([I)Z"⟩
def wsX0_init : List Cond := .code yX0_init cX0_init 3 none :: ([.methodLink RX0 1 objectInit, .instanceMethod objectInit, .code objectInit ⟨#[0xb1]⟩ 1 none, .fieldLink RX0 7 "ShardHarbour$Change" "hour" "I", .fieldLink RX0 13 "ShardHarbour$Change" "earlier" "LShardHarbour$Change;"] ++ wsX00)
def wsX0_setBefore : List Cond := .code yX0_setBefore cX0_setBefore 3 none :: ([.fieldLink RX0 17 "ShardHarbour$Change" "tenantBefore" "I", .fieldLink RX0 20 "ShardHarbour$Change" "bytesBefore" "I"] ++ wsX00)
def wsX0_setBehind : List Cond := .code yX0_setBehind cX0_setBehind 3 none :: ([.fieldLink RX0 23 "ShardHarbour$Change" "tenantBehind" "I", .fieldLink RX0 26 "ShardHarbour$Change" "bytesBehind" "I"] ++ wsX00)
def wsX0_moreBytesOf : List Cond := .code yX0_moreBytesOf cX0_moreBytesOf 4 (some .int) :: ([.fieldLink RX0 23 "ShardHarbour$Change" "tenantBehind" "I", .fieldLink RX0 26 "ShardHarbour$Change" "bytesBehind" "I", .fieldLink RX0 17 "ShardHarbour$Change" "tenantBefore" "I", .fieldLink RX0 20 "ShardHarbour$Change" "bytesBefore" "I"] ++ wsX00)
def wsX1_init : List Cond := .code yX1_init cX1_init 5 none :: ([.methodLink RX1 1 objectInit, .instanceMethod objectInit, .code objectInit ⟨#[0xb1]⟩ 1 none, .fieldLink RX1 7 "ShardHarbour$CutOver" "first" "I", .fieldLink RX1 13 "ShardHarbour$CutOver" "last" "I", .fieldLink RX1 16 "ShardHarbour$CutOver" "machine" "I", .fieldLink RX1 19 "ShardHarbour$CutOver" "earlier" "LShardHarbour$CutOver;"] ++ wsX10)
def wsX2_init : List Cond := .code yX2_init cX2_init 2 none :: ([.methodLink RX2 1 objectInit, .instanceMethod objectInit, .code objectInit ⟨#[0xb1]⟩ 1 none, .fieldLink RX2 7 "ShardHarbour$Machine" "number" "I"] ++ wsX20)
def wsX2_hasRoomFor : List Cond := .code yX2_hasRoomFor cX2_hasRoomFor 2 (some .boolean) :: ([.fieldLink RX2 13 "ShardHarbour$Machine" "held" "I", .fieldLink RX2 16 "ShardHarbour$Machine" "room" "I"] ++ wsX20)
def wsX3_init : List Cond := .code yX3_init cX3_init 2 none :: ([.methodLink RX3 3 objectInit, .instanceMethod objectInit, .code objectInit ⟨#[0xb1]⟩ 1 none, .fieldLink RX3 9 "ShardHarbour$Shard" "last" "I", .fieldLink RX3 15 "ShardHarbour$Shard" "home" "LShardHarbour$Machine;", .fieldLink RX3 19 "ShardHarbour$Shard" "target" "LShardHarbour$Machine;"] ++ wsX30)
def wsX3_isMoving : List Cond := .code yX3_isMoving cX3_isMoving 1 (some .boolean) :: ([.fieldLink RX3 19 "ShardHarbour$Shard" "target" "LShardHarbour$Machine;"] ++ wsX30 ++ wsX20)
def wsX3_hasCopied : List Cond := .code yX3_hasCopied cX3_hasCopied 2 (some .boolean) :: ([.fieldLink RX3 31 "ShardHarbour$Shard" "nextToCopy" "I", .methodLink RX3 27 yX3_isMoving, .instanceMethod yX3_isMoving, .selects RX3 yX3_isMoving yX3_isMoving, .initialized RX3, .code yX3_isMoving cX3_isMoving 1 (some .boolean), .fieldLink RX3 19 "ShardHarbour$Shard" "target" "LShardHarbour$Machine;"] ++ wsX30 ++ wsX20)
def wsX3_aimAt : List Cond := .code yX3_aimAt cX3_aimAt 2 none :: ([.fieldLink RX3 19 "ShardHarbour$Shard" "target" "LShardHarbour$Machine;", .fieldLink RX3 34 "ShardHarbour$Shard" "first" "I", .fieldLink RX3 31 "ShardHarbour$Shard" "nextToCopy" "I", .fieldLink RX3 37 "ShardHarbour$Shard" "mayCopy" "I", .fieldLink RX3 40 "ShardHarbour$Shard" "copied" "I"] ++ wsX30)
def wsX3_takeCopy : List Cond := .code yX3_takeCopy cX3_takeCopy 2 none :: ([.fieldLink RX3 31 "ShardHarbour$Shard" "nextToCopy" "I", .fieldLink RX3 37 "ShardHarbour$Shard" "mayCopy" "I", .fieldLink RX3 40 "ShardHarbour$Shard" "copied" "I", .fieldLink RX3 19 "ShardHarbour$Shard" "target" "LShardHarbour$Machine;"] ++ wsX30 ++ wsX20)
def wsX4_init : List Cond := .code yX4_init cX4_init 1 none :: ([.methodLink RX4 3 objectInit, .instanceMethod objectInit, .code objectInit ⟨#[0xb1]⟩ 1 none, .fieldLink RX4 9 "ShardHarbour$Tenant" "quota" "I"] ++ wsX40)
def wsX5_init_r1 : List Cond := [Cond.methodLink RX5 1 objectInit, Cond.instanceMethod objectInit, Cond.code objectInit ⟨#[0xb1]⟩ 1 none, Cond.classLink RX5 7 RX2, Cond.instantiable RX2 4, Cond.initialized RX2, Cond.fieldLink RX5 14 "ShardHarbour" "nowhere" "LShardHarbour$Machine;", Cond.arrayClass .int, Cond.fieldLink RX5 18 "ShardHarbour" "bytesAt" "[I", Cond.fieldLink RX5 22 "ShardHarbour" "tenantAt" "[I", Cond.classLink RX5 25 RX4, Cond.fieldLink RX5 27 "ShardHarbour" "tenants" "[LShardHarbour$Tenant;", Cond.instantiable RX4 3, Cond.initialized RX4, Cond.fieldLink RX5 32 "ShardHarbour" "machines" "[LShardHarbour$Machine;", Cond.classLink RX5 36 RX3, Cond.fieldLink RX5 38 "ShardHarbour" "shards" "[LShardHarbour$Shard;", Cond.instantiable RX3 9, Cond.initialized RX3, Cond.fieldLink RX5 45 "ShardHarbour" "shardCount" "I", Cond.instanceMethod yX2_init, Cond.code yX2_init cX2_init 2 none, Cond.methodLink RX2 1 objectInit, Cond.fieldLink RX2 7 "ShardHarbour$Machine" "number" "I"]
def wsX5_init_r2 : List Cond := [Cond.instanceMethod yX4_init, Cond.code yX4_init cX4_init 1 none, Cond.methodLink RX4 3 objectInit, Cond.fieldLink RX4 9 "ShardHarbour$Tenant" "quota" "I", Cond.instanceMethod yX3_init, Cond.code yX3_init cX3_init 2 none, Cond.methodLink RX3 3 objectInit, Cond.fieldLink RX3 9 "ShardHarbour$Shard" "last" "I", Cond.fieldLink RX3 15 "ShardHarbour$Shard" "home" "LShardHarbour$Machine;", Cond.fieldLink RX3 19 "ShardHarbour$Shard" "target" "LShardHarbour$Machine;"]
def wsX5_init : List Cond := .code yX5_init cX5_init 2 none :: ((wsX5_init_r1 ++ wsX5_init_r2) ++ wsX20 ++ wsX50 ++ wsX40 ++ wsX30)
def wsX5_settleAllShardsOn : List Cond := .code yX5_settleAllShardsOn cX5_settleAllShardsOn 3 none :: ([.fieldLink RX5 45 "ShardHarbour" "shardCount" "I", .fieldLink RX5 38 "ShardHarbour" "shards" "[LShardHarbour$Shard;"] ++ wsX50 ++ wsX30)
def wsX5_machine : List Cond := .code yX5_machine cX5_machine 3 (some .int) :: ([.classLink RX5 49 "java/lang/IllegalArgumentException", .initialized "java/lang/IllegalArgumentException", .classLink RX5 59 "java/lang/IllegalStateException", .initialized "java/lang/IllegalStateException", .fieldLink RX5 56 "ShardHarbour" "machineCount" "I", .fieldLink RX5 32 "ShardHarbour" "machines" "[LShardHarbour$Machine;", .methodLink RX5 74 yX5_settleAllShardsOn, .instanceMethod yX5_settleAllShardsOn, .selects RX5 yX5_settleAllShardsOn yX5_settleAllShardsOn, .initialized RX5, .code yX5_settleAllShardsOn cX5_settleAllShardsOn 3 none, .fieldLink RX5 45 "ShardHarbour" "shardCount" "I", .fieldLink RX5 38 "ShardHarbour" "shards" "[LShardHarbour$Shard;"] ++ wsX50 ++ wsX20 ++ wsX30 ++ (vx_atS RX5 53 "java/lang/IllegalArgumentException" ["java/lang/RuntimeException", "java/lang/Exception"]).filter goodWord ++ (vx_atS RX5 63 "java/lang/IllegalStateException" ["java/lang/RuntimeException", "java/lang/Exception"]).filter goodWord)
def wsX5_isMachine : List Cond := .code yX5_isMachine cX5_isMachine 2 (some .boolean) :: ([.fieldLink RX5 56 "ShardHarbour" "machineCount" "I"] ++ wsX50)
def wsX5_failMove : List Cond := .code yX5_failMove cX5_failMove 2 none :: ([.fieldLink RX5 14 "ShardHarbour" "nowhere" "LShardHarbour$Machine;", .fieldLink RX5 248 "ShardHarbour" "movesFailed" "I", .instanceMethod yX3_aimAt, .initialized RX3, .selects RX3 yX3_aimAt yX3_aimAt, .code yX3_aimAt cX3_aimAt 2 none, .fieldLink RX3 19 "ShardHarbour$Shard" "target" "LShardHarbour$Machine;", .fieldLink RX3 34 "ShardHarbour$Shard" "first" "I", .fieldLink RX3 31 "ShardHarbour$Shard" "nextToCopy" "I", .fieldLink RX3 37 "ShardHarbour$Shard" "mayCopy" "I", .fieldLink RX3 40 "ShardHarbour$Shard" "copied" "I"] ++ wsX30 ++ wsX20 ++ wsX50)
def wsX5_failMovesOf : List Cond := .code yX5_failMovesOf cX5_failMovesOf 4 none :: ([.fieldLink RX5 45 "ShardHarbour" "shardCount" "I", .fieldLink RX5 38 "ShardHarbour" "shards" "[LShardHarbour$Shard;", .instanceMethod yX3_isMoving, .initialized RX3, .selects RX3 yX3_isMoving yX3_isMoving, .code yX3_isMoving cX3_isMoving 1 (some .boolean), .fieldLink RX3 19 "ShardHarbour$Shard" "target" "LShardHarbour$Machine;", .methodLink RX5 187 yX5_failMove, .instanceMethod yX5_failMove, .selects RX5 yX5_failMove yX5_failMove, .initialized RX5, .code yX5_failMove cX5_failMove 2 none, .fieldLink RX5 14 "ShardHarbour" "nowhere" "LShardHarbour$Machine;", .fieldLink RX5 248 "ShardHarbour" "movesFailed" "I", .instanceMethod yX3_aimAt, .selects RX3 yX3_aimAt yX3_aimAt, .code yX3_aimAt cX3_aimAt 2 none, .fieldLink RX3 34 "ShardHarbour$Shard" "first" "I", .fieldLink RX3 31 "ShardHarbour$Shard" "nextToCopy" "I", .fieldLink RX3 37 "ShardHarbour$Shard" "mayCopy" "I", .fieldLink RX3 40 "ShardHarbour$Shard" "copied" "I"] ++ wsX50 ++ wsX30 ++ wsX20)
def wsX5_down_r1 : List Cond := [Cond.classLink RX5 81 "java/lang/IndexOutOfBoundsException", Cond.initialized "java/lang/IndexOutOfBoundsException", Cond.fieldLink RX5 32 "ShardHarbour" "machines" "[LShardHarbour$Machine;", Cond.methodLink RX5 77 yX5_isMachine, Cond.instanceMethod yX5_isMachine, Cond.selects RX5 yX5_isMachine yX5_isMachine, Cond.initialized RX5, Cond.code yX5_isMachine cX5_isMachine 2 (some .boolean), Cond.fieldLink RX5 56 "ShardHarbour" "machineCount" "I", Cond.methodLink RX5 86 yX5_failMovesOf, Cond.instanceMethod yX5_failMovesOf, Cond.selects RX5 yX5_failMovesOf yX5_failMovesOf, Cond.code yX5_failMovesOf cX5_failMovesOf 4 none, Cond.fieldLink RX5 45 "ShardHarbour" "shardCount" "I", Cond.fieldLink RX5 38 "ShardHarbour" "shards" "[LShardHarbour$Shard;", Cond.instanceMethod yX3_isMoving, Cond.initialized RX3, Cond.selects RX3 yX3_isMoving yX3_isMoving, Cond.code yX3_isMoving cX3_isMoving 1 (some .boolean), Cond.fieldLink RX3 19 "ShardHarbour$Shard" "target" "LShardHarbour$Machine;", Cond.methodLink RX5 187 yX5_failMove, Cond.instanceMethod yX5_failMove, Cond.selects RX5 yX5_failMove yX5_failMove, Cond.code yX5_failMove cX5_failMove 2 none]
def wsX5_down_r2 : List Cond := [Cond.fieldLink RX5 14 "ShardHarbour" "nowhere" "LShardHarbour$Machine;", Cond.fieldLink RX5 248 "ShardHarbour" "movesFailed" "I", Cond.instanceMethod yX3_aimAt, Cond.selects RX3 yX3_aimAt yX3_aimAt, Cond.code yX3_aimAt cX3_aimAt 2 none, Cond.fieldLink RX3 34 "ShardHarbour$Shard" "first" "I", Cond.fieldLink RX3 31 "ShardHarbour$Shard" "nextToCopy" "I", Cond.fieldLink RX3 37 "ShardHarbour$Shard" "mayCopy" "I", Cond.fieldLink RX3 40 "ShardHarbour$Shard" "copied" "I"]
def wsX5_down : List Cond := .code yX5_down cX5_down 5 (some .boolean) :: ((wsX5_down_r1 ++ wsX5_down_r2) ++ wsX50 ++ wsX20 ++ wsX30 ++ (vx_atS RX5 85 "java/lang/IndexOutOfBoundsException" ["java/lang/RuntimeException", "java/lang/Exception"]).filter goodWord)
def wsX5_isTenant : List Cond := .code yX5_isTenant cX5_isTenant 2 (some .boolean) :: ([])
def wsX5_quota : List Cond := .code yX5_quota cX5_quota 4 (some .int) :: ([.classLink RX5 81 "java/lang/IndexOutOfBoundsException", .initialized "java/lang/IndexOutOfBoundsException", .classLink RX5 49 "java/lang/IllegalArgumentException", .initialized "java/lang/IllegalArgumentException", .fieldLink RX5 27 "ShardHarbour" "tenants" "[LShardHarbour$Tenant;", .methodLink RX5 89 yX5_isTenant, .instanceMethod yX5_isTenant, .selects RX5 yX5_isTenant yX5_isTenant, .initialized RX5, .code yX5_isTenant cX5_isTenant 2 (some .boolean)] ++ wsX50 ++ wsX40 ++ (vx_atS RX5 85 "java/lang/IndexOutOfBoundsException" ["java/lang/RuntimeException", "java/lang/Exception"]).filter goodWord ++ (vx_atS RX5 53 "java/lang/IllegalArgumentException" ["java/lang/RuntimeException", "java/lang/Exception"]).filter goodWord)
def wsX5_limit : List Cond := .code yX5_limit cX5_limit 3 (some .int) :: ([.classLink RX5 49 "java/lang/IllegalArgumentException", .initialized "java/lang/IllegalArgumentException", .fieldLink RX5 101 "ShardHarbour" "heatLimit" "I"] ++ wsX50 ++ (vx_atS RX5 53 "java/lang/IllegalArgumentException" ["java/lang/RuntimeException", "java/lang/Exception"]).filter goodWord)
def wsX5_isKey : List Cond := .code yX5_isKey cX5_isKey 2 (some .boolean) :: ([])
def wsX5_numberOfShardWith : List Cond := .code yX5_numberOfShardWith cX5_numberOfShardWith 3 (some .int) :: ([.fieldLink RX5 45 "ShardHarbour" "shardCount" "I", .fieldLink RX5 38 "ShardHarbour" "shards" "[LShardHarbour$Shard;"] ++ wsX50 ++ wsX30)
def wsX5_mayChange : List Cond := .code yX5_mayChange cX5_mayChange 2 (some .boolean) :: ([.fieldLink RX5 251 "ShardHarbour" "changeCount" "I"] ++ wsX30 ++ wsX20 ++ wsX50)
def wsX5_hasQuotaFor : List Cond := .code yX5_hasQuotaFor cX5_hasQuotaFor 5 (some .boolean) :: ([.fieldLink RX5 22 "ShardHarbour" "tenantAt" "[I", .fieldLink RX5 18 "ShardHarbour" "bytesAt" "[I", .fieldLink RX5 27 "ShardHarbour" "tenants" "[LShardHarbour$Tenant;"] ++ wsX50 ++ wsX40)
def wsX5_addToTenant : List Cond := .code yX5_addToTenant cX5_addToTenant 3 none :: ([.fieldLink RX5 27 "ShardHarbour" "tenants" "[LShardHarbour$Tenant;", .methodLink RX5 89 yX5_isTenant, .instanceMethod yX5_isTenant, .selects RX5 yX5_isTenant yX5_isTenant, .initialized RX5, .code yX5_isTenant cX5_isTenant 2 (some .boolean)] ++ wsX50 ++ wsX40)
def wsX5_changeCopy : List Cond := .code yX5_changeCopy cX5_changeCopy 3 none :: ([.instanceMethod yX2_hasRoomFor, .initialized RX2, .selects RX2 yX2_hasRoomFor yX2_hasRoomFor, .code yX2_hasRoomFor cX2_hasRoomFor 2 (some .boolean), .fieldLink RX2 13 "ShardHarbour$Machine" "held" "I", .fieldLink RX2 16 "ShardHarbour$Machine" "room" "I", .methodLink RX5 187 yX5_failMove, .instanceMethod yX5_failMove, .selects RX5 yX5_failMove yX5_failMove, .initialized RX5, .code yX5_failMove cX5_failMove 2 none, .fieldLink RX5 14 "ShardHarbour" "nowhere" "LShardHarbour$Machine;", .fieldLink RX5 248 "ShardHarbour" "movesFailed" "I", .instanceMethod yX3_aimAt, .initialized RX3, .selects RX3 yX3_aimAt yX3_aimAt, .code yX3_aimAt cX3_aimAt 2 none, .fieldLink RX3 19 "ShardHarbour$Shard" "target" "LShardHarbour$Machine;", .fieldLink RX3 34 "ShardHarbour$Shard" "first" "I", .fieldLink RX3 31 "ShardHarbour$Shard" "nextToCopy" "I", .fieldLink RX3 37 "ShardHarbour$Shard" "mayCopy" "I", .fieldLink RX3 40 "ShardHarbour$Shard" "copied" "I"] ++ wsX30 ++ wsX20 ++ wsX50)
def wsX5_change_r1 : List Cond := [Cond.classLink RX5 224 RX0, Cond.instantiable RX0 6, Cond.initialized RX0, Cond.fieldLink RX5 193 "ShardHarbour" "hour" "I", Cond.fieldLink RX5 219 "ShardHarbour" "lastChange" "LShardHarbour$Change;", Cond.fieldLink RX5 22 "ShardHarbour" "tenantAt" "[I", Cond.fieldLink RX5 18 "ShardHarbour" "bytesAt" "[I", Cond.fieldLink RX5 251 "ShardHarbour" "changeCount" "I", Cond.instanceMethod yX0_init, Cond.code yX0_init cX0_init 3 none, Cond.methodLink RX0 1 objectInit, Cond.instanceMethod objectInit, Cond.code objectInit ⟨#[0xb1]⟩ 1 none, Cond.fieldLink RX0 7 "ShardHarbour$Change" "hour" "I", Cond.fieldLink RX0 13 "ShardHarbour$Change" "earlier" "LShardHarbour$Change;", Cond.instanceMethod yX0_setBefore, Cond.selects RX0 yX0_setBefore yX0_setBefore, Cond.code yX0_setBefore cX0_setBefore 3 none, Cond.fieldLink RX0 17 "ShardHarbour$Change" "tenantBefore" "I", Cond.fieldLink RX0 20 "ShardHarbour$Change" "bytesBefore" "I", Cond.instanceMethod yX0_setBehind, Cond.selects RX0 yX0_setBehind yX0_setBehind, Cond.code yX0_setBehind cX0_setBehind 3 none, Cond.fieldLink RX0 23 "ShardHarbour$Change" "tenantBehind" "I"]
def wsX5_change_r2 : List Cond := [Cond.fieldLink RX0 26 "ShardHarbour$Change" "bytesBehind" "I", Cond.methodLink RX5 264 yX5_addToTenant, Cond.instanceMethod yX5_addToTenant, Cond.selects RX5 yX5_addToTenant yX5_addToTenant, Cond.initialized RX5, Cond.code yX5_addToTenant cX5_addToTenant 3 none, Cond.fieldLink RX5 27 "ShardHarbour" "tenants" "[LShardHarbour$Tenant;", Cond.methodLink RX5 89 yX5_isTenant, Cond.instanceMethod yX5_isTenant, Cond.selects RX5 yX5_isTenant yX5_isTenant, Cond.code yX5_isTenant cX5_isTenant 2 (some .boolean), Cond.instanceMethod yX3_hasCopied, Cond.initialized RX3, Cond.selects RX3 yX3_hasCopied yX3_hasCopied, Cond.code yX3_hasCopied cX3_hasCopied 2 (some .boolean), Cond.fieldLink RX3 31 "ShardHarbour$Shard" "nextToCopy" "I", Cond.methodLink RX3 27 yX3_isMoving, Cond.instanceMethod yX3_isMoving, Cond.selects RX3 yX3_isMoving yX3_isMoving, Cond.code yX3_isMoving cX3_isMoving 1 (some .boolean), Cond.fieldLink RX3 19 "ShardHarbour$Shard" "target" "LShardHarbour$Machine;", Cond.methodLink RX5 270 yX5_changeCopy, Cond.instanceMethod yX5_changeCopy, Cond.selects RX5 yX5_changeCopy yX5_changeCopy]
def wsX5_change_r3 : List Cond := [Cond.code yX5_changeCopy cX5_changeCopy 3 none, Cond.instanceMethod yX2_hasRoomFor, Cond.initialized RX2, Cond.selects RX2 yX2_hasRoomFor yX2_hasRoomFor, Cond.code yX2_hasRoomFor cX2_hasRoomFor 2 (some .boolean), Cond.fieldLink RX2 13 "ShardHarbour$Machine" "held" "I", Cond.fieldLink RX2 16 "ShardHarbour$Machine" "room" "I", Cond.methodLink RX5 187 yX5_failMove, Cond.instanceMethod yX5_failMove, Cond.selects RX5 yX5_failMove yX5_failMove, Cond.code yX5_failMove cX5_failMove 2 none, Cond.fieldLink RX5 14 "ShardHarbour" "nowhere" "LShardHarbour$Machine;", Cond.fieldLink RX5 248 "ShardHarbour" "movesFailed" "I", Cond.instanceMethod yX3_aimAt, Cond.selects RX3 yX3_aimAt yX3_aimAt, Cond.code yX3_aimAt cX3_aimAt 2 none, Cond.fieldLink RX3 34 "ShardHarbour$Shard" "first" "I", Cond.fieldLink RX3 37 "ShardHarbour$Shard" "mayCopy" "I", Cond.fieldLink RX3 40 "ShardHarbour$Shard" "copied" "I"]
def wsX5_change : List Cond := .code yX5_change cX5_change 7 none :: ((wsX5_change_r1 ++ (wsX5_change_r2 ++ wsX5_change_r3)) ++ wsX00 ++ wsX50 ++ wsX30 ++ wsX20 ++ wsX40)
def wsX5_write_r1 : List Cond := [Cond.classLink RX5 81 "java/lang/IndexOutOfBoundsException", Cond.initialized "java/lang/IndexOutOfBoundsException", Cond.classLink RX5 49 "java/lang/IllegalArgumentException", Cond.initialized "java/lang/IllegalArgumentException", Cond.classLink RX5 59 "java/lang/IllegalStateException", Cond.initialized "java/lang/IllegalStateException", Cond.fieldLink RX5 38 "ShardHarbour" "shards" "[LShardHarbour$Shard;", Cond.fieldLink RX5 18 "ShardHarbour" "bytesAt" "[I", Cond.fieldLink RX5 27 "ShardHarbour" "tenants" "[LShardHarbour$Tenant;", Cond.methodLink RX5 104 yX5_isKey, Cond.instanceMethod yX5_isKey, Cond.selects RX5 yX5_isKey yX5_isKey, Cond.initialized RX5, Cond.code yX5_isKey cX5_isKey 2 (some .boolean), Cond.methodLink RX5 89 yX5_isTenant, Cond.instanceMethod yX5_isTenant, Cond.selects RX5 yX5_isTenant yX5_isTenant, Cond.code yX5_isTenant cX5_isTenant 2 (some .boolean), Cond.methodLink RX5 109 yX5_numberOfShardWith, Cond.instanceMethod yX5_numberOfShardWith, Cond.selects RX5 yX5_numberOfShardWith yX5_numberOfShardWith, Cond.code yX5_numberOfShardWith cX5_numberOfShardWith 3 (some .int), Cond.fieldLink RX5 45 "ShardHarbour" "shardCount" "I", Cond.methodLink RX5 113 yX5_mayChange]
def wsX5_write_r2 : List Cond := [Cond.instanceMethod yX5_mayChange, Cond.selects RX5 yX5_mayChange yX5_mayChange, Cond.code yX5_mayChange cX5_mayChange 2 (some .boolean), Cond.fieldLink RX5 251 "ShardHarbour" "changeCount" "I", Cond.instanceMethod yX2_hasRoomFor, Cond.initialized RX2, Cond.selects RX2 yX2_hasRoomFor yX2_hasRoomFor, Cond.code yX2_hasRoomFor cX2_hasRoomFor 2 (some .boolean), Cond.fieldLink RX2 13 "ShardHarbour$Machine" "held" "I", Cond.fieldLink RX2 16 "ShardHarbour$Machine" "room" "I", Cond.methodLink RX5 123 yX5_hasQuotaFor, Cond.instanceMethod yX5_hasQuotaFor, Cond.selects RX5 yX5_hasQuotaFor yX5_hasQuotaFor, Cond.code yX5_hasQuotaFor cX5_hasQuotaFor 5 (some .boolean), Cond.fieldLink RX5 22 "ShardHarbour" "tenantAt" "[I", Cond.methodLink RX5 129 yX5_change, Cond.instanceMethod yX5_change, Cond.selects RX5 yX5_change yX5_change, Cond.code yX5_change cX5_change 7 none, Cond.classLink RX5 224 RX0, Cond.instantiable RX0 6, Cond.initialized RX0, Cond.fieldLink RX5 193 "ShardHarbour" "hour" "I", Cond.fieldLink RX5 219 "ShardHarbour" "lastChange" "LShardHarbour$Change;"]
def wsX5_write_r3 : List Cond := [Cond.instanceMethod yX0_init, Cond.code yX0_init cX0_init 3 none, Cond.methodLink RX0 1 objectInit, Cond.instanceMethod objectInit, Cond.code objectInit ⟨#[0xb1]⟩ 1 none, Cond.fieldLink RX0 7 "ShardHarbour$Change" "hour" "I", Cond.fieldLink RX0 13 "ShardHarbour$Change" "earlier" "LShardHarbour$Change;", Cond.instanceMethod yX0_setBefore, Cond.selects RX0 yX0_setBefore yX0_setBefore, Cond.code yX0_setBefore cX0_setBefore 3 none, Cond.fieldLink RX0 17 "ShardHarbour$Change" "tenantBefore" "I", Cond.fieldLink RX0 20 "ShardHarbour$Change" "bytesBefore" "I", Cond.instanceMethod yX0_setBehind, Cond.selects RX0 yX0_setBehind yX0_setBehind, Cond.code yX0_setBehind cX0_setBehind 3 none, Cond.fieldLink RX0 23 "ShardHarbour$Change" "tenantBehind" "I", Cond.fieldLink RX0 26 "ShardHarbour$Change" "bytesBehind" "I", Cond.methodLink RX5 264 yX5_addToTenant, Cond.instanceMethod yX5_addToTenant, Cond.selects RX5 yX5_addToTenant yX5_addToTenant, Cond.code yX5_addToTenant cX5_addToTenant 3 none, Cond.instanceMethod yX3_hasCopied, Cond.initialized RX3, Cond.selects RX3 yX3_hasCopied yX3_hasCopied]
def wsX5_write_r4 : List Cond := [Cond.code yX3_hasCopied cX3_hasCopied 2 (some .boolean), Cond.fieldLink RX3 31 "ShardHarbour$Shard" "nextToCopy" "I", Cond.methodLink RX3 27 yX3_isMoving, Cond.instanceMethod yX3_isMoving, Cond.selects RX3 yX3_isMoving yX3_isMoving, Cond.code yX3_isMoving cX3_isMoving 1 (some .boolean), Cond.fieldLink RX3 19 "ShardHarbour$Shard" "target" "LShardHarbour$Machine;", Cond.methodLink RX5 270 yX5_changeCopy, Cond.instanceMethod yX5_changeCopy, Cond.selects RX5 yX5_changeCopy yX5_changeCopy, Cond.code yX5_changeCopy cX5_changeCopy 3 none, Cond.methodLink RX5 187 yX5_failMove, Cond.instanceMethod yX5_failMove, Cond.selects RX5 yX5_failMove yX5_failMove, Cond.code yX5_failMove cX5_failMove 2 none, Cond.fieldLink RX5 14 "ShardHarbour" "nowhere" "LShardHarbour$Machine;", Cond.fieldLink RX5 248 "ShardHarbour" "movesFailed" "I", Cond.instanceMethod yX3_aimAt, Cond.selects RX3 yX3_aimAt yX3_aimAt, Cond.code yX3_aimAt cX3_aimAt 2 none, Cond.fieldLink RX3 34 "ShardHarbour$Shard" "first" "I", Cond.fieldLink RX3 37 "ShardHarbour$Shard" "mayCopy" "I", Cond.fieldLink RX3 40 "ShardHarbour$Shard" "copied" "I"]
def wsX5_write : List Cond := .code yX5_write cX5_write 5 (some .int) :: ((wsX5_write_r1 ++ (wsX5_write_r2 ++ (wsX5_write_r3 ++ wsX5_write_r4))) ++ wsX50 ++ wsX30 ++ wsX40 ++ wsX20 ++ wsX00 ++ (vx_atS RX5 85 "java/lang/IndexOutOfBoundsException" ["java/lang/RuntimeException", "java/lang/Exception"]).filter goodWord ++ (vx_atS RX5 53 "java/lang/IllegalArgumentException" ["java/lang/RuntimeException", "java/lang/Exception"]).filter goodWord ++ (vx_atS RX5 63 "java/lang/IllegalStateException" ["java/lang/RuntimeException", "java/lang/Exception"]).filter goodWord)
def wsX5_take_r1 : List Cond := [Cond.classLink RX5 81 "java/lang/IndexOutOfBoundsException", Cond.initialized "java/lang/IndexOutOfBoundsException", Cond.classLink RX5 59 "java/lang/IllegalStateException", Cond.initialized "java/lang/IllegalStateException", Cond.fieldLink RX5 18 "ShardHarbour" "bytesAt" "[I", Cond.fieldLink RX5 38 "ShardHarbour" "shards" "[LShardHarbour$Shard;", Cond.methodLink RX5 104 yX5_isKey, Cond.instanceMethod yX5_isKey, Cond.selects RX5 yX5_isKey yX5_isKey, Cond.initialized RX5, Cond.code yX5_isKey cX5_isKey 2 (some .boolean), Cond.methodLink RX5 109 yX5_numberOfShardWith, Cond.instanceMethod yX5_numberOfShardWith, Cond.selects RX5 yX5_numberOfShardWith yX5_numberOfShardWith, Cond.code yX5_numberOfShardWith cX5_numberOfShardWith 3 (some .int), Cond.fieldLink RX5 45 "ShardHarbour" "shardCount" "I", Cond.methodLink RX5 113 yX5_mayChange, Cond.instanceMethod yX5_mayChange, Cond.selects RX5 yX5_mayChange yX5_mayChange, Cond.code yX5_mayChange cX5_mayChange 2 (some .boolean), Cond.fieldLink RX5 251 "ShardHarbour" "changeCount" "I", Cond.methodLink RX5 129 yX5_change, Cond.instanceMethod yX5_change, Cond.selects RX5 yX5_change yX5_change]
def wsX5_take_r2 : List Cond := [Cond.code yX5_change cX5_change 7 none, Cond.classLink RX5 224 RX0, Cond.instantiable RX0 6, Cond.initialized RX0, Cond.fieldLink RX5 193 "ShardHarbour" "hour" "I", Cond.fieldLink RX5 219 "ShardHarbour" "lastChange" "LShardHarbour$Change;", Cond.fieldLink RX5 22 "ShardHarbour" "tenantAt" "[I", Cond.instanceMethod yX0_init, Cond.code yX0_init cX0_init 3 none, Cond.methodLink RX0 1 objectInit, Cond.instanceMethod objectInit, Cond.code objectInit ⟨#[0xb1]⟩ 1 none, Cond.fieldLink RX0 7 "ShardHarbour$Change" "hour" "I", Cond.fieldLink RX0 13 "ShardHarbour$Change" "earlier" "LShardHarbour$Change;", Cond.instanceMethod yX0_setBefore, Cond.selects RX0 yX0_setBefore yX0_setBefore, Cond.code yX0_setBefore cX0_setBefore 3 none, Cond.fieldLink RX0 17 "ShardHarbour$Change" "tenantBefore" "I", Cond.fieldLink RX0 20 "ShardHarbour$Change" "bytesBefore" "I", Cond.instanceMethod yX0_setBehind, Cond.selects RX0 yX0_setBehind yX0_setBehind, Cond.code yX0_setBehind cX0_setBehind 3 none, Cond.fieldLink RX0 23 "ShardHarbour$Change" "tenantBehind" "I", Cond.fieldLink RX0 26 "ShardHarbour$Change" "bytesBehind" "I"]
def wsX5_take_r3 : List Cond := [Cond.methodLink RX5 264 yX5_addToTenant, Cond.instanceMethod yX5_addToTenant, Cond.selects RX5 yX5_addToTenant yX5_addToTenant, Cond.code yX5_addToTenant cX5_addToTenant 3 none, Cond.fieldLink RX5 27 "ShardHarbour" "tenants" "[LShardHarbour$Tenant;", Cond.methodLink RX5 89 yX5_isTenant, Cond.instanceMethod yX5_isTenant, Cond.selects RX5 yX5_isTenant yX5_isTenant, Cond.code yX5_isTenant cX5_isTenant 2 (some .boolean), Cond.instanceMethod yX3_hasCopied, Cond.initialized RX3, Cond.selects RX3 yX3_hasCopied yX3_hasCopied, Cond.code yX3_hasCopied cX3_hasCopied 2 (some .boolean), Cond.fieldLink RX3 31 "ShardHarbour$Shard" "nextToCopy" "I", Cond.methodLink RX3 27 yX3_isMoving, Cond.instanceMethod yX3_isMoving, Cond.selects RX3 yX3_isMoving yX3_isMoving, Cond.code yX3_isMoving cX3_isMoving 1 (some .boolean), Cond.fieldLink RX3 19 "ShardHarbour$Shard" "target" "LShardHarbour$Machine;", Cond.methodLink RX5 270 yX5_changeCopy, Cond.instanceMethod yX5_changeCopy, Cond.selects RX5 yX5_changeCopy yX5_changeCopy, Cond.code yX5_changeCopy cX5_changeCopy 3 none, Cond.instanceMethod yX2_hasRoomFor]
def wsX5_take_r4 : List Cond := [Cond.initialized RX2, Cond.selects RX2 yX2_hasRoomFor yX2_hasRoomFor, Cond.code yX2_hasRoomFor cX2_hasRoomFor 2 (some .boolean), Cond.fieldLink RX2 13 "ShardHarbour$Machine" "held" "I", Cond.fieldLink RX2 16 "ShardHarbour$Machine" "room" "I", Cond.methodLink RX5 187 yX5_failMove, Cond.instanceMethod yX5_failMove, Cond.selects RX5 yX5_failMove yX5_failMove, Cond.code yX5_failMove cX5_failMove 2 none, Cond.fieldLink RX5 14 "ShardHarbour" "nowhere" "LShardHarbour$Machine;", Cond.fieldLink RX5 248 "ShardHarbour" "movesFailed" "I", Cond.instanceMethod yX3_aimAt, Cond.selects RX3 yX3_aimAt yX3_aimAt, Cond.code yX3_aimAt cX3_aimAt 2 none, Cond.fieldLink RX3 34 "ShardHarbour$Shard" "first" "I", Cond.fieldLink RX3 37 "ShardHarbour$Shard" "mayCopy" "I", Cond.fieldLink RX3 40 "ShardHarbour$Shard" "copied" "I"]
def wsX5_take : List Cond := .code yX5_take cX5_take 4 (some .int) :: ((wsX5_take_r1 ++ (wsX5_take_r2 ++ (wsX5_take_r3 ++ wsX5_take_r4))) ++ wsX50 ++ wsX30 ++ wsX20 ++ wsX00 ++ wsX40 ++ (vx_atS RX5 85 "java/lang/IndexOutOfBoundsException" ["java/lang/RuntimeException", "java/lang/Exception"]).filter goodWord ++ (vx_atS RX5 63 "java/lang/IllegalStateException" ["java/lang/RuntimeException", "java/lang/Exception"]).filter goodWord)
def wsX5_read : List Cond := .code yX5_read cX5_read 3 (some .int) :: ([.classLink RX5 81 "java/lang/IndexOutOfBoundsException", .initialized "java/lang/IndexOutOfBoundsException", .classLink RX5 59 "java/lang/IllegalStateException", .initialized "java/lang/IllegalStateException", .fieldLink RX5 38 "ShardHarbour" "shards" "[LShardHarbour$Shard;", .fieldLink RX5 18 "ShardHarbour" "bytesAt" "[I", .methodLink RX5 104 yX5_isKey, .instanceMethod yX5_isKey, .selects RX5 yX5_isKey yX5_isKey, .initialized RX5, .code yX5_isKey cX5_isKey 2 (some .boolean), .methodLink RX5 109 yX5_numberOfShardWith, .instanceMethod yX5_numberOfShardWith, .selects RX5 yX5_numberOfShardWith yX5_numberOfShardWith, .code yX5_numberOfShardWith cX5_numberOfShardWith 3 (some .int), .fieldLink RX5 45 "ShardHarbour" "shardCount" "I"] ++ wsX50 ++ wsX30 ++ wsX20 ++ (vx_atS RX5 85 "java/lang/IndexOutOfBoundsException" ["java/lang/RuntimeException", "java/lang/Exception"]).filter goodWord ++ (vx_atS RX5 63 "java/lang/IllegalStateException" ["java/lang/RuntimeException", "java/lang/Exception"]).filter goodWord)
def wsX5_bytesBetween : List Cond := .code yX5_bytesBetween cX5_bytesBetween 5 (some .int) :: ([.fieldLink RX5 18 "ShardHarbour" "bytesAt" "[I"] ++ wsX50)
def wsX5_cutInTwo : List Cond := .code yX5_cutInTwo cX5_cutInTwo 4 none :: ([.methodLink RX5 274 yX5_bytesBetween, .instanceMethod yX5_bytesBetween, .selects RX5 yX5_bytesBetween yX5_bytesBetween, .initialized RX5, .code yX5_bytesBetween cX5_bytesBetween 5 (some .int), .fieldLink RX5 18 "ShardHarbour" "bytesAt" "[I"] ++ wsX30 ++ wsX50)
def wsX5_split_r1 : List Cond := [Cond.classLink RX5 81 "java/lang/IndexOutOfBoundsException", Cond.initialized "java/lang/IndexOutOfBoundsException", Cond.classLink RX5 59 "java/lang/IllegalStateException", Cond.initialized "java/lang/IllegalStateException", Cond.fieldLink RX5 38 "ShardHarbour" "shards" "[LShardHarbour$Shard;", Cond.fieldLink RX5 45 "ShardHarbour" "shardCount" "I", Cond.methodLink RX5 104 yX5_isKey, Cond.instanceMethod yX5_isKey, Cond.selects RX5 yX5_isKey yX5_isKey, Cond.initialized RX5, Cond.code yX5_isKey cX5_isKey 2 (some .boolean), Cond.methodLink RX5 109 yX5_numberOfShardWith, Cond.instanceMethod yX5_numberOfShardWith, Cond.selects RX5 yX5_numberOfShardWith yX5_numberOfShardWith, Cond.code yX5_numberOfShardWith cX5_numberOfShardWith 3 (some .int), Cond.instanceMethod yX3_isMoving, Cond.initialized RX3, Cond.selects RX3 yX3_isMoving yX3_isMoving, Cond.code yX3_isMoving cX3_isMoving 1 (some .boolean), Cond.fieldLink RX3 19 "ShardHarbour$Shard" "target" "LShardHarbour$Machine;", Cond.methodLink RX5 156 yX5_cutInTwo, Cond.instanceMethod yX5_cutInTwo, Cond.selects RX5 yX5_cutInTwo yX5_cutInTwo, Cond.code yX5_cutInTwo cX5_cutInTwo 4 none]
def wsX5_split_r2 : List Cond := [Cond.methodLink RX5 274 yX5_bytesBetween, Cond.instanceMethod yX5_bytesBetween, Cond.selects RX5 yX5_bytesBetween yX5_bytesBetween, Cond.code yX5_bytesBetween cX5_bytesBetween 5 (some .int), Cond.fieldLink RX5 18 "ShardHarbour" "bytesAt" "[I"]
def wsX5_split : List Cond := .code yX5_split cX5_split 6 (some .int) :: ((wsX5_split_r1 ++ wsX5_split_r2) ++ wsX50 ++ wsX30 ++ wsX20 ++ (vx_atS RX5 85 "java/lang/IndexOutOfBoundsException" ["java/lang/RuntimeException", "java/lang/Exception"]).filter goodWord ++ (vx_atS RX5 63 "java/lang/IllegalStateException" ["java/lang/RuntimeException", "java/lang/Exception"]).filter goodWord)
def wsX5_isShard : List Cond := .code yX5_isShard cX5_isShard 2 (some .boolean) :: ([.fieldLink RX5 45 "ShardHarbour" "shardCount" "I"] ++ wsX50)
def wsX5_canBeJoined : List Cond := .code yX5_canBeJoined cX5_canBeJoined 3 (some .boolean) :: ([.instanceMethod yX3_isMoving, .initialized RX3, .selects RX3 yX3_isMoving yX3_isMoving, .code yX3_isMoving cX3_isMoving 1 (some .boolean), .fieldLink RX3 19 "ShardHarbour$Shard" "target" "LShardHarbour$Machine;"] ++ wsX30 ++ wsX20)
def wsX5_join : List Cond := .code yX5_join cX5_join 5 (some .int) :: ([.classLink RX5 81 "java/lang/IndexOutOfBoundsException", .initialized "java/lang/IndexOutOfBoundsException", .classLink RX5 59 "java/lang/IllegalStateException", .initialized "java/lang/IllegalStateException", .fieldLink RX5 38 "ShardHarbour" "shards" "[LShardHarbour$Shard;", .fieldLink RX5 45 "ShardHarbour" "shardCount" "I", .methodLink RX5 160 yX5_isShard, .instanceMethod yX5_isShard, .selects RX5 yX5_isShard yX5_isShard, .initialized RX5, .code yX5_isShard cX5_isShard 2 (some .boolean), .methodLink RX5 165 yX5_canBeJoined, .instanceMethod yX5_canBeJoined, .selects RX5 yX5_canBeJoined yX5_canBeJoined, .code yX5_canBeJoined cX5_canBeJoined 3 (some .boolean), .instanceMethod yX3_isMoving, .initialized RX3, .selects RX3 yX3_isMoving yX3_isMoving, .code yX3_isMoving cX3_isMoving 1 (some .boolean), .fieldLink RX3 19 "ShardHarbour$Shard" "target" "LShardHarbour$Machine;"] ++ wsX50 ++ wsX30 ++ wsX20 ++ (vx_atS RX5 85 "java/lang/IndexOutOfBoundsException" ["java/lang/RuntimeException", "java/lang/Exception"]).filter goodWord ++ (vx_atS RX5 63 "java/lang/IllegalStateException" ["java/lang/RuntimeException", "java/lang/Exception"]).filter goodWord)
def wsX5_move_r1 : List Cond := [Cond.classLink RX5 81 "java/lang/IndexOutOfBoundsException", Cond.initialized "java/lang/IndexOutOfBoundsException", Cond.classLink RX5 59 "java/lang/IllegalStateException", Cond.initialized "java/lang/IllegalStateException", Cond.fieldLink RX5 38 "ShardHarbour" "shards" "[LShardHarbour$Shard;", Cond.fieldLink RX5 32 "ShardHarbour" "machines" "[LShardHarbour$Machine;", Cond.methodLink RX5 160 yX5_isShard, Cond.instanceMethod yX5_isShard, Cond.selects RX5 yX5_isShard yX5_isShard, Cond.initialized RX5, Cond.code yX5_isShard cX5_isShard 2 (some .boolean), Cond.fieldLink RX5 45 "ShardHarbour" "shardCount" "I", Cond.methodLink RX5 77 yX5_isMachine, Cond.instanceMethod yX5_isMachine, Cond.selects RX5 yX5_isMachine yX5_isMachine, Cond.code yX5_isMachine cX5_isMachine 2 (some .boolean), Cond.fieldLink RX5 56 "ShardHarbour" "machineCount" "I", Cond.instanceMethod yX3_isMoving, Cond.initialized RX3, Cond.selects RX3 yX3_isMoving yX3_isMoving, Cond.code yX3_isMoving cX3_isMoving 1 (some .boolean), Cond.fieldLink RX3 19 "ShardHarbour$Shard" "target" "LShardHarbour$Machine;", Cond.instanceMethod yX3_aimAt, Cond.selects RX3 yX3_aimAt yX3_aimAt]
def wsX5_move_r2 : List Cond := [Cond.code yX3_aimAt cX3_aimAt 2 none, Cond.fieldLink RX3 34 "ShardHarbour$Shard" "first" "I", Cond.fieldLink RX3 31 "ShardHarbour$Shard" "nextToCopy" "I", Cond.fieldLink RX3 37 "ShardHarbour$Shard" "mayCopy" "I", Cond.fieldLink RX3 40 "ShardHarbour$Shard" "copied" "I"]
def wsX5_move : List Cond := .code yX5_move cX5_move 5 (some .int) :: ((wsX5_move_r1 ++ wsX5_move_r2) ++ wsX50 ++ wsX30 ++ wsX20 ++ (vx_atS RX5 85 "java/lang/IndexOutOfBoundsException" ["java/lang/RuntimeException", "java/lang/Exception"]).filter goodWord ++ (vx_atS RX5 63 "java/lang/IllegalStateException" ["java/lang/RuntimeException", "java/lang/Exception"]).filter goodWord)
def wsX5_callOff_r1 : List Cond := [Cond.classLink RX5 81 "java/lang/IndexOutOfBoundsException", Cond.initialized "java/lang/IndexOutOfBoundsException", Cond.classLink RX5 59 "java/lang/IllegalStateException", Cond.initialized "java/lang/IllegalStateException", Cond.fieldLink RX5 38 "ShardHarbour" "shards" "[LShardHarbour$Shard;", Cond.methodLink RX5 160 yX5_isShard, Cond.instanceMethod yX5_isShard, Cond.selects RX5 yX5_isShard yX5_isShard, Cond.initialized RX5, Cond.code yX5_isShard cX5_isShard 2 (some .boolean), Cond.fieldLink RX5 45 "ShardHarbour" "shardCount" "I", Cond.instanceMethod yX3_isMoving, Cond.initialized RX3, Cond.selects RX3 yX3_isMoving yX3_isMoving, Cond.code yX3_isMoving cX3_isMoving 1 (some .boolean), Cond.fieldLink RX3 19 "ShardHarbour$Shard" "target" "LShardHarbour$Machine;", Cond.methodLink RX5 187 yX5_failMove, Cond.instanceMethod yX5_failMove, Cond.selects RX5 yX5_failMove yX5_failMove, Cond.code yX5_failMove cX5_failMove 2 none, Cond.fieldLink RX5 14 "ShardHarbour" "nowhere" "LShardHarbour$Machine;", Cond.fieldLink RX5 248 "ShardHarbour" "movesFailed" "I", Cond.instanceMethod yX3_aimAt, Cond.selects RX3 yX3_aimAt yX3_aimAt]
def wsX5_callOff_r2 : List Cond := [Cond.code yX3_aimAt cX3_aimAt 2 none, Cond.fieldLink RX3 34 "ShardHarbour$Shard" "first" "I", Cond.fieldLink RX3 31 "ShardHarbour$Shard" "nextToCopy" "I", Cond.fieldLink RX3 37 "ShardHarbour$Shard" "mayCopy" "I", Cond.fieldLink RX3 40 "ShardHarbour$Shard" "copied" "I"]
def wsX5_callOff : List Cond := .code yX5_callOff cX5_callOff 3 (some .int) :: ((wsX5_callOff_r1 ++ wsX5_callOff_r2) ++ wsX50 ++ wsX30 ++ wsX20 ++ (vx_atS RX5 85 "java/lang/IndexOutOfBoundsException" ["java/lang/RuntimeException", "java/lang/Exception"]).filter goodWord ++ (vx_atS RX5 63 "java/lang/IllegalStateException" ["java/lang/RuntimeException", "java/lang/Exception"]).filter goodWord)
def wsX5_cutOver : List Cond := .code yX5_cutOver cX5_cutOver 2 none :: ([.fieldLink RX5 14 "ShardHarbour" "nowhere" "LShardHarbour$Machine;", .fieldLink RX5 245 "ShardHarbour" "movesDone" "I", .classLink RX5 237 RX1, .instantiable RX1 4, .initialized RX1, .fieldLink RX5 232 "ShardHarbour" "lastCutOver" "LShardHarbour$CutOver;", .instanceMethod yX3_aimAt, .initialized RX3, .selects RX3 yX3_aimAt yX3_aimAt, .code yX3_aimAt cX3_aimAt 2 none, .fieldLink RX3 19 "ShardHarbour$Shard" "target" "LShardHarbour$Machine;", .fieldLink RX3 34 "ShardHarbour$Shard" "first" "I", .fieldLink RX3 31 "ShardHarbour$Shard" "nextToCopy" "I", .fieldLink RX3 37 "ShardHarbour$Shard" "mayCopy" "I", .fieldLink RX3 40 "ShardHarbour$Shard" "copied" "I", .instanceMethod yX1_init, .code yX1_init cX1_init 5 none, .methodLink RX1 1 objectInit, .instanceMethod objectInit, .code objectInit ⟨#[0xb1]⟩ 1 none, .fieldLink RX1 7 "ShardHarbour$CutOver" "first" "I", .fieldLink RX1 13 "ShardHarbour$CutOver" "last" "I", .fieldLink RX1 16 "ShardHarbour$CutOver" "machine" "I", .fieldLink RX1 19 "ShardHarbour$CutOver" "earlier" "LShardHarbour$CutOver;"] ++ wsX30 ++ wsX20 ++ wsX50 ++ wsX10)
def wsX5_copyForOneHour_r1 : List Cond := [Cond.fieldLink RX5 18 "ShardHarbour" "bytesAt" "[I", Cond.instanceMethod yX2_hasRoomFor, Cond.initialized RX2, Cond.selects RX2 yX2_hasRoomFor yX2_hasRoomFor, Cond.code yX2_hasRoomFor cX2_hasRoomFor 2 (some .boolean), Cond.fieldLink RX2 13 "ShardHarbour$Machine" "held" "I", Cond.fieldLink RX2 16 "ShardHarbour$Machine" "room" "I", Cond.methodLink RX5 187 yX5_failMove, Cond.instanceMethod yX5_failMove, Cond.selects RX5 yX5_failMove yX5_failMove, Cond.initialized RX5, Cond.code yX5_failMove cX5_failMove 2 none, Cond.fieldLink RX5 14 "ShardHarbour" "nowhere" "LShardHarbour$Machine;", Cond.fieldLink RX5 248 "ShardHarbour" "movesFailed" "I", Cond.instanceMethod yX3_aimAt, Cond.initialized RX3, Cond.selects RX3 yX3_aimAt yX3_aimAt, Cond.code yX3_aimAt cX3_aimAt 2 none, Cond.fieldLink RX3 19 "ShardHarbour$Shard" "target" "LShardHarbour$Machine;", Cond.fieldLink RX3 34 "ShardHarbour$Shard" "first" "I", Cond.fieldLink RX3 31 "ShardHarbour$Shard" "nextToCopy" "I", Cond.fieldLink RX3 37 "ShardHarbour$Shard" "mayCopy" "I", Cond.fieldLink RX3 40 "ShardHarbour$Shard" "copied" "I", Cond.instanceMethod yX3_takeCopy]
def wsX5_copyForOneHour_r2 : List Cond := [Cond.selects RX3 yX3_takeCopy yX3_takeCopy, Cond.code yX3_takeCopy cX3_takeCopy 2 none, Cond.methodLink RX5 290 yX5_cutOver, Cond.instanceMethod yX5_cutOver, Cond.selects RX5 yX5_cutOver yX5_cutOver, Cond.code yX5_cutOver cX5_cutOver 2 none, Cond.fieldLink RX5 245 "ShardHarbour" "movesDone" "I", Cond.classLink RX5 237 RX1, Cond.instantiable RX1 4, Cond.initialized RX1, Cond.fieldLink RX5 232 "ShardHarbour" "lastCutOver" "LShardHarbour$CutOver;", Cond.instanceMethod yX1_init, Cond.code yX1_init cX1_init 5 none, Cond.methodLink RX1 1 objectInit, Cond.instanceMethod objectInit, Cond.code objectInit ⟨#[0xb1]⟩ 1 none, Cond.fieldLink RX1 7 "ShardHarbour$CutOver" "first" "I", Cond.fieldLink RX1 13 "ShardHarbour$CutOver" "last" "I", Cond.fieldLink RX1 16 "ShardHarbour$CutOver" "machine" "I", Cond.fieldLink RX1 19 "ShardHarbour$CutOver" "earlier" "LShardHarbour$CutOver;"]
def wsX5_copyForOneHour : List Cond := .code yX5_copyForOneHour cX5_copyForOneHour 4 none :: ((wsX5_copyForOneHour_r1 ++ wsX5_copyForOneHour_r2) ++ wsX30 ++ wsX50 ++ wsX20 ++ wsX10)
def wsX5_heatOf : List Cond := .code yX5_heatOf cX5_heatOf 4 (some .int) :: ([.fieldLink RX5 45 "ShardHarbour" "shardCount" "I", .fieldLink RX5 38 "ShardHarbour" "shards" "[LShardHarbour$Shard;"] ++ wsX50 ++ wsX30)
def wsX5_hottestMachineUp : List Cond := .code yX5_hottestMachineUp cX5_hottestMachineUp 4 (some (.object "ShardHarbour$Machine")) :: ([.fieldLink RX5 14 "ShardHarbour" "nowhere" "LShardHarbour$Machine;", .fieldLink RX5 56 "ShardHarbour" "machineCount" "I", .fieldLink RX5 32 "ShardHarbour" "machines" "[LShardHarbour$Machine;", .methodLink RX5 209 yX5_heatOf, .instanceMethod yX5_heatOf, .selects RX5 yX5_heatOf yX5_heatOf, .initialized RX5, .code yX5_heatOf cX5_heatOf 4 (some .int), .fieldLink RX5 45 "ShardHarbour" "shardCount" "I", .fieldLink RX5 38 "ShardHarbour" "shards" "[LShardHarbour$Shard;"] ++ wsX50 ++ wsX20 ++ wsX30)
def wsX5_coldestMachineUp : List Cond := .code yX5_coldestMachineUp cX5_coldestMachineUp 4 (some (.object "ShardHarbour$Machine")) :: ([.fieldLink RX5 14 "ShardHarbour" "nowhere" "LShardHarbour$Machine;", .fieldLink RX5 56 "ShardHarbour" "machineCount" "I", .fieldLink RX5 32 "ShardHarbour" "machines" "[LShardHarbour$Machine;", .methodLink RX5 209 yX5_heatOf, .instanceMethod yX5_heatOf, .selects RX5 yX5_heatOf yX5_heatOf, .initialized RX5, .code yX5_heatOf cX5_heatOf 4 (some .int), .fieldLink RX5 45 "ShardHarbour" "shardCount" "I", .fieldLink RX5 38 "ShardHarbour" "shards" "[LShardHarbour$Shard;"] ++ wsX50 ++ wsX20 ++ wsX30)
def wsX5_movesAwayFrom : List Cond := .code yX5_movesAwayFrom cX5_movesAwayFrom 3 (some .boolean) :: ([.fieldLink RX5 45 "ShardHarbour" "shardCount" "I", .fieldLink RX5 38 "ShardHarbour" "shards" "[LShardHarbour$Shard;", .instanceMethod yX3_isMoving, .initialized RX3, .selects RX3 yX3_isMoving yX3_isMoving, .code yX3_isMoving cX3_isMoving 1 (some .boolean), .fieldLink RX3 19 "ShardHarbour$Shard" "target" "LShardHarbour$Machine;"] ++ wsX50 ++ wsX30 ++ wsX20)
def wsX5_hottestShardOn : List Cond := .code yX5_hottestShardOn cX5_hottestShardOn 4 (some .int) :: ([.fieldLink RX5 45 "ShardHarbour" "shardCount" "I", .fieldLink RX5 38 "ShardHarbour" "shards" "[LShardHarbour$Shard;"] ++ wsX50 ++ wsX30)
def wsX5_drawMoveByHeat_r1 : List Cond := [Cond.fieldLink RX5 101 "ShardHarbour" "heatLimit" "I", Cond.fieldLink RX5 38 "ShardHarbour" "shards" "[LShardHarbour$Shard;", Cond.methodLink RX5 299 yX5_hottestMachineUp, Cond.instanceMethod yX5_hottestMachineUp, Cond.selects RX5 yX5_hottestMachineUp yX5_hottestMachineUp, Cond.initialized RX5, Cond.code yX5_hottestMachineUp cX5_hottestMachineUp 4 (some (.object "ShardHarbour$Machine")), Cond.fieldLink RX5 14 "ShardHarbour" "nowhere" "LShardHarbour$Machine;", Cond.fieldLink RX5 56 "ShardHarbour" "machineCount" "I", Cond.fieldLink RX5 32 "ShardHarbour" "machines" "[LShardHarbour$Machine;", Cond.methodLink RX5 209 yX5_heatOf, Cond.instanceMethod yX5_heatOf, Cond.selects RX5 yX5_heatOf yX5_heatOf, Cond.code yX5_heatOf cX5_heatOf 4 (some .int), Cond.fieldLink RX5 45 "ShardHarbour" "shardCount" "I", Cond.methodLink RX5 303 yX5_coldestMachineUp, Cond.instanceMethod yX5_coldestMachineUp, Cond.selects RX5 yX5_coldestMachineUp yX5_coldestMachineUp, Cond.code yX5_coldestMachineUp cX5_coldestMachineUp 4 (some (.object "ShardHarbour$Machine")), Cond.methodLink RX5 306 yX5_movesAwayFrom, Cond.instanceMethod yX5_movesAwayFrom, Cond.selects RX5 yX5_movesAwayFrom yX5_movesAwayFrom, Cond.code yX5_movesAwayFrom cX5_movesAwayFrom 3 (some .boolean), Cond.instanceMethod yX3_isMoving]
def wsX5_drawMoveByHeat_r2 : List Cond := [Cond.initialized RX3, Cond.selects RX3 yX3_isMoving yX3_isMoving, Cond.code yX3_isMoving cX3_isMoving 1 (some .boolean), Cond.fieldLink RX3 19 "ShardHarbour$Shard" "target" "LShardHarbour$Machine;", Cond.methodLink RX5 310 yX5_hottestShardOn, Cond.instanceMethod yX5_hottestShardOn, Cond.selects RX5 yX5_hottestShardOn yX5_hottestShardOn, Cond.code yX5_hottestShardOn cX5_hottestShardOn 4 (some .int), Cond.methodLink RX5 160 yX5_isShard, Cond.instanceMethod yX5_isShard, Cond.selects RX5 yX5_isShard yX5_isShard, Cond.code yX5_isShard cX5_isShard 2 (some .boolean), Cond.instanceMethod yX3_aimAt, Cond.selects RX3 yX3_aimAt yX3_aimAt, Cond.code yX3_aimAt cX3_aimAt 2 none, Cond.fieldLink RX3 34 "ShardHarbour$Shard" "first" "I", Cond.fieldLink RX3 31 "ShardHarbour$Shard" "nextToCopy" "I", Cond.fieldLink RX3 37 "ShardHarbour$Shard" "mayCopy" "I", Cond.fieldLink RX3 40 "ShardHarbour$Shard" "copied" "I"]
def wsX5_drawMoveByHeat : List Cond := .code yX5_drawMoveByHeat cX5_drawMoveByHeat 4 none :: ((wsX5_drawMoveByHeat_r1 ++ wsX5_drawMoveByHeat_r2) ++ wsX50 ++ wsX30 ++ wsX20)
def wsX5_passOneHour_r1 : List Cond := [Cond.fieldLink RX5 193 "ShardHarbour" "hour" "I", Cond.fieldLink RX5 45 "ShardHarbour" "shardCount" "I", Cond.fieldLink RX5 38 "ShardHarbour" "shards" "[LShardHarbour$Shard;", Cond.fieldLink RX5 27 "ShardHarbour" "tenants" "[LShardHarbour$Tenant;", Cond.fieldLink RX5 101 "ShardHarbour" "heatLimit" "I", Cond.instanceMethod yX3_isMoving, Cond.initialized RX3, Cond.selects RX3 yX3_isMoving yX3_isMoving, Cond.code yX3_isMoving cX3_isMoving 1 (some .boolean), Cond.fieldLink RX3 19 "ShardHarbour$Shard" "target" "LShardHarbour$Machine;", Cond.methodLink RX5 293 yX5_copyForOneHour, Cond.instanceMethod yX5_copyForOneHour, Cond.selects RX5 yX5_copyForOneHour yX5_copyForOneHour, Cond.initialized RX5, Cond.code yX5_copyForOneHour cX5_copyForOneHour 4 none, Cond.fieldLink RX5 18 "ShardHarbour" "bytesAt" "[I", Cond.instanceMethod yX2_hasRoomFor, Cond.initialized RX2, Cond.selects RX2 yX2_hasRoomFor yX2_hasRoomFor, Cond.code yX2_hasRoomFor cX2_hasRoomFor 2 (some .boolean), Cond.fieldLink RX2 13 "ShardHarbour$Machine" "held" "I", Cond.fieldLink RX2 16 "ShardHarbour$Machine" "room" "I", Cond.methodLink RX5 187 yX5_failMove, Cond.instanceMethod yX5_failMove]
def wsX5_passOneHour_r2 : List Cond := [Cond.selects RX5 yX5_failMove yX5_failMove, Cond.code yX5_failMove cX5_failMove 2 none, Cond.fieldLink RX5 14 "ShardHarbour" "nowhere" "LShardHarbour$Machine;", Cond.fieldLink RX5 248 "ShardHarbour" "movesFailed" "I", Cond.instanceMethod yX3_aimAt, Cond.selects RX3 yX3_aimAt yX3_aimAt, Cond.code yX3_aimAt cX3_aimAt 2 none, Cond.fieldLink RX3 34 "ShardHarbour$Shard" "first" "I", Cond.fieldLink RX3 31 "ShardHarbour$Shard" "nextToCopy" "I", Cond.fieldLink RX3 37 "ShardHarbour$Shard" "mayCopy" "I", Cond.fieldLink RX3 40 "ShardHarbour$Shard" "copied" "I", Cond.instanceMethod yX3_takeCopy, Cond.selects RX3 yX3_takeCopy yX3_takeCopy, Cond.code yX3_takeCopy cX3_takeCopy 2 none, Cond.methodLink RX5 290 yX5_cutOver, Cond.instanceMethod yX5_cutOver, Cond.selects RX5 yX5_cutOver yX5_cutOver, Cond.code yX5_cutOver cX5_cutOver 2 none, Cond.fieldLink RX5 245 "ShardHarbour" "movesDone" "I", Cond.classLink RX5 237 RX1, Cond.instantiable RX1 4, Cond.initialized RX1, Cond.fieldLink RX5 232 "ShardHarbour" "lastCutOver" "LShardHarbour$CutOver;", Cond.instanceMethod yX1_init]
def wsX5_passOneHour_r3 : List Cond := [Cond.code yX1_init cX1_init 5 none, Cond.methodLink RX1 1 objectInit, Cond.instanceMethod objectInit, Cond.code objectInit ⟨#[0xb1]⟩ 1 none, Cond.fieldLink RX1 7 "ShardHarbour$CutOver" "first" "I", Cond.fieldLink RX1 13 "ShardHarbour$CutOver" "last" "I", Cond.fieldLink RX1 16 "ShardHarbour$CutOver" "machine" "I", Cond.fieldLink RX1 19 "ShardHarbour$CutOver" "earlier" "LShardHarbour$CutOver;", Cond.methodLink RX5 296 yX5_drawMoveByHeat, Cond.instanceMethod yX5_drawMoveByHeat, Cond.selects RX5 yX5_drawMoveByHeat yX5_drawMoveByHeat, Cond.code yX5_drawMoveByHeat cX5_drawMoveByHeat 4 none, Cond.methodLink RX5 299 yX5_hottestMachineUp, Cond.instanceMethod yX5_hottestMachineUp, Cond.selects RX5 yX5_hottestMachineUp yX5_hottestMachineUp, Cond.code yX5_hottestMachineUp cX5_hottestMachineUp 4 (some (.object "ShardHarbour$Machine")), Cond.fieldLink RX5 56 "ShardHarbour" "machineCount" "I", Cond.fieldLink RX5 32 "ShardHarbour" "machines" "[LShardHarbour$Machine;", Cond.methodLink RX5 209 yX5_heatOf, Cond.instanceMethod yX5_heatOf, Cond.selects RX5 yX5_heatOf yX5_heatOf, Cond.code yX5_heatOf cX5_heatOf 4 (some .int), Cond.methodLink RX5 303 yX5_coldestMachineUp, Cond.instanceMethod yX5_coldestMachineUp]
def wsX5_passOneHour_r4 : List Cond := [Cond.selects RX5 yX5_coldestMachineUp yX5_coldestMachineUp, Cond.code yX5_coldestMachineUp cX5_coldestMachineUp 4 (some (.object "ShardHarbour$Machine")), Cond.methodLink RX5 306 yX5_movesAwayFrom, Cond.instanceMethod yX5_movesAwayFrom, Cond.selects RX5 yX5_movesAwayFrom yX5_movesAwayFrom, Cond.code yX5_movesAwayFrom cX5_movesAwayFrom 3 (some .boolean), Cond.methodLink RX5 310 yX5_hottestShardOn, Cond.instanceMethod yX5_hottestShardOn, Cond.selects RX5 yX5_hottestShardOn yX5_hottestShardOn, Cond.code yX5_hottestShardOn cX5_hottestShardOn 4 (some .int), Cond.methodLink RX5 160 yX5_isShard, Cond.instanceMethod yX5_isShard, Cond.selects RX5 yX5_isShard yX5_isShard, Cond.code yX5_isShard cX5_isShard 2 (some .boolean)]
def wsX5_passOneHour : List Cond := .code yX5_passOneHour cX5_passOneHour 2 none :: ((wsX5_passOneHour_r1 ++ (wsX5_passOneHour_r2 ++ (wsX5_passOneHour_r3 ++ wsX5_passOneHour_r4))) ++ wsX50 ++ wsX40 ++ wsX30 ++ wsX20 ++ wsX10)
def wsX5_pass_r1 : List Cond := [Cond.classLink RX5 49 "java/lang/IllegalArgumentException", Cond.initialized "java/lang/IllegalArgumentException", Cond.classLink RX5 59 "java/lang/IllegalStateException", Cond.initialized "java/lang/IllegalStateException", Cond.fieldLink RX5 193 "ShardHarbour" "hour" "I", Cond.methodLink RX5 198 yX5_passOneHour, Cond.instanceMethod yX5_passOneHour, Cond.selects RX5 yX5_passOneHour yX5_passOneHour, Cond.initialized RX5, Cond.code yX5_passOneHour cX5_passOneHour 2 none, Cond.fieldLink RX5 45 "ShardHarbour" "shardCount" "I", Cond.fieldLink RX5 38 "ShardHarbour" "shards" "[LShardHarbour$Shard;", Cond.fieldLink RX5 27 "ShardHarbour" "tenants" "[LShardHarbour$Tenant;", Cond.fieldLink RX5 101 "ShardHarbour" "heatLimit" "I", Cond.instanceMethod yX3_isMoving, Cond.initialized RX3, Cond.selects RX3 yX3_isMoving yX3_isMoving, Cond.code yX3_isMoving cX3_isMoving 1 (some .boolean), Cond.fieldLink RX3 19 "ShardHarbour$Shard" "target" "LShardHarbour$Machine;", Cond.methodLink RX5 293 yX5_copyForOneHour, Cond.instanceMethod yX5_copyForOneHour, Cond.selects RX5 yX5_copyForOneHour yX5_copyForOneHour, Cond.code yX5_copyForOneHour cX5_copyForOneHour 4 none, Cond.fieldLink RX5 18 "ShardHarbour" "bytesAt" "[I"]
def wsX5_pass_r2 : List Cond := [Cond.instanceMethod yX2_hasRoomFor, Cond.initialized RX2, Cond.selects RX2 yX2_hasRoomFor yX2_hasRoomFor, Cond.code yX2_hasRoomFor cX2_hasRoomFor 2 (some .boolean), Cond.fieldLink RX2 13 "ShardHarbour$Machine" "held" "I", Cond.fieldLink RX2 16 "ShardHarbour$Machine" "room" "I", Cond.methodLink RX5 187 yX5_failMove, Cond.instanceMethod yX5_failMove, Cond.selects RX5 yX5_failMove yX5_failMove, Cond.code yX5_failMove cX5_failMove 2 none, Cond.fieldLink RX5 14 "ShardHarbour" "nowhere" "LShardHarbour$Machine;", Cond.fieldLink RX5 248 "ShardHarbour" "movesFailed" "I", Cond.instanceMethod yX3_aimAt, Cond.selects RX3 yX3_aimAt yX3_aimAt, Cond.code yX3_aimAt cX3_aimAt 2 none, Cond.fieldLink RX3 34 "ShardHarbour$Shard" "first" "I", Cond.fieldLink RX3 31 "ShardHarbour$Shard" "nextToCopy" "I", Cond.fieldLink RX3 37 "ShardHarbour$Shard" "mayCopy" "I", Cond.fieldLink RX3 40 "ShardHarbour$Shard" "copied" "I", Cond.instanceMethod yX3_takeCopy, Cond.selects RX3 yX3_takeCopy yX3_takeCopy, Cond.code yX3_takeCopy cX3_takeCopy 2 none, Cond.methodLink RX5 290 yX5_cutOver, Cond.instanceMethod yX5_cutOver]
def wsX5_pass_r3 : List Cond := [Cond.selects RX5 yX5_cutOver yX5_cutOver, Cond.code yX5_cutOver cX5_cutOver 2 none, Cond.fieldLink RX5 245 "ShardHarbour" "movesDone" "I", Cond.classLink RX5 237 RX1, Cond.instantiable RX1 4, Cond.initialized RX1, Cond.fieldLink RX5 232 "ShardHarbour" "lastCutOver" "LShardHarbour$CutOver;", Cond.instanceMethod yX1_init, Cond.code yX1_init cX1_init 5 none, Cond.methodLink RX1 1 objectInit, Cond.instanceMethod objectInit, Cond.code objectInit ⟨#[0xb1]⟩ 1 none, Cond.fieldLink RX1 7 "ShardHarbour$CutOver" "first" "I", Cond.fieldLink RX1 13 "ShardHarbour$CutOver" "last" "I", Cond.fieldLink RX1 16 "ShardHarbour$CutOver" "machine" "I", Cond.fieldLink RX1 19 "ShardHarbour$CutOver" "earlier" "LShardHarbour$CutOver;", Cond.methodLink RX5 296 yX5_drawMoveByHeat, Cond.instanceMethod yX5_drawMoveByHeat, Cond.selects RX5 yX5_drawMoveByHeat yX5_drawMoveByHeat, Cond.code yX5_drawMoveByHeat cX5_drawMoveByHeat 4 none, Cond.methodLink RX5 299 yX5_hottestMachineUp, Cond.instanceMethod yX5_hottestMachineUp, Cond.selects RX5 yX5_hottestMachineUp yX5_hottestMachineUp, Cond.code yX5_hottestMachineUp cX5_hottestMachineUp 4 (some (.object "ShardHarbour$Machine"))]
def wsX5_pass_r4 : List Cond := [Cond.fieldLink RX5 56 "ShardHarbour" "machineCount" "I", Cond.fieldLink RX5 32 "ShardHarbour" "machines" "[LShardHarbour$Machine;", Cond.methodLink RX5 209 yX5_heatOf, Cond.instanceMethod yX5_heatOf, Cond.selects RX5 yX5_heatOf yX5_heatOf, Cond.code yX5_heatOf cX5_heatOf 4 (some .int), Cond.methodLink RX5 303 yX5_coldestMachineUp, Cond.instanceMethod yX5_coldestMachineUp, Cond.selects RX5 yX5_coldestMachineUp yX5_coldestMachineUp, Cond.code yX5_coldestMachineUp cX5_coldestMachineUp 4 (some (.object "ShardHarbour$Machine")), Cond.methodLink RX5 306 yX5_movesAwayFrom, Cond.instanceMethod yX5_movesAwayFrom, Cond.selects RX5 yX5_movesAwayFrom yX5_movesAwayFrom, Cond.code yX5_movesAwayFrom cX5_movesAwayFrom 3 (some .boolean), Cond.methodLink RX5 310 yX5_hottestShardOn, Cond.instanceMethod yX5_hottestShardOn, Cond.selects RX5 yX5_hottestShardOn yX5_hottestShardOn, Cond.code yX5_hottestShardOn cX5_hottestShardOn 4 (some .int), Cond.methodLink RX5 160 yX5_isShard, Cond.instanceMethod yX5_isShard, Cond.selects RX5 yX5_isShard yX5_isShard, Cond.code yX5_isShard cX5_isShard 2 (some .boolean)]
def wsX5_pass : List Cond := .code yX5_pass cX5_pass 3 (some .int) :: ((wsX5_pass_r1 ++ (wsX5_pass_r2 ++ (wsX5_pass_r3 ++ wsX5_pass_r4))) ++ wsX50 ++ wsX40 ++ wsX30 ++ wsX20 ++ wsX10 ++ (vx_atS RX5 53 "java/lang/IllegalArgumentException" ["java/lang/RuntimeException", "java/lang/Exception"]).filter goodWord ++ (vx_atS RX5 63 "java/lang/IllegalStateException" ["java/lang/RuntimeException", "java/lang/Exception"]).filter goodWord)
def wsX5_hour : List Cond := .code yX5_hour cX5_hour 1 (some .int) :: ([.fieldLink RX5 193 "ShardHarbour" "hour" "I"] ++ wsX50)
def wsX5_shards : List Cond := .code yX5_shards cX5_shards 1 (some .int) :: ([.fieldLink RX5 45 "ShardHarbour" "shardCount" "I"] ++ wsX50)
def wsX5_shardOf : List Cond := .code yX5_shardOf cX5_shardOf 2 (some .int) :: ([.classLink RX5 81 "java/lang/IndexOutOfBoundsException", .initialized "java/lang/IndexOutOfBoundsException", .methodLink RX5 104 yX5_isKey, .instanceMethod yX5_isKey, .selects RX5 yX5_isKey yX5_isKey, .initialized RX5, .code yX5_isKey cX5_isKey 2 (some .boolean), .methodLink RX5 109 yX5_numberOfShardWith, .instanceMethod yX5_numberOfShardWith, .selects RX5 yX5_numberOfShardWith yX5_numberOfShardWith, .code yX5_numberOfShardWith cX5_numberOfShardWith 3 (some .int), .fieldLink RX5 45 "ShardHarbour" "shardCount" "I", .fieldLink RX5 38 "ShardHarbour" "shards" "[LShardHarbour$Shard;"] ++ wsX50 ++ wsX30 ++ (vx_atS RX5 85 "java/lang/IndexOutOfBoundsException" ["java/lang/RuntimeException", "java/lang/Exception"]).filter goodWord)
def wsX5_shard : List Cond := .code yX5_shard cX5_shard 4 (some .int) :: ([.classLink RX5 81 "java/lang/IndexOutOfBoundsException", .initialized "java/lang/IndexOutOfBoundsException", .classLink RX5 49 "java/lang/IllegalArgumentException", .initialized "java/lang/IllegalArgumentException", .fieldLink RX5 38 "ShardHarbour" "shards" "[LShardHarbour$Shard;", .methodLink RX5 160 yX5_isShard, .instanceMethod yX5_isShard, .selects RX5 yX5_isShard yX5_isShard, .initialized RX5, .code yX5_isShard cX5_isShard 2 (some .boolean), .fieldLink RX5 45 "ShardHarbour" "shardCount" "I"] ++ wsX50 ++ wsX30 ++ wsX20 ++ (vx_atS RX5 85 "java/lang/IndexOutOfBoundsException" ["java/lang/RuntimeException", "java/lang/Exception"]).filter goodWord ++ (vx_atS RX5 53 "java/lang/IllegalArgumentException" ["java/lang/RuntimeException", "java/lang/Exception"]).filter goodWord)
def wsX5_shardCountOn : List Cond := .code yX5_shardCountOn cX5_shardCountOn 4 (some .int) :: ([.fieldLink RX5 45 "ShardHarbour" "shardCount" "I", .fieldLink RX5 38 "ShardHarbour" "shards" "[LShardHarbour$Shard;"] ++ wsX50 ++ wsX30)
def wsX5_machineOf : List Cond := .code yX5_machineOf cX5_machineOf 4 (some .int) :: ([.classLink RX5 81 "java/lang/IndexOutOfBoundsException", .initialized "java/lang/IndexOutOfBoundsException", .classLink RX5 49 "java/lang/IllegalArgumentException", .initialized "java/lang/IllegalArgumentException", .fieldLink RX5 32 "ShardHarbour" "machines" "[LShardHarbour$Machine;", .methodLink RX5 77 yX5_isMachine, .instanceMethod yX5_isMachine, .selects RX5 yX5_isMachine yX5_isMachine, .initialized RX5, .code yX5_isMachine cX5_isMachine 2 (some .boolean), .fieldLink RX5 56 "ShardHarbour" "machineCount" "I", .methodLink RX5 209 yX5_heatOf, .instanceMethod yX5_heatOf, .selects RX5 yX5_heatOf yX5_heatOf, .code yX5_heatOf cX5_heatOf 4 (some .int), .fieldLink RX5 45 "ShardHarbour" "shardCount" "I", .fieldLink RX5 38 "ShardHarbour" "shards" "[LShardHarbour$Shard;", .methodLink RX5 213 yX5_shardCountOn, .instanceMethod yX5_shardCountOn, .selects RX5 yX5_shardCountOn yX5_shardCountOn, .code yX5_shardCountOn cX5_shardCountOn 4 (some .int)] ++ wsX50 ++ wsX20 ++ wsX30 ++ (vx_atS RX5 85 "java/lang/IndexOutOfBoundsException" ["java/lang/RuntimeException", "java/lang/Exception"]).filter goodWord ++ (vx_atS RX5 53 "java/lang/IllegalArgumentException" ["java/lang/RuntimeException", "java/lang/Exception"]).filter goodWord)
def wsX5_tenant : List Cond := .code yX5_tenant cX5_tenant 4 (some .int) :: ([.classLink RX5 81 "java/lang/IndexOutOfBoundsException", .initialized "java/lang/IndexOutOfBoundsException", .classLink RX5 49 "java/lang/IllegalArgumentException", .initialized "java/lang/IllegalArgumentException", .fieldLink RX5 27 "ShardHarbour" "tenants" "[LShardHarbour$Tenant;", .methodLink RX5 89 yX5_isTenant, .instanceMethod yX5_isTenant, .selects RX5 yX5_isTenant yX5_isTenant, .initialized RX5, .code yX5_isTenant cX5_isTenant 2 (some .boolean)] ++ wsX50 ++ wsX40 ++ (vx_atS RX5 85 "java/lang/IndexOutOfBoundsException" ["java/lang/RuntimeException", "java/lang/Exception"]).filter goodWord ++ (vx_atS RX5 53 "java/lang/IllegalArgumentException" ["java/lang/RuntimeException", "java/lang/Exception"]).filter goodWord)
def wsX5_billAnew : List Cond := .code yX5_billAnew cX5_billAnew 4 (some .int) :: ([.classLink RX5 81 "java/lang/IndexOutOfBoundsException", .initialized "java/lang/IndexOutOfBoundsException", .fieldLink RX5 219 "ShardHarbour" "lastChange" "LShardHarbour$Change;", .fieldLink RX5 193 "ShardHarbour" "hour" "I", .methodLink RX5 89 yX5_isTenant, .instanceMethod yX5_isTenant, .selects RX5 yX5_isTenant yX5_isTenant, .initialized RX5, .code yX5_isTenant cX5_isTenant 2 (some .boolean), .instanceMethod yX0_moreBytesOf, .initialized RX0, .selects RX0 yX0_moreBytesOf yX0_moreBytesOf, .code yX0_moreBytesOf cX0_moreBytesOf 4 (some .int), .fieldLink RX0 23 "ShardHarbour$Change" "tenantBehind" "I", .fieldLink RX0 26 "ShardHarbour$Change" "bytesBehind" "I", .fieldLink RX0 17 "ShardHarbour$Change" "tenantBefore" "I", .fieldLink RX0 20 "ShardHarbour$Change" "bytesBefore" "I"] ++ wsX50 ++ wsX00 ++ (vx_atS RX5 85 "java/lang/IndexOutOfBoundsException" ["java/lang/RuntimeException", "java/lang/Exception"]).filter goodWord)
def wsX5_whereAnew : List Cond := .code yX5_whereAnew cX5_whereAnew 3 (some .int) :: ([.classLink RX5 81 "java/lang/IndexOutOfBoundsException", .initialized "java/lang/IndexOutOfBoundsException", .fieldLink RX5 232 "ShardHarbour" "lastCutOver" "LShardHarbour$CutOver;", .fieldLink RX5 56 "ShardHarbour" "machineCount" "I", .methodLink RX5 104 yX5_isKey, .instanceMethod yX5_isKey, .selects RX5 yX5_isKey yX5_isKey, .initialized RX5, .code yX5_isKey cX5_isKey 2 (some .boolean)] ++ wsX50 ++ wsX10 ++ (vx_atS RX5 85 "java/lang/IndexOutOfBoundsException" ["java/lang/RuntimeException", "java/lang/Exception"]).filter goodWord)
def wsX5_moves : List Cond := .code yX5_moves cX5_moves 2 (some .int) :: ([.fieldLink RX5 245 "ShardHarbour" "movesDone" "I", .fieldLink RX5 248 "ShardHarbour" "movesFailed" "I"] ++ wsX50)
def wsX6_init : List Cond := .code yX6_init cX6_init 2 none :: ([.methodLink RX6 1 objectInit, .instanceMethod objectInit, .code objectInit ⟨#[0xb1]⟩ 1 none, .arrayClass .int, .fieldLink RX6 7 "ShardHarbourModel" "room" "[I", .arrayClass .boolean, .fieldLink RX6 13 "ShardHarbourModel" "isDown" "[Z", .fieldLink RX6 17 "ShardHarbourModel" "quota" "[I", .fieldLink RX6 20 "ShardHarbourModel" "bill" "[I", .fieldLink RX6 23 "ShardHarbourModel" "owner" "[I", .fieldLink RX6 26 "ShardHarbourModel" "bytes" "[I", .fieldLink RX6 29 "ShardHarbourModel" "shards" "I", .fieldLink RX6 33 "ShardHarbourModel" "first" "[I", .fieldLink RX6 36 "ShardHarbourModel" "on" "[I", .fieldLink RX6 39 "ShardHarbourModel" "to" "[I", .fieldLink RX6 42 "ShardHarbourModel" "next" "[I", .fieldLink RX6 45 "ShardHarbourModel" "left" "[I", .fieldLink RX6 48 "ShardHarbourModel" "heat" "[I"] ++ wsX60)
def wsX6_thrown : List Cond := .code yX6_thrown cX6_thrown 1 (some .int) :: ([.fieldLink RX6 51 "ShardHarbourModel" "thrown" "I"] ++ wsX60)
def wsX6_in : List Cond := .code yX6_in cX6_in 3 (some .boolean) :: ([])
def wsX6_refused : List Cond := .code yX6_refused cX6_refused 2 (some .boolean) :: ([.fieldLink RX6 51 "ShardHarbourModel" "thrown" "I"] ++ wsX60)
def wsX6_isKey : List Cond := .code yX6_isKey cX6_isKey 1 (some .boolean) :: ([.methodLink RX6 54 yX6_in, .static yX6_in, .initialized RX6, .code yX6_in cX6_in 3 (some .boolean)])
def wsX6_isTenant : List Cond := .code yX6_isTenant cX6_isTenant 1 (some .boolean) :: ([.methodLink RX6 54 yX6_in, .static yX6_in, .initialized RX6, .code yX6_in cX6_in 3 (some .boolean)])
def wsX6_isMachine : List Cond := .code yX6_isMachine cX6_isMachine 2 (some .boolean) :: ([.fieldLink RX6 58 "ShardHarbourModel" "machines" "I", .methodLink RX6 54 yX6_in, .static yX6_in, .initialized RX6, .code yX6_in cX6_in 3 (some .boolean)] ++ wsX60)
def wsX6_isShard : List Cond := .code yX6_isShard cX6_isShard 2 (some .boolean) :: ([.fieldLink RX6 29 "ShardHarbourModel" "shards" "I", .methodLink RX6 54 yX6_in, .static yX6_in, .initialized RX6, .code yX6_in cX6_in 3 (some .boolean)] ++ wsX60)
def wsX6_shardAt : List Cond := .code yX6_shardAt cX6_shardAt 3 (some .int) :: ([.fieldLink RX6 33 "ShardHarbourModel" "first" "[I"] ++ wsX60)
def wsX6_sum : List Cond := .code yX6_sum cX6_sum 5 (some .int) :: ([.fieldLink RX6 26 "ShardHarbourModel" "bytes" "[I"] ++ wsX60)
def wsX6_sizeOf : List Cond := .code yX6_sizeOf cX6_sizeOf 2 (some .int) :: ([.fieldLink RX6 33 "ShardHarbourModel" "first" "[I", .methodLink RX6 61 yX6_sum, .instanceMethod yX6_sum, .selects RX6 yX6_sum yX6_sum, .initialized RX6, .code yX6_sum cX6_sum 5 (some .int), .fieldLink RX6 26 "ShardHarbourModel" "bytes" "[I"] ++ wsX60)
def wsX6_copied : List Cond := .code yX6_copied cX6_copied 2 (some .int) :: ([.fieldLink RX6 39 "ShardHarbourModel" "to" "[I", .fieldLink RX6 33 "ShardHarbourModel" "first" "[I", .fieldLink RX6 42 "ShardHarbourModel" "next" "[I", .methodLink RX6 61 yX6_sum, .instanceMethod yX6_sum, .selects RX6 yX6_sum yX6_sum, .initialized RX6, .code yX6_sum cX6_sum 5 (some .int), .fieldLink RX6 26 "ShardHarbourModel" "bytes" "[I"] ++ wsX60)
def wsX6_held : List Cond := .code yX6_held cX6_held 4 (some .int) :: ([.fieldLink RX6 29 "ShardHarbourModel" "shards" "I", .fieldLink RX6 36 "ShardHarbourModel" "on" "[I", .fieldLink RX6 39 "ShardHarbourModel" "to" "[I", .methodLink RX6 65 yX6_sizeOf, .instanceMethod yX6_sizeOf, .selects RX6 yX6_sizeOf yX6_sizeOf, .initialized RX6, .code yX6_sizeOf cX6_sizeOf 2 (some .int), .fieldLink RX6 33 "ShardHarbourModel" "first" "[I", .methodLink RX6 61 yX6_sum, .instanceMethod yX6_sum, .selects RX6 yX6_sum yX6_sum, .code yX6_sum cX6_sum 5 (some .int), .fieldLink RX6 26 "ShardHarbourModel" "bytes" "[I", .methodLink RX6 69 yX6_copied, .instanceMethod yX6_copied, .selects RX6 yX6_copied yX6_copied, .code yX6_copied cX6_copied 2 (some .int), .fieldLink RX6 42 "ShardHarbourModel" "next" "[I"] ++ wsX60)
def wsX6_bytesOf : List Cond := .code yX6_bytesOf cX6_bytesOf 4 (some .int) :: ([.fieldLink RX6 23 "ShardHarbourModel" "owner" "[I", .fieldLink RX6 26 "ShardHarbourModel" "bytes" "[I"] ++ wsX60)
def wsX6_rollBack : List Cond := .code yX6_rollBack cX6_rollBack 2 none :: ([.fieldLink RX6 39 "ShardHarbourModel" "to" "[I", .fieldLink RX6 72 "ShardHarbourModel" "failed" "I"] ++ wsX60)
def wsX6_machine : List Cond := .code yX6_machine cX6_machine 3 (some .int) :: ([.fieldLink RX6 58 "ShardHarbourModel" "machines" "I", .fieldLink RX6 7 "ShardHarbourModel" "room" "[I", .fieldLink RX6 29 "ShardHarbourModel" "shards" "I", .fieldLink RX6 36 "ShardHarbourModel" "on" "[I", .methodLink RX6 54 yX6_in, .static yX6_in, .initialized RX6, .code yX6_in cX6_in 3 (some .boolean), .methodLink RX6 75 yX6_refused, .instanceMethod yX6_refused, .selects RX6 yX6_refused yX6_refused, .code yX6_refused cX6_refused 2 (some .boolean), .fieldLink RX6 51 "ShardHarbourModel" "thrown" "I"] ++ wsX60)
def wsX6_down : List Cond := .code yX6_down cX6_down 5 (some .boolean) :: ([.fieldLink RX6 13 "ShardHarbourModel" "isDown" "[Z", .fieldLink RX6 29 "ShardHarbourModel" "shards" "I", .fieldLink RX6 39 "ShardHarbourModel" "to" "[I", .fieldLink RX6 36 "ShardHarbourModel" "on" "[I", .methodLink RX6 79 yX6_isMachine, .instanceMethod yX6_isMachine, .selects RX6 yX6_isMachine yX6_isMachine, .initialized RX6, .code yX6_isMachine cX6_isMachine 2 (some .boolean), .fieldLink RX6 58 "ShardHarbourModel" "machines" "I", .methodLink RX6 54 yX6_in, .static yX6_in, .code yX6_in cX6_in 3 (some .boolean), .methodLink RX6 75 yX6_refused, .instanceMethod yX6_refused, .selects RX6 yX6_refused yX6_refused, .code yX6_refused cX6_refused 2 (some .boolean), .fieldLink RX6 51 "ShardHarbourModel" "thrown" "I", .methodLink RX6 82 yX6_rollBack, .instanceMethod yX6_rollBack, .selects RX6 yX6_rollBack yX6_rollBack, .code yX6_rollBack cX6_rollBack 2 none, .fieldLink RX6 72 "ShardHarbourModel" "failed" "I"] ++ wsX60)
def wsX6_quota : List Cond := .code yX6_quota cX6_quota 4 (some .int) :: ([.fieldLink RX6 17 "ShardHarbourModel" "quota" "[I", .methodLink RX6 86 yX6_isTenant, .static yX6_isTenant, .initialized RX6, .code yX6_isTenant cX6_isTenant 1 (some .boolean), .methodLink RX6 54 yX6_in, .static yX6_in, .code yX6_in cX6_in 3 (some .boolean), .methodLink RX6 75 yX6_refused, .instanceMethod yX6_refused, .selects RX6 yX6_refused yX6_refused, .code yX6_refused cX6_refused 2 (some .boolean), .fieldLink RX6 51 "ShardHarbourModel" "thrown" "I"] ++ wsX60)
def wsX6_limit : List Cond := .code yX6_limit cX6_limit 3 (some .int) :: ([.fieldLink RX6 89 "ShardHarbourModel" "limit" "I", .methodLink RX6 54 yX6_in, .static yX6_in, .initialized RX6, .code yX6_in cX6_in 3 (some .boolean), .methodLink RX6 75 yX6_refused, .instanceMethod yX6_refused, .selects RX6 yX6_refused yX6_refused, .code yX6_refused cX6_refused 2 (some .boolean), .fieldLink RX6 51 "ShardHarbourModel" "thrown" "I"] ++ wsX60)
def wsX6_isCopied : List Cond := .code yX6_isCopied cX6_isCopied 3 (some .boolean) :: ([.fieldLink RX6 39 "ShardHarbourModel" "to" "[I", .fieldLink RX6 42 "ShardHarbourModel" "next" "[I"] ++ wsX60)
def wsX6_write_r1 : List Cond := [Cond.fieldLink RX6 58 "ShardHarbourModel" "machines" "I", Cond.fieldLink RX6 13 "ShardHarbourModel" "isDown" "[Z", Cond.fieldLink RX6 36 "ShardHarbourModel" "on" "[I", Cond.fieldLink RX6 26 "ShardHarbourModel" "bytes" "[I", Cond.fieldLink RX6 7 "ShardHarbourModel" "room" "[I", Cond.fieldLink RX6 23 "ShardHarbourModel" "owner" "[I", Cond.fieldLink RX6 17 "ShardHarbourModel" "quota" "[I", Cond.fieldLink RX6 104 "ShardHarbourModel" "logged" "I", Cond.fieldLink RX6 48 "ShardHarbourModel" "heat" "[I", Cond.fieldLink RX6 39 "ShardHarbourModel" "to" "[I", Cond.methodLink RX6 92 yX6_isKey, Cond.static yX6_isKey, Cond.initialized RX6, Cond.code yX6_isKey cX6_isKey 1 (some .boolean), Cond.methodLink RX6 54 yX6_in, Cond.static yX6_in, Cond.code yX6_in cX6_in 3 (some .boolean), Cond.methodLink RX6 86 yX6_isTenant, Cond.static yX6_isTenant, Cond.code yX6_isTenant cX6_isTenant 1 (some .boolean), Cond.methodLink RX6 95 yX6_shardAt, Cond.instanceMethod yX6_shardAt, Cond.selects RX6 yX6_shardAt yX6_shardAt, Cond.code yX6_shardAt cX6_shardAt 3 (some .int)]
def wsX6_write_r2 : List Cond := [Cond.fieldLink RX6 33 "ShardHarbourModel" "first" "[I", Cond.methodLink RX6 98 yX6_held, Cond.instanceMethod yX6_held, Cond.selects RX6 yX6_held yX6_held, Cond.code yX6_held cX6_held 4 (some .int), Cond.fieldLink RX6 29 "ShardHarbourModel" "shards" "I", Cond.methodLink RX6 65 yX6_sizeOf, Cond.instanceMethod yX6_sizeOf, Cond.selects RX6 yX6_sizeOf yX6_sizeOf, Cond.code yX6_sizeOf cX6_sizeOf 2 (some .int), Cond.methodLink RX6 61 yX6_sum, Cond.instanceMethod yX6_sum, Cond.selects RX6 yX6_sum yX6_sum, Cond.code yX6_sum cX6_sum 5 (some .int), Cond.methodLink RX6 69 yX6_copied, Cond.instanceMethod yX6_copied, Cond.selects RX6 yX6_copied yX6_copied, Cond.code yX6_copied cX6_copied 2 (some .int), Cond.fieldLink RX6 42 "ShardHarbourModel" "next" "[I", Cond.methodLink RX6 101 yX6_bytesOf, Cond.instanceMethod yX6_bytesOf, Cond.selects RX6 yX6_bytesOf yX6_bytesOf, Cond.code yX6_bytesOf cX6_bytesOf 4 (some .int), Cond.methodLink RX6 75 yX6_refused]
def wsX6_write_r3 : List Cond := [Cond.instanceMethod yX6_refused, Cond.selects RX6 yX6_refused yX6_refused, Cond.code yX6_refused cX6_refused 2 (some .boolean), Cond.fieldLink RX6 51 "ShardHarbourModel" "thrown" "I", Cond.methodLink RX6 107 yX6_isCopied, Cond.instanceMethod yX6_isCopied, Cond.selects RX6 yX6_isCopied yX6_isCopied, Cond.code yX6_isCopied cX6_isCopied 3 (some .boolean), Cond.methodLink RX6 82 yX6_rollBack, Cond.instanceMethod yX6_rollBack, Cond.selects RX6 yX6_rollBack yX6_rollBack, Cond.code yX6_rollBack cX6_rollBack 2 none, Cond.fieldLink RX6 72 "ShardHarbourModel" "failed" "I"]
def wsX6_write : List Cond := .code yX6_write cX6_write 8 (some .int) :: ((wsX6_write_r1 ++ (wsX6_write_r2 ++ wsX6_write_r3)) ++ wsX60)
def wsX6_take : List Cond := .code yX6_take cX6_take 6 (some .int) :: ([.fieldLink RX6 26 "ShardHarbourModel" "bytes" "[I", .fieldLink RX6 13 "ShardHarbourModel" "isDown" "[Z", .fieldLink RX6 36 "ShardHarbourModel" "on" "[I", .fieldLink RX6 104 "ShardHarbourModel" "logged" "I", .fieldLink RX6 48 "ShardHarbourModel" "heat" "[I", .methodLink RX6 92 yX6_isKey, .static yX6_isKey, .initialized RX6, .code yX6_isKey cX6_isKey 1 (some .boolean), .methodLink RX6 54 yX6_in, .static yX6_in, .code yX6_in cX6_in 3 (some .boolean), .methodLink RX6 95 yX6_shardAt, .instanceMethod yX6_shardAt, .selects RX6 yX6_shardAt yX6_shardAt, .code yX6_shardAt cX6_shardAt 3 (some .int), .fieldLink RX6 33 "ShardHarbourModel" "first" "[I", .methodLink RX6 75 yX6_refused, .instanceMethod yX6_refused, .selects RX6 yX6_refused yX6_refused, .code yX6_refused cX6_refused 2 (some .boolean), .fieldLink RX6 51 "ShardHarbourModel" "thrown" "I"] ++ wsX60)
def wsX6_read : List Cond := .code yX6_read cX6_read 4 (some .int) :: ([.fieldLink RX6 58 "ShardHarbourModel" "machines" "I", .fieldLink RX6 13 "ShardHarbourModel" "isDown" "[Z", .fieldLink RX6 36 "ShardHarbourModel" "on" "[I", .fieldLink RX6 48 "ShardHarbourModel" "heat" "[I", .fieldLink RX6 26 "ShardHarbourModel" "bytes" "[I", .methodLink RX6 92 yX6_isKey, .static yX6_isKey, .initialized RX6, .code yX6_isKey cX6_isKey 1 (some .boolean), .methodLink RX6 54 yX6_in, .static yX6_in, .code yX6_in cX6_in 3 (some .boolean), .methodLink RX6 95 yX6_shardAt, .instanceMethod yX6_shardAt, .selects RX6 yX6_shardAt yX6_shardAt, .code yX6_shardAt cX6_shardAt 3 (some .int), .fieldLink RX6 33 "ShardHarbourModel" "first" "[I", .methodLink RX6 75 yX6_refused, .instanceMethod yX6_refused, .selects RX6 yX6_refused yX6_refused, .code yX6_refused cX6_refused 2 (some .boolean), .fieldLink RX6 51 "ShardHarbourModel" "thrown" "I"] ++ wsX60)
def wsX6_lay : List Cond := .code yX6_lay cX6_lay 3 none :: ([.fieldLink RX6 33 "ShardHarbourModel" "first" "[I", .fieldLink RX6 36 "ShardHarbourModel" "on" "[I", .fieldLink RX6 39 "ShardHarbourModel" "to" "[I", .fieldLink RX6 42 "ShardHarbourModel" "next" "[I", .fieldLink RX6 45 "ShardHarbourModel" "left" "[I", .fieldLink RX6 48 "ShardHarbourModel" "heat" "[I"] ++ wsX60)
def wsX6_split : List Cond := .code yX6_split cX6_split 5 (some .int) :: ([.fieldLink RX6 33 "ShardHarbourModel" "first" "[I", .fieldLink RX6 39 "ShardHarbourModel" "to" "[I", .fieldLink RX6 29 "ShardHarbourModel" "shards" "I", .fieldLink RX6 48 "ShardHarbourModel" "heat" "[I", .methodLink RX6 54 yX6_in, .static yX6_in, .initialized RX6, .code yX6_in cX6_in 3 (some .boolean), .methodLink RX6 95 yX6_shardAt, .instanceMethod yX6_shardAt, .selects RX6 yX6_shardAt yX6_shardAt, .code yX6_shardAt cX6_shardAt 3 (some .int), .methodLink RX6 75 yX6_refused, .instanceMethod yX6_refused, .selects RX6 yX6_refused yX6_refused, .code yX6_refused cX6_refused 2 (some .boolean), .fieldLink RX6 51 "ShardHarbourModel" "thrown" "I", .methodLink RX6 111 yX6_lay, .instanceMethod yX6_lay, .selects RX6 yX6_lay yX6_lay, .code yX6_lay cX6_lay 3 none, .fieldLink RX6 36 "ShardHarbourModel" "on" "[I", .fieldLink RX6 42 "ShardHarbourModel" "next" "[I", .fieldLink RX6 45 "ShardHarbourModel" "left" "[I"] ++ wsX60)
def wsX6_join : List Cond := .code yX6_join cX6_join 5 (some .int) :: ([.fieldLink RX6 29 "ShardHarbourModel" "shards" "I", .fieldLink RX6 36 "ShardHarbourModel" "on" "[I", .fieldLink RX6 39 "ShardHarbourModel" "to" "[I", .fieldLink RX6 48 "ShardHarbourModel" "heat" "[I", .methodLink RX6 115 yX6_isShard, .instanceMethod yX6_isShard, .selects RX6 yX6_isShard yX6_isShard, .initialized RX6, .code yX6_isShard cX6_isShard 2 (some .boolean), .methodLink RX6 54 yX6_in, .static yX6_in, .code yX6_in cX6_in 3 (some .boolean), .methodLink RX6 75 yX6_refused, .instanceMethod yX6_refused, .selects RX6 yX6_refused yX6_refused, .code yX6_refused cX6_refused 2 (some .boolean), .fieldLink RX6 51 "ShardHarbourModel" "thrown" "I", .methodLink RX6 111 yX6_lay, .instanceMethod yX6_lay, .selects RX6 yX6_lay yX6_lay, .code yX6_lay cX6_lay 3 none, .fieldLink RX6 33 "ShardHarbourModel" "first" "[I", .fieldLink RX6 42 "ShardHarbourModel" "next" "[I", .fieldLink RX6 45 "ShardHarbourModel" "left" "[I"] ++ wsX60)
def wsX6_begins : List Cond := .code yX6_begins cX6_begins 3 none :: ([.fieldLink RX6 39 "ShardHarbourModel" "to" "[I", .fieldLink RX6 42 "ShardHarbourModel" "next" "[I", .fieldLink RX6 33 "ShardHarbourModel" "first" "[I", .fieldLink RX6 45 "ShardHarbourModel" "left" "[I"] ++ wsX60)
def wsX6_move_r1 : List Cond := [Cond.fieldLink RX6 36 "ShardHarbourModel" "on" "[I", Cond.fieldLink RX6 39 "ShardHarbourModel" "to" "[I", Cond.fieldLink RX6 13 "ShardHarbourModel" "isDown" "[Z", Cond.methodLink RX6 115 yX6_isShard, Cond.instanceMethod yX6_isShard, Cond.selects RX6 yX6_isShard yX6_isShard, Cond.initialized RX6, Cond.code yX6_isShard cX6_isShard 2 (some .boolean), Cond.fieldLink RX6 29 "ShardHarbourModel" "shards" "I", Cond.methodLink RX6 54 yX6_in, Cond.static yX6_in, Cond.code yX6_in cX6_in 3 (some .boolean), Cond.methodLink RX6 79 yX6_isMachine, Cond.instanceMethod yX6_isMachine, Cond.selects RX6 yX6_isMachine yX6_isMachine, Cond.code yX6_isMachine cX6_isMachine 2 (some .boolean), Cond.fieldLink RX6 58 "ShardHarbourModel" "machines" "I", Cond.methodLink RX6 75 yX6_refused, Cond.instanceMethod yX6_refused, Cond.selects RX6 yX6_refused yX6_refused, Cond.code yX6_refused cX6_refused 2 (some .boolean), Cond.fieldLink RX6 51 "ShardHarbourModel" "thrown" "I", Cond.methodLink RX6 118 yX6_begins, Cond.instanceMethod yX6_begins]
def wsX6_move_r2 : List Cond := [Cond.selects RX6 yX6_begins yX6_begins, Cond.code yX6_begins cX6_begins 3 none, Cond.fieldLink RX6 42 "ShardHarbourModel" "next" "[I", Cond.fieldLink RX6 33 "ShardHarbourModel" "first" "[I", Cond.fieldLink RX6 45 "ShardHarbourModel" "left" "[I", Cond.methodLink RX6 65 yX6_sizeOf, Cond.instanceMethod yX6_sizeOf, Cond.selects RX6 yX6_sizeOf yX6_sizeOf, Cond.code yX6_sizeOf cX6_sizeOf 2 (some .int), Cond.methodLink RX6 61 yX6_sum, Cond.instanceMethod yX6_sum, Cond.selects RX6 yX6_sum yX6_sum, Cond.code yX6_sum cX6_sum 5 (some .int), Cond.fieldLink RX6 26 "ShardHarbourModel" "bytes" "[I"]
def wsX6_move : List Cond := .code yX6_move cX6_move 4 (some .int) :: ((wsX6_move_r1 ++ wsX6_move_r2) ++ wsX60)
def wsX6_callOff_r1 : List Cond := [Cond.fieldLink RX6 39 "ShardHarbourModel" "to" "[I", Cond.methodLink RX6 115 yX6_isShard, Cond.instanceMethod yX6_isShard, Cond.selects RX6 yX6_isShard yX6_isShard, Cond.initialized RX6, Cond.code yX6_isShard cX6_isShard 2 (some .boolean), Cond.fieldLink RX6 29 "ShardHarbourModel" "shards" "I", Cond.methodLink RX6 54 yX6_in, Cond.static yX6_in, Cond.code yX6_in cX6_in 3 (some .boolean), Cond.methodLink RX6 75 yX6_refused, Cond.instanceMethod yX6_refused, Cond.selects RX6 yX6_refused yX6_refused, Cond.code yX6_refused cX6_refused 2 (some .boolean), Cond.fieldLink RX6 51 "ShardHarbourModel" "thrown" "I", Cond.methodLink RX6 69 yX6_copied, Cond.instanceMethod yX6_copied, Cond.selects RX6 yX6_copied yX6_copied, Cond.code yX6_copied cX6_copied 2 (some .int), Cond.fieldLink RX6 33 "ShardHarbourModel" "first" "[I", Cond.fieldLink RX6 42 "ShardHarbourModel" "next" "[I", Cond.methodLink RX6 61 yX6_sum, Cond.instanceMethod yX6_sum, Cond.selects RX6 yX6_sum yX6_sum]
def wsX6_callOff_r2 : List Cond := [Cond.code yX6_sum cX6_sum 5 (some .int), Cond.fieldLink RX6 26 "ShardHarbourModel" "bytes" "[I", Cond.methodLink RX6 82 yX6_rollBack, Cond.instanceMethod yX6_rollBack, Cond.selects RX6 yX6_rollBack yX6_rollBack, Cond.code yX6_rollBack cX6_rollBack 2 none, Cond.fieldLink RX6 72 "ShardHarbourModel" "failed" "I"]
def wsX6_callOff : List Cond := .code yX6_callOff cX6_callOff 4 (some .int) :: ((wsX6_callOff_r1 ++ wsX6_callOff_r2) ++ wsX60)
def wsX6_copies_r1 : List Cond := [Cond.fieldLink RX6 45 "ShardHarbourModel" "left" "[I", Cond.fieldLink RX6 7 "ShardHarbourModel" "room" "[I", Cond.fieldLink RX6 39 "ShardHarbourModel" "to" "[I", Cond.fieldLink RX6 42 "ShardHarbourModel" "next" "[I", Cond.fieldLink RX6 33 "ShardHarbourModel" "first" "[I", Cond.fieldLink RX6 26 "ShardHarbourModel" "bytes" "[I", Cond.fieldLink RX6 36 "ShardHarbourModel" "on" "[I", Cond.fieldLink RX6 121 "ShardHarbourModel" "done" "I", Cond.methodLink RX6 98 yX6_held, Cond.instanceMethod yX6_held, Cond.selects RX6 yX6_held yX6_held, Cond.initialized RX6, Cond.code yX6_held cX6_held 4 (some .int), Cond.fieldLink RX6 29 "ShardHarbourModel" "shards" "I", Cond.methodLink RX6 65 yX6_sizeOf, Cond.instanceMethod yX6_sizeOf, Cond.selects RX6 yX6_sizeOf yX6_sizeOf, Cond.code yX6_sizeOf cX6_sizeOf 2 (some .int), Cond.methodLink RX6 61 yX6_sum, Cond.instanceMethod yX6_sum, Cond.selects RX6 yX6_sum yX6_sum, Cond.code yX6_sum cX6_sum 5 (some .int), Cond.methodLink RX6 69 yX6_copied, Cond.instanceMethod yX6_copied]
def wsX6_copies_r2 : List Cond := [Cond.selects RX6 yX6_copied yX6_copied, Cond.code yX6_copied cX6_copied 2 (some .int), Cond.methodLink RX6 82 yX6_rollBack, Cond.instanceMethod yX6_rollBack, Cond.selects RX6 yX6_rollBack yX6_rollBack, Cond.code yX6_rollBack cX6_rollBack 2 none, Cond.fieldLink RX6 72 "ShardHarbourModel" "failed" "I"]
def wsX6_copies : List Cond := .code yX6_copies cX6_copies 4 none :: ((wsX6_copies_r1 ++ wsX6_copies_r2) ++ wsX60)
def wsX6_heatOf : List Cond := .code yX6_heatOf cX6_heatOf 4 (some .int) :: ([.fieldLink RX6 29 "ShardHarbourModel" "shards" "I", .fieldLink RX6 36 "ShardHarbourModel" "on" "[I", .fieldLink RX6 48 "ShardHarbourModel" "heat" "[I"] ++ wsX60)
def wsX6_draw : List Cond := .code yX6_draw cX6_draw 6 none :: ([.fieldLink RX6 58 "ShardHarbourModel" "machines" "I", .fieldLink RX6 13 "ShardHarbourModel" "isDown" "[Z", .fieldLink RX6 89 "ShardHarbourModel" "limit" "I", .fieldLink RX6 29 "ShardHarbourModel" "shards" "I", .fieldLink RX6 36 "ShardHarbourModel" "on" "[I", .fieldLink RX6 39 "ShardHarbourModel" "to" "[I", .fieldLink RX6 48 "ShardHarbourModel" "heat" "[I", .methodLink RX6 124 yX6_heatOf, .instanceMethod yX6_heatOf, .selects RX6 yX6_heatOf yX6_heatOf, .initialized RX6, .code yX6_heatOf cX6_heatOf 4 (some .int), .methodLink RX6 118 yX6_begins, .instanceMethod yX6_begins, .selects RX6 yX6_begins yX6_begins, .code yX6_begins cX6_begins 3 none, .fieldLink RX6 42 "ShardHarbourModel" "next" "[I", .fieldLink RX6 33 "ShardHarbourModel" "first" "[I", .fieldLink RX6 45 "ShardHarbourModel" "left" "[I"] ++ wsX60)
def wsX6_pass_r1 : List Cond := [Cond.fieldLink RX6 127 "ShardHarbourModel" "hour" "I", Cond.fieldLink RX6 29 "ShardHarbourModel" "shards" "I", Cond.fieldLink RX6 39 "ShardHarbourModel" "to" "[I", Cond.fieldLink RX6 20 "ShardHarbourModel" "bill" "[I", Cond.fieldLink RX6 89 "ShardHarbourModel" "limit" "I", Cond.fieldLink RX6 48 "ShardHarbourModel" "heat" "[I", Cond.methodLink RX6 54 yX6_in, Cond.static yX6_in, Cond.initialized RX6, Cond.code yX6_in cX6_in 3 (some .boolean), Cond.methodLink RX6 75 yX6_refused, Cond.instanceMethod yX6_refused, Cond.selects RX6 yX6_refused yX6_refused, Cond.code yX6_refused cX6_refused 2 (some .boolean), Cond.fieldLink RX6 51 "ShardHarbourModel" "thrown" "I", Cond.methodLink RX6 130 yX6_copies, Cond.instanceMethod yX6_copies, Cond.selects RX6 yX6_copies yX6_copies, Cond.code yX6_copies cX6_copies 4 none, Cond.fieldLink RX6 45 "ShardHarbourModel" "left" "[I", Cond.fieldLink RX6 7 "ShardHarbourModel" "room" "[I", Cond.fieldLink RX6 42 "ShardHarbourModel" "next" "[I", Cond.fieldLink RX6 33 "ShardHarbourModel" "first" "[I", Cond.fieldLink RX6 26 "ShardHarbourModel" "bytes" "[I"]
def wsX6_pass_r2 : List Cond := [Cond.fieldLink RX6 36 "ShardHarbourModel" "on" "[I", Cond.fieldLink RX6 121 "ShardHarbourModel" "done" "I", Cond.methodLink RX6 98 yX6_held, Cond.instanceMethod yX6_held, Cond.selects RX6 yX6_held yX6_held, Cond.code yX6_held cX6_held 4 (some .int), Cond.methodLink RX6 65 yX6_sizeOf, Cond.instanceMethod yX6_sizeOf, Cond.selects RX6 yX6_sizeOf yX6_sizeOf, Cond.code yX6_sizeOf cX6_sizeOf 2 (some .int), Cond.methodLink RX6 61 yX6_sum, Cond.instanceMethod yX6_sum, Cond.selects RX6 yX6_sum yX6_sum, Cond.code yX6_sum cX6_sum 5 (some .int), Cond.methodLink RX6 69 yX6_copied, Cond.instanceMethod yX6_copied, Cond.selects RX6 yX6_copied yX6_copied, Cond.code yX6_copied cX6_copied 2 (some .int), Cond.methodLink RX6 82 yX6_rollBack, Cond.instanceMethod yX6_rollBack, Cond.selects RX6 yX6_rollBack yX6_rollBack, Cond.code yX6_rollBack cX6_rollBack 2 none, Cond.fieldLink RX6 72 "ShardHarbourModel" "failed" "I", Cond.methodLink RX6 101 yX6_bytesOf]
def wsX6_pass_r3 : List Cond := [Cond.instanceMethod yX6_bytesOf, Cond.selects RX6 yX6_bytesOf yX6_bytesOf, Cond.code yX6_bytesOf cX6_bytesOf 4 (some .int), Cond.fieldLink RX6 23 "ShardHarbourModel" "owner" "[I", Cond.methodLink RX6 133 yX6_draw, Cond.instanceMethod yX6_draw, Cond.selects RX6 yX6_draw yX6_draw, Cond.code yX6_draw cX6_draw 6 none, Cond.fieldLink RX6 58 "ShardHarbourModel" "machines" "I", Cond.fieldLink RX6 13 "ShardHarbourModel" "isDown" "[Z", Cond.methodLink RX6 124 yX6_heatOf, Cond.instanceMethod yX6_heatOf, Cond.selects RX6 yX6_heatOf yX6_heatOf, Cond.code yX6_heatOf cX6_heatOf 4 (some .int), Cond.methodLink RX6 118 yX6_begins, Cond.instanceMethod yX6_begins, Cond.selects RX6 yX6_begins yX6_begins, Cond.code yX6_begins cX6_begins 3 none]
def wsX6_pass : List Cond := .code yX6_pass cX6_pass 4 (some .int) :: ((wsX6_pass_r1 ++ (wsX6_pass_r2 ++ wsX6_pass_r3)) ++ wsX60)
def wsX6_hour : List Cond := .code yX6_hour cX6_hour 1 (some .int) :: ([.fieldLink RX6 51 "ShardHarbourModel" "thrown" "I", .fieldLink RX6 127 "ShardHarbourModel" "hour" "I"] ++ wsX60)
def wsX6_shards : List Cond := .code yX6_shards cX6_shards 1 (some .int) :: ([.fieldLink RX6 51 "ShardHarbourModel" "thrown" "I", .fieldLink RX6 29 "ShardHarbourModel" "shards" "I"] ++ wsX60)
def wsX6_shardOf : List Cond := .code yX6_shardOf cX6_shardOf 2 (some .int) :: ([.methodLink RX6 92 yX6_isKey, .static yX6_isKey, .initialized RX6, .code yX6_isKey cX6_isKey 1 (some .boolean), .methodLink RX6 54 yX6_in, .static yX6_in, .code yX6_in cX6_in 3 (some .boolean), .methodLink RX6 75 yX6_refused, .instanceMethod yX6_refused, .selects RX6 yX6_refused yX6_refused, .code yX6_refused cX6_refused 2 (some .boolean), .fieldLink RX6 51 "ShardHarbourModel" "thrown" "I", .methodLink RX6 95 yX6_shardAt, .instanceMethod yX6_shardAt, .selects RX6 yX6_shardAt yX6_shardAt, .code yX6_shardAt cX6_shardAt 3 (some .int), .fieldLink RX6 33 "ShardHarbourModel" "first" "[I"] ++ wsX60)
def wsX6_shard_r1 : List Cond := [Cond.fieldLink RX6 33 "ShardHarbourModel" "first" "[I", Cond.fieldLink RX6 36 "ShardHarbourModel" "on" "[I", Cond.fieldLink RX6 39 "ShardHarbourModel" "to" "[I", Cond.fieldLink RX6 48 "ShardHarbourModel" "heat" "[I", Cond.methodLink RX6 115 yX6_isShard, Cond.instanceMethod yX6_isShard, Cond.selects RX6 yX6_isShard yX6_isShard, Cond.initialized RX6, Cond.code yX6_isShard cX6_isShard 2 (some .boolean), Cond.fieldLink RX6 29 "ShardHarbourModel" "shards" "I", Cond.methodLink RX6 54 yX6_in, Cond.static yX6_in, Cond.code yX6_in cX6_in 3 (some .boolean), Cond.methodLink RX6 75 yX6_refused, Cond.instanceMethod yX6_refused, Cond.selects RX6 yX6_refused yX6_refused, Cond.code yX6_refused cX6_refused 2 (some .boolean), Cond.fieldLink RX6 51 "ShardHarbourModel" "thrown" "I", Cond.methodLink RX6 65 yX6_sizeOf, Cond.instanceMethod yX6_sizeOf, Cond.selects RX6 yX6_sizeOf yX6_sizeOf, Cond.code yX6_sizeOf cX6_sizeOf 2 (some .int), Cond.methodLink RX6 61 yX6_sum, Cond.instanceMethod yX6_sum]
def wsX6_shard_r2 : List Cond := [Cond.selects RX6 yX6_sum yX6_sum, Cond.code yX6_sum cX6_sum 5 (some .int), Cond.fieldLink RX6 26 "ShardHarbourModel" "bytes" "[I", Cond.methodLink RX6 69 yX6_copied, Cond.instanceMethod yX6_copied, Cond.selects RX6 yX6_copied yX6_copied, Cond.code yX6_copied cX6_copied 2 (some .int), Cond.fieldLink RX6 42 "ShardHarbourModel" "next" "[I"]
def wsX6_shard : List Cond := .code yX6_shard cX6_shard 3 (some .int) :: ((wsX6_shard_r1 ++ wsX6_shard_r2) ++ wsX60)
def wsX6_machineOf_r1 : List Cond := [Cond.fieldLink RX6 13 "ShardHarbourModel" "isDown" "[Z", Cond.fieldLink RX6 29 "ShardHarbourModel" "shards" "I", Cond.fieldLink RX6 36 "ShardHarbourModel" "on" "[I", Cond.methodLink RX6 79 yX6_isMachine, Cond.instanceMethod yX6_isMachine, Cond.selects RX6 yX6_isMachine yX6_isMachine, Cond.initialized RX6, Cond.code yX6_isMachine cX6_isMachine 2 (some .boolean), Cond.fieldLink RX6 58 "ShardHarbourModel" "machines" "I", Cond.methodLink RX6 54 yX6_in, Cond.static yX6_in, Cond.code yX6_in cX6_in 3 (some .boolean), Cond.methodLink RX6 75 yX6_refused, Cond.instanceMethod yX6_refused, Cond.selects RX6 yX6_refused yX6_refused, Cond.code yX6_refused cX6_refused 2 (some .boolean), Cond.fieldLink RX6 51 "ShardHarbourModel" "thrown" "I", Cond.methodLink RX6 98 yX6_held, Cond.instanceMethod yX6_held, Cond.selects RX6 yX6_held yX6_held, Cond.code yX6_held cX6_held 4 (some .int), Cond.fieldLink RX6 39 "ShardHarbourModel" "to" "[I", Cond.methodLink RX6 65 yX6_sizeOf, Cond.instanceMethod yX6_sizeOf]
def wsX6_machineOf_r2 : List Cond := [Cond.selects RX6 yX6_sizeOf yX6_sizeOf, Cond.code yX6_sizeOf cX6_sizeOf 2 (some .int), Cond.fieldLink RX6 33 "ShardHarbourModel" "first" "[I", Cond.methodLink RX6 61 yX6_sum, Cond.instanceMethod yX6_sum, Cond.selects RX6 yX6_sum yX6_sum, Cond.code yX6_sum cX6_sum 5 (some .int), Cond.fieldLink RX6 26 "ShardHarbourModel" "bytes" "[I", Cond.methodLink RX6 69 yX6_copied, Cond.instanceMethod yX6_copied, Cond.selects RX6 yX6_copied yX6_copied, Cond.code yX6_copied cX6_copied 2 (some .int), Cond.fieldLink RX6 42 "ShardHarbourModel" "next" "[I", Cond.methodLink RX6 124 yX6_heatOf, Cond.instanceMethod yX6_heatOf, Cond.selects RX6 yX6_heatOf yX6_heatOf, Cond.code yX6_heatOf cX6_heatOf 4 (some .int), Cond.fieldLink RX6 48 "ShardHarbourModel" "heat" "[I"]
def wsX6_machineOf : List Cond := .code yX6_machineOf cX6_machineOf 5 (some .int) :: ((wsX6_machineOf_r1 ++ wsX6_machineOf_r2) ++ wsX60)
def wsX6_tenant : List Cond := .code yX6_tenant cX6_tenant 3 (some .int) :: ([.fieldLink RX6 17 "ShardHarbourModel" "quota" "[I", .fieldLink RX6 20 "ShardHarbourModel" "bill" "[I", .methodLink RX6 86 yX6_isTenant, .static yX6_isTenant, .initialized RX6, .code yX6_isTenant cX6_isTenant 1 (some .boolean), .methodLink RX6 54 yX6_in, .static yX6_in, .code yX6_in cX6_in 3 (some .boolean), .methodLink RX6 75 yX6_refused, .instanceMethod yX6_refused, .selects RX6 yX6_refused yX6_refused, .code yX6_refused cX6_refused 2 (some .boolean), .fieldLink RX6 51 "ShardHarbourModel" "thrown" "I", .methodLink RX6 101 yX6_bytesOf, .instanceMethod yX6_bytesOf, .selects RX6 yX6_bytesOf yX6_bytesOf, .code yX6_bytesOf cX6_bytesOf 4 (some .int), .fieldLink RX6 23 "ShardHarbourModel" "owner" "[I", .fieldLink RX6 26 "ShardHarbourModel" "bytes" "[I"] ++ wsX60)
def wsX6_billAnew : List Cond := .code yX6_billAnew cX6_billAnew 2 (some .int) :: ([.fieldLink RX6 20 "ShardHarbourModel" "bill" "[I", .methodLink RX6 86 yX6_isTenant, .static yX6_isTenant, .initialized RX6, .code yX6_isTenant cX6_isTenant 1 (some .boolean), .methodLink RX6 54 yX6_in, .static yX6_in, .code yX6_in cX6_in 3 (some .boolean), .methodLink RX6 75 yX6_refused, .instanceMethod yX6_refused, .selects RX6 yX6_refused yX6_refused, .code yX6_refused cX6_refused 2 (some .boolean), .fieldLink RX6 51 "ShardHarbourModel" "thrown" "I"] ++ wsX60)
def wsX6_whereAnew : List Cond := .code yX6_whereAnew cX6_whereAnew 2 (some .int) :: ([.fieldLink RX6 36 "ShardHarbourModel" "on" "[I", .methodLink RX6 92 yX6_isKey, .static yX6_isKey, .initialized RX6, .code yX6_isKey cX6_isKey 1 (some .boolean), .methodLink RX6 54 yX6_in, .static yX6_in, .code yX6_in cX6_in 3 (some .boolean), .methodLink RX6 75 yX6_refused, .instanceMethod yX6_refused, .selects RX6 yX6_refused yX6_refused, .code yX6_refused cX6_refused 2 (some .boolean), .fieldLink RX6 51 "ShardHarbourModel" "thrown" "I", .methodLink RX6 95 yX6_shardAt, .instanceMethod yX6_shardAt, .selects RX6 yX6_shardAt yX6_shardAt, .code yX6_shardAt cX6_shardAt 3 (some .int), .fieldLink RX6 33 "ShardHarbourModel" "first" "[I"] ++ wsX60)
def wsX6_moves : List Cond := .code yX6_moves cX6_moves 2 (some .int) :: ([.fieldLink RX6 51 "ShardHarbourModel" "thrown" "I", .fieldLink RX6 121 "ShardHarbourModel" "done" "I", .fieldLink RX6 72 "ShardHarbourModel" "failed" "I"] ++ wsX60)
def wsL_machine : List Cond := .codeWith yL_machine cL_machine 4 (some .int) [(0, 9, 12, 13), (0, 9, 15, 15)] :: ([.classLink RL 13 "java/lang/IllegalArgumentException", .classLink RL 15 "java/lang/IllegalStateException", .methodLink RL 7 yX5_machine, .instanceMethod yX5_machine, .selects RX5 yX5_machine yX5_machine, .initialized RX5, .code yX5_machine cX5_machine 3 (some .int), .classLink RX5 49 "java/lang/IllegalArgumentException", .initialized "java/lang/IllegalArgumentException", .classLink RX5 59 "java/lang/IllegalStateException", .initialized "java/lang/IllegalStateException", .fieldLink RX5 56 "ShardHarbour" "machineCount" "I", .fieldLink RX5 32 "ShardHarbour" "machines" "[LShardHarbour$Machine;", .methodLink RX5 74 yX5_settleAllShardsOn, .instanceMethod yX5_settleAllShardsOn, .selects RX5 yX5_settleAllShardsOn yX5_settleAllShardsOn, .code yX5_settleAllShardsOn cX5_settleAllShardsOn 3 none, .fieldLink RX5 45 "ShardHarbour" "shardCount" "I", .fieldLink RX5 38 "ShardHarbour" "shards" "[LShardHarbour$Shard;"] ++ wsX50 ++ wsX20 ++ wsX30 ++ (vx_atS RX5 53 "java/lang/IllegalArgumentException" ["java/lang/RuntimeException", "java/lang/Exception"]).filter goodWord ++ (vx_atS RX5 63 "java/lang/IllegalStateException" ["java/lang/RuntimeException", "java/lang/Exception"]).filter goodWord)
def wsL_down_r1 : List Cond := [Cond.classLink RL 21 "java/lang/IndexOutOfBoundsException", Cond.methodLink RL 17 yX5_down, Cond.instanceMethod yX5_down, Cond.selects RX5 yX5_down yX5_down, Cond.initialized RX5, Cond.code yX5_down cX5_down 5 (some .boolean), Cond.classLink RX5 81 "java/lang/IndexOutOfBoundsException", Cond.initialized "java/lang/IndexOutOfBoundsException", Cond.fieldLink RX5 32 "ShardHarbour" "machines" "[LShardHarbour$Machine;", Cond.methodLink RX5 77 yX5_isMachine, Cond.instanceMethod yX5_isMachine, Cond.selects RX5 yX5_isMachine yX5_isMachine, Cond.code yX5_isMachine cX5_isMachine 2 (some .boolean), Cond.fieldLink RX5 56 "ShardHarbour" "machineCount" "I", Cond.methodLink RX5 86 yX5_failMovesOf, Cond.instanceMethod yX5_failMovesOf, Cond.selects RX5 yX5_failMovesOf yX5_failMovesOf, Cond.code yX5_failMovesOf cX5_failMovesOf 4 none, Cond.fieldLink RX5 45 "ShardHarbour" "shardCount" "I", Cond.fieldLink RX5 38 "ShardHarbour" "shards" "[LShardHarbour$Shard;", Cond.instanceMethod yX3_isMoving, Cond.initialized RX3, Cond.selects RX3 yX3_isMoving yX3_isMoving, Cond.code yX3_isMoving cX3_isMoving 1 (some .boolean)]
def wsL_down_r2 : List Cond := [Cond.fieldLink RX3 19 "ShardHarbour$Shard" "target" "LShardHarbour$Machine;", Cond.methodLink RX5 187 yX5_failMove, Cond.instanceMethod yX5_failMove, Cond.selects RX5 yX5_failMove yX5_failMove, Cond.code yX5_failMove cX5_failMove 2 none, Cond.fieldLink RX5 14 "ShardHarbour" "nowhere" "LShardHarbour$Machine;", Cond.fieldLink RX5 248 "ShardHarbour" "movesFailed" "I", Cond.instanceMethod yX3_aimAt, Cond.selects RX3 yX3_aimAt yX3_aimAt, Cond.code yX3_aimAt cX3_aimAt 2 none, Cond.fieldLink RX3 34 "ShardHarbour$Shard" "first" "I", Cond.fieldLink RX3 31 "ShardHarbour$Shard" "nextToCopy" "I", Cond.fieldLink RX3 37 "ShardHarbour$Shard" "mayCopy" "I", Cond.fieldLink RX3 40 "ShardHarbour$Shard" "copied" "I"]
def wsL_down : List Cond := .codeWith yL_down cL_down 5 (some .int) [(0, 17, 20, 21)] :: ((wsL_down_r1 ++ wsL_down_r2) ++ wsX50 ++ wsX20 ++ wsX30 ++ (vx_atS RX5 85 "java/lang/IndexOutOfBoundsException" ["java/lang/RuntimeException", "java/lang/Exception"]).filter goodWord)
def wsL_quota : List Cond := .codeWith yL_quota cL_quota 5 (some .int) [(0, 10, 13, 21), (0, 10, 17, 13)] :: ([.classLink RL 21 "java/lang/IndexOutOfBoundsException", .classLink RL 13 "java/lang/IllegalArgumentException", .methodLink RL 23 yX5_quota, .instanceMethod yX5_quota, .selects RX5 yX5_quota yX5_quota, .initialized RX5, .code yX5_quota cX5_quota 4 (some .int), .classLink RX5 81 "java/lang/IndexOutOfBoundsException", .initialized "java/lang/IndexOutOfBoundsException", .classLink RX5 49 "java/lang/IllegalArgumentException", .initialized "java/lang/IllegalArgumentException", .fieldLink RX5 27 "ShardHarbour" "tenants" "[LShardHarbour$Tenant;", .methodLink RX5 89 yX5_isTenant, .instanceMethod yX5_isTenant, .selects RX5 yX5_isTenant yX5_isTenant, .code yX5_isTenant cX5_isTenant 2 (some .boolean)] ++ wsX50 ++ wsX40 ++ (vx_atS RX5 85 "java/lang/IndexOutOfBoundsException" ["java/lang/RuntimeException", "java/lang/Exception"]).filter goodWord ++ (vx_atS RX5 53 "java/lang/IllegalArgumentException" ["java/lang/RuntimeException", "java/lang/Exception"]).filter goodWord)
def wsL_limit : List Cond := .codeWith yL_limit cL_limit 4 (some .int) [(0, 9, 12, 13)] :: ([.classLink RL 13 "java/lang/IllegalArgumentException", .methodLink RL 27 yX5_limit, .instanceMethod yX5_limit, .selects RX5 yX5_limit yX5_limit, .initialized RX5, .code yX5_limit cX5_limit 3 (some .int), .classLink RX5 49 "java/lang/IllegalArgumentException", .initialized "java/lang/IllegalArgumentException", .fieldLink RX5 101 "ShardHarbour" "heatLimit" "I"] ++ wsX50 ++ (vx_atS RX5 53 "java/lang/IllegalArgumentException" ["java/lang/RuntimeException", "java/lang/Exception"]).filter goodWord)
def wsL_write_r1 : List Cond := [Cond.classLink RL 21 "java/lang/IndexOutOfBoundsException", Cond.classLink RL 13 "java/lang/IllegalArgumentException", Cond.classLink RL 15 "java/lang/IllegalStateException", Cond.methodLink RL 30 yX5_write, Cond.instanceMethod yX5_write, Cond.selects RX5 yX5_write yX5_write, Cond.initialized RX5, Cond.code yX5_write cX5_write 5 (some .int), Cond.classLink RX5 81 "java/lang/IndexOutOfBoundsException", Cond.initialized "java/lang/IndexOutOfBoundsException", Cond.classLink RX5 49 "java/lang/IllegalArgumentException", Cond.initialized "java/lang/IllegalArgumentException", Cond.classLink RX5 59 "java/lang/IllegalStateException", Cond.initialized "java/lang/IllegalStateException", Cond.fieldLink RX5 38 "ShardHarbour" "shards" "[LShardHarbour$Shard;", Cond.fieldLink RX5 18 "ShardHarbour" "bytesAt" "[I", Cond.fieldLink RX5 27 "ShardHarbour" "tenants" "[LShardHarbour$Tenant;", Cond.methodLink RX5 104 yX5_isKey, Cond.instanceMethod yX5_isKey, Cond.selects RX5 yX5_isKey yX5_isKey, Cond.code yX5_isKey cX5_isKey 2 (some .boolean), Cond.methodLink RX5 89 yX5_isTenant, Cond.instanceMethod yX5_isTenant, Cond.selects RX5 yX5_isTenant yX5_isTenant]
def wsL_write_r2 : List Cond := [Cond.code yX5_isTenant cX5_isTenant 2 (some .boolean), Cond.methodLink RX5 109 yX5_numberOfShardWith, Cond.instanceMethod yX5_numberOfShardWith, Cond.selects RX5 yX5_numberOfShardWith yX5_numberOfShardWith, Cond.code yX5_numberOfShardWith cX5_numberOfShardWith 3 (some .int), Cond.fieldLink RX5 45 "ShardHarbour" "shardCount" "I", Cond.methodLink RX5 113 yX5_mayChange, Cond.instanceMethod yX5_mayChange, Cond.selects RX5 yX5_mayChange yX5_mayChange, Cond.code yX5_mayChange cX5_mayChange 2 (some .boolean), Cond.fieldLink RX5 251 "ShardHarbour" "changeCount" "I", Cond.instanceMethod yX2_hasRoomFor, Cond.initialized RX2, Cond.selects RX2 yX2_hasRoomFor yX2_hasRoomFor, Cond.code yX2_hasRoomFor cX2_hasRoomFor 2 (some .boolean), Cond.fieldLink RX2 13 "ShardHarbour$Machine" "held" "I", Cond.fieldLink RX2 16 "ShardHarbour$Machine" "room" "I", Cond.methodLink RX5 123 yX5_hasQuotaFor, Cond.instanceMethod yX5_hasQuotaFor, Cond.selects RX5 yX5_hasQuotaFor yX5_hasQuotaFor, Cond.code yX5_hasQuotaFor cX5_hasQuotaFor 5 (some .boolean), Cond.fieldLink RX5 22 "ShardHarbour" "tenantAt" "[I", Cond.methodLink RX5 129 yX5_change, Cond.instanceMethod yX5_change]
def wsL_write_r3 : List Cond := [Cond.selects RX5 yX5_change yX5_change, Cond.code yX5_change cX5_change 7 none, Cond.classLink RX5 224 RX0, Cond.instantiable RX0 6, Cond.initialized RX0, Cond.fieldLink RX5 193 "ShardHarbour" "hour" "I", Cond.fieldLink RX5 219 "ShardHarbour" "lastChange" "LShardHarbour$Change;", Cond.instanceMethod yX0_init, Cond.code yX0_init cX0_init 3 none, Cond.methodLink RX0 1 objectInit, Cond.instanceMethod objectInit, Cond.code objectInit ⟨#[0xb1]⟩ 1 none, Cond.fieldLink RX0 7 "ShardHarbour$Change" "hour" "I", Cond.fieldLink RX0 13 "ShardHarbour$Change" "earlier" "LShardHarbour$Change;", Cond.instanceMethod yX0_setBefore, Cond.selects RX0 yX0_setBefore yX0_setBefore, Cond.code yX0_setBefore cX0_setBefore 3 none, Cond.fieldLink RX0 17 "ShardHarbour$Change" "tenantBefore" "I", Cond.fieldLink RX0 20 "ShardHarbour$Change" "bytesBefore" "I", Cond.instanceMethod yX0_setBehind, Cond.selects RX0 yX0_setBehind yX0_setBehind, Cond.code yX0_setBehind cX0_setBehind 3 none, Cond.fieldLink RX0 23 "ShardHarbour$Change" "tenantBehind" "I", Cond.fieldLink RX0 26 "ShardHarbour$Change" "bytesBehind" "I"]
def wsL_write_r4 : List Cond := [Cond.methodLink RX5 264 yX5_addToTenant, Cond.instanceMethod yX5_addToTenant, Cond.selects RX5 yX5_addToTenant yX5_addToTenant, Cond.code yX5_addToTenant cX5_addToTenant 3 none, Cond.instanceMethod yX3_hasCopied, Cond.initialized RX3, Cond.selects RX3 yX3_hasCopied yX3_hasCopied, Cond.code yX3_hasCopied cX3_hasCopied 2 (some .boolean), Cond.fieldLink RX3 31 "ShardHarbour$Shard" "nextToCopy" "I", Cond.methodLink RX3 27 yX3_isMoving, Cond.instanceMethod yX3_isMoving, Cond.selects RX3 yX3_isMoving yX3_isMoving, Cond.code yX3_isMoving cX3_isMoving 1 (some .boolean), Cond.fieldLink RX3 19 "ShardHarbour$Shard" "target" "LShardHarbour$Machine;", Cond.methodLink RX5 270 yX5_changeCopy, Cond.instanceMethod yX5_changeCopy, Cond.selects RX5 yX5_changeCopy yX5_changeCopy, Cond.code yX5_changeCopy cX5_changeCopy 3 none, Cond.methodLink RX5 187 yX5_failMove, Cond.instanceMethod yX5_failMove, Cond.selects RX5 yX5_failMove yX5_failMove, Cond.code yX5_failMove cX5_failMove 2 none, Cond.fieldLink RX5 14 "ShardHarbour" "nowhere" "LShardHarbour$Machine;", Cond.fieldLink RX5 248 "ShardHarbour" "movesFailed" "I"]
def wsL_write_r5 : List Cond := [Cond.instanceMethod yX3_aimAt, Cond.selects RX3 yX3_aimAt yX3_aimAt, Cond.code yX3_aimAt cX3_aimAt 2 none, Cond.fieldLink RX3 34 "ShardHarbour$Shard" "first" "I", Cond.fieldLink RX3 37 "ShardHarbour$Shard" "mayCopy" "I", Cond.fieldLink RX3 40 "ShardHarbour$Shard" "copied" "I"]
def wsL_write : List Cond := .codeWith yL_write cL_write 6 (some .int) [(0, 12, 15, 21), (0, 12, 19, 13), (0, 12, 23, 15)] :: ((wsL_write_r1 ++ (wsL_write_r2 ++ (wsL_write_r3 ++ (wsL_write_r4 ++ wsL_write_r5)))) ++ wsX50 ++ wsX30 ++ wsX40 ++ wsX20 ++ wsX00 ++ (vx_atS RX5 85 "java/lang/IndexOutOfBoundsException" ["java/lang/RuntimeException", "java/lang/Exception"]).filter goodWord ++ (vx_atS RX5 53 "java/lang/IllegalArgumentException" ["java/lang/RuntimeException", "java/lang/Exception"]).filter goodWord ++ (vx_atS RX5 63 "java/lang/IllegalStateException" ["java/lang/RuntimeException", "java/lang/Exception"]).filter goodWord)
def wsL_take_r1 : List Cond := [Cond.classLink RL 21 "java/lang/IndexOutOfBoundsException", Cond.classLink RL 15 "java/lang/IllegalStateException", Cond.methodLink RL 34 yX5_take, Cond.instanceMethod yX5_take, Cond.selects RX5 yX5_take yX5_take, Cond.initialized RX5, Cond.code yX5_take cX5_take 4 (some .int), Cond.classLink RX5 81 "java/lang/IndexOutOfBoundsException", Cond.initialized "java/lang/IndexOutOfBoundsException", Cond.classLink RX5 59 "java/lang/IllegalStateException", Cond.initialized "java/lang/IllegalStateException", Cond.fieldLink RX5 18 "ShardHarbour" "bytesAt" "[I", Cond.fieldLink RX5 38 "ShardHarbour" "shards" "[LShardHarbour$Shard;", Cond.methodLink RX5 104 yX5_isKey, Cond.instanceMethod yX5_isKey, Cond.selects RX5 yX5_isKey yX5_isKey, Cond.code yX5_isKey cX5_isKey 2 (some .boolean), Cond.methodLink RX5 109 yX5_numberOfShardWith, Cond.instanceMethod yX5_numberOfShardWith, Cond.selects RX5 yX5_numberOfShardWith yX5_numberOfShardWith, Cond.code yX5_numberOfShardWith cX5_numberOfShardWith 3 (some .int), Cond.fieldLink RX5 45 "ShardHarbour" "shardCount" "I", Cond.methodLink RX5 113 yX5_mayChange, Cond.instanceMethod yX5_mayChange]
def wsL_take_r2 : List Cond := [Cond.selects RX5 yX5_mayChange yX5_mayChange, Cond.code yX5_mayChange cX5_mayChange 2 (some .boolean), Cond.fieldLink RX5 251 "ShardHarbour" "changeCount" "I", Cond.methodLink RX5 129 yX5_change, Cond.instanceMethod yX5_change, Cond.selects RX5 yX5_change yX5_change, Cond.code yX5_change cX5_change 7 none, Cond.classLink RX5 224 RX0, Cond.instantiable RX0 6, Cond.initialized RX0, Cond.fieldLink RX5 193 "ShardHarbour" "hour" "I", Cond.fieldLink RX5 219 "ShardHarbour" "lastChange" "LShardHarbour$Change;", Cond.fieldLink RX5 22 "ShardHarbour" "tenantAt" "[I", Cond.instanceMethod yX0_init, Cond.code yX0_init cX0_init 3 none, Cond.methodLink RX0 1 objectInit, Cond.instanceMethod objectInit, Cond.code objectInit ⟨#[0xb1]⟩ 1 none, Cond.fieldLink RX0 7 "ShardHarbour$Change" "hour" "I", Cond.fieldLink RX0 13 "ShardHarbour$Change" "earlier" "LShardHarbour$Change;", Cond.instanceMethod yX0_setBefore, Cond.selects RX0 yX0_setBefore yX0_setBefore, Cond.code yX0_setBefore cX0_setBefore 3 none, Cond.fieldLink RX0 17 "ShardHarbour$Change" "tenantBefore" "I"]
def wsL_take_r3 : List Cond := [Cond.fieldLink RX0 20 "ShardHarbour$Change" "bytesBefore" "I", Cond.instanceMethod yX0_setBehind, Cond.selects RX0 yX0_setBehind yX0_setBehind, Cond.code yX0_setBehind cX0_setBehind 3 none, Cond.fieldLink RX0 23 "ShardHarbour$Change" "tenantBehind" "I", Cond.fieldLink RX0 26 "ShardHarbour$Change" "bytesBehind" "I", Cond.methodLink RX5 264 yX5_addToTenant, Cond.instanceMethod yX5_addToTenant, Cond.selects RX5 yX5_addToTenant yX5_addToTenant, Cond.code yX5_addToTenant cX5_addToTenant 3 none, Cond.fieldLink RX5 27 "ShardHarbour" "tenants" "[LShardHarbour$Tenant;", Cond.methodLink RX5 89 yX5_isTenant, Cond.instanceMethod yX5_isTenant, Cond.selects RX5 yX5_isTenant yX5_isTenant, Cond.code yX5_isTenant cX5_isTenant 2 (some .boolean), Cond.instanceMethod yX3_hasCopied, Cond.initialized RX3, Cond.selects RX3 yX3_hasCopied yX3_hasCopied, Cond.code yX3_hasCopied cX3_hasCopied 2 (some .boolean), Cond.fieldLink RX3 31 "ShardHarbour$Shard" "nextToCopy" "I", Cond.methodLink RX3 27 yX3_isMoving, Cond.instanceMethod yX3_isMoving, Cond.selects RX3 yX3_isMoving yX3_isMoving, Cond.code yX3_isMoving cX3_isMoving 1 (some .boolean)]
def wsL_take_r4 : List Cond := [Cond.fieldLink RX3 19 "ShardHarbour$Shard" "target" "LShardHarbour$Machine;", Cond.methodLink RX5 270 yX5_changeCopy, Cond.instanceMethod yX5_changeCopy, Cond.selects RX5 yX5_changeCopy yX5_changeCopy, Cond.code yX5_changeCopy cX5_changeCopy 3 none, Cond.instanceMethod yX2_hasRoomFor, Cond.initialized RX2, Cond.selects RX2 yX2_hasRoomFor yX2_hasRoomFor, Cond.code yX2_hasRoomFor cX2_hasRoomFor 2 (some .boolean), Cond.fieldLink RX2 13 "ShardHarbour$Machine" "held" "I", Cond.fieldLink RX2 16 "ShardHarbour$Machine" "room" "I", Cond.methodLink RX5 187 yX5_failMove, Cond.instanceMethod yX5_failMove, Cond.selects RX5 yX5_failMove yX5_failMove, Cond.code yX5_failMove cX5_failMove 2 none, Cond.fieldLink RX5 14 "ShardHarbour" "nowhere" "LShardHarbour$Machine;", Cond.fieldLink RX5 248 "ShardHarbour" "movesFailed" "I", Cond.instanceMethod yX3_aimAt, Cond.selects RX3 yX3_aimAt yX3_aimAt, Cond.code yX3_aimAt cX3_aimAt 2 none, Cond.fieldLink RX3 34 "ShardHarbour$Shard" "first" "I", Cond.fieldLink RX3 37 "ShardHarbour$Shard" "mayCopy" "I", Cond.fieldLink RX3 40 "ShardHarbour$Shard" "copied" "I"]
def wsL_take : List Cond := .codeWith yL_take cL_take 4 (some .int) [(0, 9, 12, 21), (0, 9, 15, 15)] :: ((wsL_take_r1 ++ (wsL_take_r2 ++ (wsL_take_r3 ++ wsL_take_r4))) ++ wsX50 ++ wsX30 ++ wsX20 ++ wsX00 ++ wsX40 ++ (vx_atS RX5 85 "java/lang/IndexOutOfBoundsException" ["java/lang/RuntimeException", "java/lang/Exception"]).filter goodWord ++ (vx_atS RX5 63 "java/lang/IllegalStateException" ["java/lang/RuntimeException", "java/lang/Exception"]).filter goodWord)
def wsL_read : List Cond := .codeWith yL_read cL_read 4 (some .int) [(0, 9, 12, 21), (0, 9, 15, 15)] :: ([.classLink RL 21 "java/lang/IndexOutOfBoundsException", .classLink RL 15 "java/lang/IllegalStateException", .methodLink RL 37 yX5_read, .instanceMethod yX5_read, .selects RX5 yX5_read yX5_read, .initialized RX5, .code yX5_read cX5_read 3 (some .int), .classLink RX5 81 "java/lang/IndexOutOfBoundsException", .initialized "java/lang/IndexOutOfBoundsException", .classLink RX5 59 "java/lang/IllegalStateException", .initialized "java/lang/IllegalStateException", .fieldLink RX5 38 "ShardHarbour" "shards" "[LShardHarbour$Shard;", .fieldLink RX5 18 "ShardHarbour" "bytesAt" "[I", .methodLink RX5 104 yX5_isKey, .instanceMethod yX5_isKey, .selects RX5 yX5_isKey yX5_isKey, .code yX5_isKey cX5_isKey 2 (some .boolean), .methodLink RX5 109 yX5_numberOfShardWith, .instanceMethod yX5_numberOfShardWith, .selects RX5 yX5_numberOfShardWith yX5_numberOfShardWith, .code yX5_numberOfShardWith cX5_numberOfShardWith 3 (some .int), .fieldLink RX5 45 "ShardHarbour" "shardCount" "I"] ++ wsX50 ++ wsX30 ++ wsX20 ++ (vx_atS RX5 85 "java/lang/IndexOutOfBoundsException" ["java/lang/RuntimeException", "java/lang/Exception"]).filter goodWord ++ (vx_atS RX5 63 "java/lang/IllegalStateException" ["java/lang/RuntimeException", "java/lang/Exception"]).filter goodWord)
def wsL_split_r1 : List Cond := [Cond.classLink RL 21 "java/lang/IndexOutOfBoundsException", Cond.classLink RL 15 "java/lang/IllegalStateException", Cond.methodLink RL 40 yX5_split, Cond.instanceMethod yX5_split, Cond.selects RX5 yX5_split yX5_split, Cond.initialized RX5, Cond.code yX5_split cX5_split 6 (some .int), Cond.classLink RX5 81 "java/lang/IndexOutOfBoundsException", Cond.initialized "java/lang/IndexOutOfBoundsException", Cond.classLink RX5 59 "java/lang/IllegalStateException", Cond.initialized "java/lang/IllegalStateException", Cond.fieldLink RX5 38 "ShardHarbour" "shards" "[LShardHarbour$Shard;", Cond.fieldLink RX5 45 "ShardHarbour" "shardCount" "I", Cond.methodLink RX5 104 yX5_isKey, Cond.instanceMethod yX5_isKey, Cond.selects RX5 yX5_isKey yX5_isKey, Cond.code yX5_isKey cX5_isKey 2 (some .boolean), Cond.methodLink RX5 109 yX5_numberOfShardWith, Cond.instanceMethod yX5_numberOfShardWith, Cond.selects RX5 yX5_numberOfShardWith yX5_numberOfShardWith, Cond.code yX5_numberOfShardWith cX5_numberOfShardWith 3 (some .int), Cond.instanceMethod yX3_isMoving, Cond.initialized RX3, Cond.selects RX3 yX3_isMoving yX3_isMoving]
def wsL_split_r2 : List Cond := [Cond.code yX3_isMoving cX3_isMoving 1 (some .boolean), Cond.fieldLink RX3 19 "ShardHarbour$Shard" "target" "LShardHarbour$Machine;", Cond.methodLink RX5 156 yX5_cutInTwo, Cond.instanceMethod yX5_cutInTwo, Cond.selects RX5 yX5_cutInTwo yX5_cutInTwo, Cond.code yX5_cutInTwo cX5_cutInTwo 4 none, Cond.methodLink RX5 274 yX5_bytesBetween, Cond.instanceMethod yX5_bytesBetween, Cond.selects RX5 yX5_bytesBetween yX5_bytesBetween, Cond.code yX5_bytesBetween cX5_bytesBetween 5 (some .int), Cond.fieldLink RX5 18 "ShardHarbour" "bytesAt" "[I"]
def wsL_split : List Cond := .codeWith yL_split cL_split 4 (some .int) [(0, 9, 12, 21), (0, 9, 15, 15)] :: ((wsL_split_r1 ++ wsL_split_r2) ++ wsX50 ++ wsX30 ++ wsX20 ++ (vx_atS RX5 85 "java/lang/IndexOutOfBoundsException" ["java/lang/RuntimeException", "java/lang/Exception"]).filter goodWord ++ (vx_atS RX5 63 "java/lang/IllegalStateException" ["java/lang/RuntimeException", "java/lang/Exception"]).filter goodWord)
def wsL_join_r1 : List Cond := [Cond.classLink RL 21 "java/lang/IndexOutOfBoundsException", Cond.classLink RL 15 "java/lang/IllegalStateException", Cond.methodLink RL 43 yX5_join, Cond.instanceMethod yX5_join, Cond.selects RX5 yX5_join yX5_join, Cond.initialized RX5, Cond.code yX5_join cX5_join 5 (some .int), Cond.classLink RX5 81 "java/lang/IndexOutOfBoundsException", Cond.initialized "java/lang/IndexOutOfBoundsException", Cond.classLink RX5 59 "java/lang/IllegalStateException", Cond.initialized "java/lang/IllegalStateException", Cond.fieldLink RX5 38 "ShardHarbour" "shards" "[LShardHarbour$Shard;", Cond.fieldLink RX5 45 "ShardHarbour" "shardCount" "I", Cond.methodLink RX5 160 yX5_isShard, Cond.instanceMethod yX5_isShard, Cond.selects RX5 yX5_isShard yX5_isShard, Cond.code yX5_isShard cX5_isShard 2 (some .boolean), Cond.methodLink RX5 165 yX5_canBeJoined, Cond.instanceMethod yX5_canBeJoined, Cond.selects RX5 yX5_canBeJoined yX5_canBeJoined, Cond.code yX5_canBeJoined cX5_canBeJoined 3 (some .boolean), Cond.instanceMethod yX3_isMoving, Cond.initialized RX3, Cond.selects RX3 yX3_isMoving yX3_isMoving]
def wsL_join_r2 : List Cond := [Cond.code yX3_isMoving cX3_isMoving 1 (some .boolean), Cond.fieldLink RX3 19 "ShardHarbour$Shard" "target" "LShardHarbour$Machine;"]
def wsL_join : List Cond := .codeWith yL_join cL_join 4 (some .int) [(0, 9, 12, 21), (0, 9, 15, 15)] :: ((wsL_join_r1 ++ wsL_join_r2) ++ wsX50 ++ wsX30 ++ wsX20 ++ (vx_atS RX5 85 "java/lang/IndexOutOfBoundsException" ["java/lang/RuntimeException", "java/lang/Exception"]).filter goodWord ++ (vx_atS RX5 63 "java/lang/IllegalStateException" ["java/lang/RuntimeException", "java/lang/Exception"]).filter goodWord)
def wsL_move_r1 : List Cond := [Cond.classLink RL 21 "java/lang/IndexOutOfBoundsException", Cond.classLink RL 15 "java/lang/IllegalStateException", Cond.methodLink RL 46 yX5_move, Cond.instanceMethod yX5_move, Cond.selects RX5 yX5_move yX5_move, Cond.initialized RX5, Cond.code yX5_move cX5_move 5 (some .int), Cond.classLink RX5 81 "java/lang/IndexOutOfBoundsException", Cond.initialized "java/lang/IndexOutOfBoundsException", Cond.classLink RX5 59 "java/lang/IllegalStateException", Cond.initialized "java/lang/IllegalStateException", Cond.fieldLink RX5 38 "ShardHarbour" "shards" "[LShardHarbour$Shard;", Cond.fieldLink RX5 32 "ShardHarbour" "machines" "[LShardHarbour$Machine;", Cond.methodLink RX5 160 yX5_isShard, Cond.instanceMethod yX5_isShard, Cond.selects RX5 yX5_isShard yX5_isShard, Cond.code yX5_isShard cX5_isShard 2 (some .boolean), Cond.fieldLink RX5 45 "ShardHarbour" "shardCount" "I", Cond.methodLink RX5 77 yX5_isMachine, Cond.instanceMethod yX5_isMachine, Cond.selects RX5 yX5_isMachine yX5_isMachine, Cond.code yX5_isMachine cX5_isMachine 2 (some .boolean), Cond.fieldLink RX5 56 "ShardHarbour" "machineCount" "I", Cond.instanceMethod yX3_isMoving]
def wsL_move_r2 : List Cond := [Cond.initialized RX3, Cond.selects RX3 yX3_isMoving yX3_isMoving, Cond.code yX3_isMoving cX3_isMoving 1 (some .boolean), Cond.fieldLink RX3 19 "ShardHarbour$Shard" "target" "LShardHarbour$Machine;", Cond.instanceMethod yX3_aimAt, Cond.selects RX3 yX3_aimAt yX3_aimAt, Cond.code yX3_aimAt cX3_aimAt 2 none, Cond.fieldLink RX3 34 "ShardHarbour$Shard" "first" "I", Cond.fieldLink RX3 31 "ShardHarbour$Shard" "nextToCopy" "I", Cond.fieldLink RX3 37 "ShardHarbour$Shard" "mayCopy" "I", Cond.fieldLink RX3 40 "ShardHarbour$Shard" "copied" "I"]
def wsL_move : List Cond := .codeWith yL_move cL_move 5 (some .int) [(0, 10, 13, 21), (0, 10, 17, 15)] :: ((wsL_move_r1 ++ wsL_move_r2) ++ wsX50 ++ wsX30 ++ wsX20 ++ (vx_atS RX5 85 "java/lang/IndexOutOfBoundsException" ["java/lang/RuntimeException", "java/lang/Exception"]).filter goodWord ++ (vx_atS RX5 63 "java/lang/IllegalStateException" ["java/lang/RuntimeException", "java/lang/Exception"]).filter goodWord)
def wsL_callOff_r1 : List Cond := [Cond.classLink RL 21 "java/lang/IndexOutOfBoundsException", Cond.classLink RL 15 "java/lang/IllegalStateException", Cond.methodLink RL 49 yX5_callOff, Cond.instanceMethod yX5_callOff, Cond.selects RX5 yX5_callOff yX5_callOff, Cond.initialized RX5, Cond.code yX5_callOff cX5_callOff 3 (some .int), Cond.classLink RX5 81 "java/lang/IndexOutOfBoundsException", Cond.initialized "java/lang/IndexOutOfBoundsException", Cond.classLink RX5 59 "java/lang/IllegalStateException", Cond.initialized "java/lang/IllegalStateException", Cond.fieldLink RX5 38 "ShardHarbour" "shards" "[LShardHarbour$Shard;", Cond.methodLink RX5 160 yX5_isShard, Cond.instanceMethod yX5_isShard, Cond.selects RX5 yX5_isShard yX5_isShard, Cond.code yX5_isShard cX5_isShard 2 (some .boolean), Cond.fieldLink RX5 45 "ShardHarbour" "shardCount" "I", Cond.instanceMethod yX3_isMoving, Cond.initialized RX3, Cond.selects RX3 yX3_isMoving yX3_isMoving, Cond.code yX3_isMoving cX3_isMoving 1 (some .boolean), Cond.fieldLink RX3 19 "ShardHarbour$Shard" "target" "LShardHarbour$Machine;", Cond.methodLink RX5 187 yX5_failMove, Cond.instanceMethod yX5_failMove]
def wsL_callOff_r2 : List Cond := [Cond.selects RX5 yX5_failMove yX5_failMove, Cond.code yX5_failMove cX5_failMove 2 none, Cond.fieldLink RX5 14 "ShardHarbour" "nowhere" "LShardHarbour$Machine;", Cond.fieldLink RX5 248 "ShardHarbour" "movesFailed" "I", Cond.instanceMethod yX3_aimAt, Cond.selects RX3 yX3_aimAt yX3_aimAt, Cond.code yX3_aimAt cX3_aimAt 2 none, Cond.fieldLink RX3 34 "ShardHarbour$Shard" "first" "I", Cond.fieldLink RX3 31 "ShardHarbour$Shard" "nextToCopy" "I", Cond.fieldLink RX3 37 "ShardHarbour$Shard" "mayCopy" "I", Cond.fieldLink RX3 40 "ShardHarbour$Shard" "copied" "I"]
def wsL_callOff : List Cond := .codeWith yL_callOff cL_callOff 4 (some .int) [(0, 9, 12, 21), (0, 9, 15, 15)] :: ((wsL_callOff_r1 ++ wsL_callOff_r2) ++ wsX50 ++ wsX30 ++ wsX20 ++ (vx_atS RX5 85 "java/lang/IndexOutOfBoundsException" ["java/lang/RuntimeException", "java/lang/Exception"]).filter goodWord ++ (vx_atS RX5 63 "java/lang/IllegalStateException" ["java/lang/RuntimeException", "java/lang/Exception"]).filter goodWord)
def wsL_pass_r1 : List Cond := [Cond.classLink RL 13 "java/lang/IllegalArgumentException", Cond.classLink RL 15 "java/lang/IllegalStateException", Cond.methodLink RL 52 yX5_pass, Cond.instanceMethod yX5_pass, Cond.selects RX5 yX5_pass yX5_pass, Cond.initialized RX5, Cond.code yX5_pass cX5_pass 3 (some .int), Cond.classLink RX5 49 "java/lang/IllegalArgumentException", Cond.initialized "java/lang/IllegalArgumentException", Cond.classLink RX5 59 "java/lang/IllegalStateException", Cond.initialized "java/lang/IllegalStateException", Cond.fieldLink RX5 193 "ShardHarbour" "hour" "I", Cond.methodLink RX5 198 yX5_passOneHour, Cond.instanceMethod yX5_passOneHour, Cond.selects RX5 yX5_passOneHour yX5_passOneHour, Cond.code yX5_passOneHour cX5_passOneHour 2 none, Cond.fieldLink RX5 45 "ShardHarbour" "shardCount" "I", Cond.fieldLink RX5 38 "ShardHarbour" "shards" "[LShardHarbour$Shard;", Cond.fieldLink RX5 27 "ShardHarbour" "tenants" "[LShardHarbour$Tenant;", Cond.fieldLink RX5 101 "ShardHarbour" "heatLimit" "I", Cond.instanceMethod yX3_isMoving, Cond.initialized RX3, Cond.selects RX3 yX3_isMoving yX3_isMoving, Cond.code yX3_isMoving cX3_isMoving 1 (some .boolean)]
def wsL_pass_r2 : List Cond := [Cond.fieldLink RX3 19 "ShardHarbour$Shard" "target" "LShardHarbour$Machine;", Cond.methodLink RX5 293 yX5_copyForOneHour, Cond.instanceMethod yX5_copyForOneHour, Cond.selects RX5 yX5_copyForOneHour yX5_copyForOneHour, Cond.code yX5_copyForOneHour cX5_copyForOneHour 4 none, Cond.fieldLink RX5 18 "ShardHarbour" "bytesAt" "[I", Cond.instanceMethod yX2_hasRoomFor, Cond.initialized RX2, Cond.selects RX2 yX2_hasRoomFor yX2_hasRoomFor, Cond.code yX2_hasRoomFor cX2_hasRoomFor 2 (some .boolean), Cond.fieldLink RX2 13 "ShardHarbour$Machine" "held" "I", Cond.fieldLink RX2 16 "ShardHarbour$Machine" "room" "I", Cond.methodLink RX5 187 yX5_failMove, Cond.instanceMethod yX5_failMove, Cond.selects RX5 yX5_failMove yX5_failMove, Cond.code yX5_failMove cX5_failMove 2 none, Cond.fieldLink RX5 14 "ShardHarbour" "nowhere" "LShardHarbour$Machine;", Cond.fieldLink RX5 248 "ShardHarbour" "movesFailed" "I", Cond.instanceMethod yX3_aimAt, Cond.selects RX3 yX3_aimAt yX3_aimAt, Cond.code yX3_aimAt cX3_aimAt 2 none, Cond.fieldLink RX3 34 "ShardHarbour$Shard" "first" "I", Cond.fieldLink RX3 31 "ShardHarbour$Shard" "nextToCopy" "I", Cond.fieldLink RX3 37 "ShardHarbour$Shard" "mayCopy" "I"]
def wsL_pass_r3 : List Cond := [Cond.fieldLink RX3 40 "ShardHarbour$Shard" "copied" "I", Cond.instanceMethod yX3_takeCopy, Cond.selects RX3 yX3_takeCopy yX3_takeCopy, Cond.code yX3_takeCopy cX3_takeCopy 2 none, Cond.methodLink RX5 290 yX5_cutOver, Cond.instanceMethod yX5_cutOver, Cond.selects RX5 yX5_cutOver yX5_cutOver, Cond.code yX5_cutOver cX5_cutOver 2 none, Cond.fieldLink RX5 245 "ShardHarbour" "movesDone" "I", Cond.classLink RX5 237 RX1, Cond.instantiable RX1 4, Cond.initialized RX1, Cond.fieldLink RX5 232 "ShardHarbour" "lastCutOver" "LShardHarbour$CutOver;", Cond.instanceMethod yX1_init, Cond.code yX1_init cX1_init 5 none, Cond.methodLink RX1 1 objectInit, Cond.instanceMethod objectInit, Cond.code objectInit ⟨#[0xb1]⟩ 1 none, Cond.fieldLink RX1 7 "ShardHarbour$CutOver" "first" "I", Cond.fieldLink RX1 13 "ShardHarbour$CutOver" "last" "I", Cond.fieldLink RX1 16 "ShardHarbour$CutOver" "machine" "I", Cond.fieldLink RX1 19 "ShardHarbour$CutOver" "earlier" "LShardHarbour$CutOver;", Cond.methodLink RX5 296 yX5_drawMoveByHeat, Cond.instanceMethod yX5_drawMoveByHeat]
def wsL_pass_r4 : List Cond := [Cond.selects RX5 yX5_drawMoveByHeat yX5_drawMoveByHeat, Cond.code yX5_drawMoveByHeat cX5_drawMoveByHeat 4 none, Cond.methodLink RX5 299 yX5_hottestMachineUp, Cond.instanceMethod yX5_hottestMachineUp, Cond.selects RX5 yX5_hottestMachineUp yX5_hottestMachineUp, Cond.code yX5_hottestMachineUp cX5_hottestMachineUp 4 (some (.object "ShardHarbour$Machine")), Cond.fieldLink RX5 56 "ShardHarbour" "machineCount" "I", Cond.fieldLink RX5 32 "ShardHarbour" "machines" "[LShardHarbour$Machine;", Cond.methodLink RX5 209 yX5_heatOf, Cond.instanceMethod yX5_heatOf, Cond.selects RX5 yX5_heatOf yX5_heatOf, Cond.code yX5_heatOf cX5_heatOf 4 (some .int), Cond.methodLink RX5 303 yX5_coldestMachineUp, Cond.instanceMethod yX5_coldestMachineUp, Cond.selects RX5 yX5_coldestMachineUp yX5_coldestMachineUp, Cond.code yX5_coldestMachineUp cX5_coldestMachineUp 4 (some (.object "ShardHarbour$Machine")), Cond.methodLink RX5 306 yX5_movesAwayFrom, Cond.instanceMethod yX5_movesAwayFrom, Cond.selects RX5 yX5_movesAwayFrom yX5_movesAwayFrom, Cond.code yX5_movesAwayFrom cX5_movesAwayFrom 3 (some .boolean), Cond.methodLink RX5 310 yX5_hottestShardOn, Cond.instanceMethod yX5_hottestShardOn, Cond.selects RX5 yX5_hottestShardOn yX5_hottestShardOn, Cond.code yX5_hottestShardOn cX5_hottestShardOn 4 (some .int)]
def wsL_pass_r5 : List Cond := [Cond.methodLink RX5 160 yX5_isShard, Cond.instanceMethod yX5_isShard, Cond.selects RX5 yX5_isShard yX5_isShard, Cond.code yX5_isShard cX5_isShard 2 (some .boolean)]
def wsL_pass : List Cond := .codeWith yL_pass cL_pass 4 (some .int) [(0, 9, 12, 13), (0, 9, 15, 15)] :: ((wsL_pass_r1 ++ (wsL_pass_r2 ++ (wsL_pass_r3 ++ (wsL_pass_r4 ++ wsL_pass_r5)))) ++ wsX50 ++ wsX40 ++ wsX30 ++ wsX20 ++ wsX10 ++ (vx_atS RX5 53 "java/lang/IllegalArgumentException" ["java/lang/RuntimeException", "java/lang/Exception"]).filter goodWord ++ (vx_atS RX5 63 "java/lang/IllegalStateException" ["java/lang/RuntimeException", "java/lang/Exception"]).filter goodWord)
def wsL_shardOf : List Cond := .codeWith yL_shardOf cL_shardOf 4 (some .int) [(0, 9, 12, 21)] :: ([.classLink RL 21 "java/lang/IndexOutOfBoundsException", .methodLink RL 55 yX5_shardOf, .instanceMethod yX5_shardOf, .selects RX5 yX5_shardOf yX5_shardOf, .initialized RX5, .code yX5_shardOf cX5_shardOf 2 (some .int), .classLink RX5 81 "java/lang/IndexOutOfBoundsException", .initialized "java/lang/IndexOutOfBoundsException", .methodLink RX5 104 yX5_isKey, .instanceMethod yX5_isKey, .selects RX5 yX5_isKey yX5_isKey, .code yX5_isKey cX5_isKey 2 (some .boolean), .methodLink RX5 109 yX5_numberOfShardWith, .instanceMethod yX5_numberOfShardWith, .selects RX5 yX5_numberOfShardWith yX5_numberOfShardWith, .code yX5_numberOfShardWith cX5_numberOfShardWith 3 (some .int), .fieldLink RX5 45 "ShardHarbour" "shardCount" "I", .fieldLink RX5 38 "ShardHarbour" "shards" "[LShardHarbour$Shard;"] ++ wsX50 ++ wsX30 ++ (vx_atS RX5 85 "java/lang/IndexOutOfBoundsException" ["java/lang/RuntimeException", "java/lang/Exception"]).filter goodWord)
def wsL_shard : List Cond := .codeWith yL_shard cL_shard 5 (some .int) [(0, 10, 13, 21), (0, 10, 17, 13)] :: ([.classLink RL 21 "java/lang/IndexOutOfBoundsException", .classLink RL 13 "java/lang/IllegalArgumentException", .methodLink RL 58 yX5_shard, .instanceMethod yX5_shard, .selects RX5 yX5_shard yX5_shard, .initialized RX5, .code yX5_shard cX5_shard 4 (some .int), .classLink RX5 81 "java/lang/IndexOutOfBoundsException", .initialized "java/lang/IndexOutOfBoundsException", .classLink RX5 49 "java/lang/IllegalArgumentException", .initialized "java/lang/IllegalArgumentException", .fieldLink RX5 38 "ShardHarbour" "shards" "[LShardHarbour$Shard;", .methodLink RX5 160 yX5_isShard, .instanceMethod yX5_isShard, .selects RX5 yX5_isShard yX5_isShard, .code yX5_isShard cX5_isShard 2 (some .boolean), .fieldLink RX5 45 "ShardHarbour" "shardCount" "I"] ++ wsX50 ++ wsX30 ++ wsX20 ++ (vx_atS RX5 85 "java/lang/IndexOutOfBoundsException" ["java/lang/RuntimeException", "java/lang/Exception"]).filter goodWord ++ (vx_atS RX5 53 "java/lang/IllegalArgumentException" ["java/lang/RuntimeException", "java/lang/Exception"]).filter goodWord)
def wsL_machineOf_r1 : List Cond := [Cond.classLink RL 21 "java/lang/IndexOutOfBoundsException", Cond.classLink RL 13 "java/lang/IllegalArgumentException", Cond.methodLink RL 61 yX5_machineOf, Cond.instanceMethod yX5_machineOf, Cond.selects RX5 yX5_machineOf yX5_machineOf, Cond.initialized RX5, Cond.code yX5_machineOf cX5_machineOf 4 (some .int), Cond.classLink RX5 81 "java/lang/IndexOutOfBoundsException", Cond.initialized "java/lang/IndexOutOfBoundsException", Cond.classLink RX5 49 "java/lang/IllegalArgumentException", Cond.initialized "java/lang/IllegalArgumentException", Cond.fieldLink RX5 32 "ShardHarbour" "machines" "[LShardHarbour$Machine;", Cond.methodLink RX5 77 yX5_isMachine, Cond.instanceMethod yX5_isMachine, Cond.selects RX5 yX5_isMachine yX5_isMachine, Cond.code yX5_isMachine cX5_isMachine 2 (some .boolean), Cond.fieldLink RX5 56 "ShardHarbour" "machineCount" "I", Cond.methodLink RX5 209 yX5_heatOf, Cond.instanceMethod yX5_heatOf, Cond.selects RX5 yX5_heatOf yX5_heatOf, Cond.code yX5_heatOf cX5_heatOf 4 (some .int), Cond.fieldLink RX5 45 "ShardHarbour" "shardCount" "I", Cond.fieldLink RX5 38 "ShardHarbour" "shards" "[LShardHarbour$Shard;", Cond.methodLink RX5 213 yX5_shardCountOn]
def wsL_machineOf_r2 : List Cond := [Cond.instanceMethod yX5_shardCountOn, Cond.selects RX5 yX5_shardCountOn yX5_shardCountOn, Cond.code yX5_shardCountOn cX5_shardCountOn 4 (some .int)]
def wsL_machineOf : List Cond := .codeWith yL_machineOf cL_machineOf 5 (some .int) [(0, 10, 13, 21), (0, 10, 17, 13)] :: ((wsL_machineOf_r1 ++ wsL_machineOf_r2) ++ wsX50 ++ wsX20 ++ wsX30 ++ (vx_atS RX5 85 "java/lang/IndexOutOfBoundsException" ["java/lang/RuntimeException", "java/lang/Exception"]).filter goodWord ++ (vx_atS RX5 53 "java/lang/IllegalArgumentException" ["java/lang/RuntimeException", "java/lang/Exception"]).filter goodWord)
def wsL_tenant : List Cond := .codeWith yL_tenant cL_tenant 5 (some .int) [(0, 10, 13, 21), (0, 10, 17, 13)] :: ([.classLink RL 21 "java/lang/IndexOutOfBoundsException", .classLink RL 13 "java/lang/IllegalArgumentException", .methodLink RL 64 yX5_tenant, .instanceMethod yX5_tenant, .selects RX5 yX5_tenant yX5_tenant, .initialized RX5, .code yX5_tenant cX5_tenant 4 (some .int), .classLink RX5 81 "java/lang/IndexOutOfBoundsException", .initialized "java/lang/IndexOutOfBoundsException", .classLink RX5 49 "java/lang/IllegalArgumentException", .initialized "java/lang/IllegalArgumentException", .fieldLink RX5 27 "ShardHarbour" "tenants" "[LShardHarbour$Tenant;", .methodLink RX5 89 yX5_isTenant, .instanceMethod yX5_isTenant, .selects RX5 yX5_isTenant yX5_isTenant, .code yX5_isTenant cX5_isTenant 2 (some .boolean)] ++ wsX50 ++ wsX40 ++ (vx_atS RX5 85 "java/lang/IndexOutOfBoundsException" ["java/lang/RuntimeException", "java/lang/Exception"]).filter goodWord ++ (vx_atS RX5 53 "java/lang/IllegalArgumentException" ["java/lang/RuntimeException", "java/lang/Exception"]).filter goodWord)
def wsL_billAnew : List Cond := .codeWith yL_billAnew cL_billAnew 4 (some .int) [(0, 9, 12, 21)] :: ([.classLink RL 21 "java/lang/IndexOutOfBoundsException", .methodLink RL 67 yX5_billAnew, .instanceMethod yX5_billAnew, .selects RX5 yX5_billAnew yX5_billAnew, .initialized RX5, .code yX5_billAnew cX5_billAnew 4 (some .int), .classLink RX5 81 "java/lang/IndexOutOfBoundsException", .initialized "java/lang/IndexOutOfBoundsException", .fieldLink RX5 219 "ShardHarbour" "lastChange" "LShardHarbour$Change;", .fieldLink RX5 193 "ShardHarbour" "hour" "I", .methodLink RX5 89 yX5_isTenant, .instanceMethod yX5_isTenant, .selects RX5 yX5_isTenant yX5_isTenant, .code yX5_isTenant cX5_isTenant 2 (some .boolean), .instanceMethod yX0_moreBytesOf, .initialized RX0, .selects RX0 yX0_moreBytesOf yX0_moreBytesOf, .code yX0_moreBytesOf cX0_moreBytesOf 4 (some .int), .fieldLink RX0 23 "ShardHarbour$Change" "tenantBehind" "I", .fieldLink RX0 26 "ShardHarbour$Change" "bytesBehind" "I", .fieldLink RX0 17 "ShardHarbour$Change" "tenantBefore" "I", .fieldLink RX0 20 "ShardHarbour$Change" "bytesBefore" "I"] ++ wsX50 ++ wsX00 ++ (vx_atS RX5 85 "java/lang/IndexOutOfBoundsException" ["java/lang/RuntimeException", "java/lang/Exception"]).filter goodWord)
def wsL_whereAnew : List Cond := .codeWith yL_whereAnew cL_whereAnew 4 (some .int) [(0, 9, 12, 21)] :: ([.classLink RL 21 "java/lang/IndexOutOfBoundsException", .methodLink RL 70 yX5_whereAnew, .instanceMethod yX5_whereAnew, .selects RX5 yX5_whereAnew yX5_whereAnew, .initialized RX5, .code yX5_whereAnew cX5_whereAnew 3 (some .int), .classLink RX5 81 "java/lang/IndexOutOfBoundsException", .initialized "java/lang/IndexOutOfBoundsException", .fieldLink RX5 232 "ShardHarbour" "lastCutOver" "LShardHarbour$CutOver;", .fieldLink RX5 56 "ShardHarbour" "machineCount" "I", .methodLink RX5 104 yX5_isKey, .instanceMethod yX5_isKey, .selects RX5 yX5_isKey yX5_isKey, .code yX5_isKey cX5_isKey 2 (some .boolean)] ++ wsX50 ++ wsX10 ++ (vx_atS RX5 85 "java/lang/IndexOutOfBoundsException" ["java/lang/RuntimeException", "java/lang/Exception"]).filter goodWord)
def wsL_law0_r1 : List Cond := [Cond.classLink RL 8 RX5, Cond.instantiable RX5 15, Cond.initialized RX5, Cond.classLink RL 74 RX6, Cond.instantiable RX6 20, Cond.initialized RX6, Cond.arrayClass .long, Cond.methodLink RL 73 yX5_init, Cond.instanceMethod yX5_init, Cond.code yX5_init cX5_init 2 none, Cond.methodLink RX5 1 objectInit, Cond.instanceMethod objectInit, Cond.code objectInit ⟨#[0xb1]⟩ 1 none, Cond.classLink RX5 7 RX2, Cond.instantiable RX2 4, Cond.initialized RX2, Cond.fieldLink RX5 14 "ShardHarbour" "nowhere" "LShardHarbour$Machine;", Cond.arrayClass .int, Cond.fieldLink RX5 18 "ShardHarbour" "bytesAt" "[I", Cond.fieldLink RX5 22 "ShardHarbour" "tenantAt" "[I", Cond.classLink RX5 25 RX4, Cond.fieldLink RX5 27 "ShardHarbour" "tenants" "[LShardHarbour$Tenant;", Cond.instantiable RX4 3, Cond.initialized RX4]
def wsL_law0_r2 : List Cond := [Cond.fieldLink RX5 32 "ShardHarbour" "machines" "[LShardHarbour$Machine;", Cond.classLink RX5 36 RX3, Cond.fieldLink RX5 38 "ShardHarbour" "shards" "[LShardHarbour$Shard;", Cond.instantiable RX3 9, Cond.initialized RX3, Cond.fieldLink RX5 45 "ShardHarbour" "shardCount" "I", Cond.instanceMethod yX2_init, Cond.code yX2_init cX2_init 2 none, Cond.methodLink RX2 1 objectInit, Cond.fieldLink RX2 7 "ShardHarbour$Machine" "number" "I", Cond.instanceMethod yX4_init, Cond.code yX4_init cX4_init 1 none, Cond.methodLink RX4 3 objectInit, Cond.fieldLink RX4 9 "ShardHarbour$Tenant" "quota" "I", Cond.instanceMethod yX3_init, Cond.code yX3_init cX3_init 2 none, Cond.methodLink RX3 3 objectInit, Cond.fieldLink RX3 9 "ShardHarbour$Shard" "last" "I", Cond.fieldLink RX3 15 "ShardHarbour$Shard" "home" "LShardHarbour$Machine;", Cond.fieldLink RX3 19 "ShardHarbour$Shard" "target" "LShardHarbour$Machine;", Cond.methodLink RL 76 yX6_init, Cond.instanceMethod yX6_init, Cond.code yX6_init cX6_init 2 none, Cond.methodLink RX6 1 objectInit]
def wsL_law0_r3 : List Cond := [Cond.fieldLink RX6 7 "ShardHarbourModel" "room" "[I", Cond.arrayClass .boolean, Cond.fieldLink RX6 13 "ShardHarbourModel" "isDown" "[Z", Cond.fieldLink RX6 17 "ShardHarbourModel" "quota" "[I", Cond.fieldLink RX6 20 "ShardHarbourModel" "bill" "[I", Cond.fieldLink RX6 23 "ShardHarbourModel" "owner" "[I", Cond.fieldLink RX6 26 "ShardHarbourModel" "bytes" "[I", Cond.fieldLink RX6 29 "ShardHarbourModel" "shards" "I", Cond.fieldLink RX6 33 "ShardHarbourModel" "first" "[I", Cond.fieldLink RX6 36 "ShardHarbourModel" "on" "[I", Cond.fieldLink RX6 39 "ShardHarbourModel" "to" "[I", Cond.fieldLink RX6 42 "ShardHarbourModel" "next" "[I", Cond.fieldLink RX6 45 "ShardHarbourModel" "left" "[I", Cond.fieldLink RX6 48 "ShardHarbourModel" "heat" "[I", Cond.methodLink RL 77 yL_machine, Cond.static yL_machine, Cond.initialized RL, Cond.codeWith yL_machine cL_machine 4 (some .int) [(0, 9, 12, 13), (0, 9, 15, 15)], Cond.classLink RL 13 "java/lang/IllegalArgumentException", Cond.classLink RL 15 "java/lang/IllegalStateException", Cond.methodLink RL 7 yX5_machine, Cond.instanceMethod yX5_machine, Cond.selects RX5 yX5_machine yX5_machine, Cond.code yX5_machine cX5_machine 3 (some .int)]
def wsL_law0_r4 : List Cond := [Cond.classLink RX5 49 "java/lang/IllegalArgumentException", Cond.initialized "java/lang/IllegalArgumentException", Cond.classLink RX5 59 "java/lang/IllegalStateException", Cond.initialized "java/lang/IllegalStateException", Cond.fieldLink RX5 56 "ShardHarbour" "machineCount" "I", Cond.methodLink RX5 74 yX5_settleAllShardsOn, Cond.instanceMethod yX5_settleAllShardsOn, Cond.selects RX5 yX5_settleAllShardsOn yX5_settleAllShardsOn, Cond.code yX5_settleAllShardsOn cX5_settleAllShardsOn 3 none, Cond.methodLink RL 82 yX6_machine, Cond.instanceMethod yX6_machine, Cond.selects RX6 yX6_machine yX6_machine, Cond.code yX6_machine cX6_machine 3 (some .int), Cond.fieldLink RX6 58 "ShardHarbourModel" "machines" "I", Cond.methodLink RX6 54 yX6_in, Cond.static yX6_in, Cond.code yX6_in cX6_in 3 (some .boolean), Cond.methodLink RX6 75 yX6_refused, Cond.instanceMethod yX6_refused, Cond.selects RX6 yX6_refused yX6_refused, Cond.code yX6_refused cX6_refused 2 (some .boolean), Cond.fieldLink RX6 51 "ShardHarbourModel" "thrown" "I", Cond.methodLink RL 83 yX6_thrown, Cond.instanceMethod yX6_thrown]
def wsL_law0_r5 : List Cond := [Cond.selects RX6 yX6_thrown yX6_thrown, Cond.code yX6_thrown cX6_thrown 1 (some .int), Cond.methodLink RL 87 yL_down, Cond.static yL_down, Cond.codeWith yL_down cL_down 5 (some .int) [(0, 17, 20, 21)], Cond.classLink RL 21 "java/lang/IndexOutOfBoundsException", Cond.methodLink RL 17 yX5_down, Cond.instanceMethod yX5_down, Cond.selects RX5 yX5_down yX5_down, Cond.code yX5_down cX5_down 5 (some .boolean), Cond.classLink RX5 81 "java/lang/IndexOutOfBoundsException", Cond.initialized "java/lang/IndexOutOfBoundsException", Cond.methodLink RX5 77 yX5_isMachine, Cond.instanceMethod yX5_isMachine, Cond.selects RX5 yX5_isMachine yX5_isMachine, Cond.code yX5_isMachine cX5_isMachine 2 (some .boolean), Cond.methodLink RX5 86 yX5_failMovesOf, Cond.instanceMethod yX5_failMovesOf, Cond.selects RX5 yX5_failMovesOf yX5_failMovesOf, Cond.code yX5_failMovesOf cX5_failMovesOf 4 none, Cond.instanceMethod yX3_isMoving, Cond.selects RX3 yX3_isMoving yX3_isMoving, Cond.code yX3_isMoving cX3_isMoving 1 (some .boolean), Cond.methodLink RX5 187 yX5_failMove]
def wsL_law0_r6 : List Cond := [Cond.instanceMethod yX5_failMove, Cond.selects RX5 yX5_failMove yX5_failMove, Cond.code yX5_failMove cX5_failMove 2 none, Cond.fieldLink RX5 248 "ShardHarbour" "movesFailed" "I", Cond.instanceMethod yX3_aimAt, Cond.selects RX3 yX3_aimAt yX3_aimAt, Cond.code yX3_aimAt cX3_aimAt 2 none, Cond.fieldLink RX3 34 "ShardHarbour$Shard" "first" "I", Cond.fieldLink RX3 31 "ShardHarbour$Shard" "nextToCopy" "I", Cond.fieldLink RX3 37 "ShardHarbour$Shard" "mayCopy" "I", Cond.fieldLink RX3 40 "ShardHarbour$Shard" "copied" "I", Cond.methodLink RL 90 yX6_down, Cond.instanceMethod yX6_down, Cond.selects RX6 yX6_down yX6_down, Cond.code yX6_down cX6_down 5 (some .boolean), Cond.methodLink RX6 79 yX6_isMachine, Cond.instanceMethod yX6_isMachine, Cond.selects RX6 yX6_isMachine yX6_isMachine, Cond.code yX6_isMachine cX6_isMachine 2 (some .boolean), Cond.methodLink RX6 82 yX6_rollBack, Cond.instanceMethod yX6_rollBack, Cond.selects RX6 yX6_rollBack yX6_rollBack, Cond.code yX6_rollBack cX6_rollBack 2 none, Cond.fieldLink RX6 72 "ShardHarbourModel" "failed" "I"]
def wsL_law0_r7 : List Cond := [Cond.methodLink RL 91 yL_quota, Cond.static yL_quota, Cond.codeWith yL_quota cL_quota 5 (some .int) [(0, 10, 13, 21), (0, 10, 17, 13)], Cond.methodLink RL 23 yX5_quota, Cond.instanceMethod yX5_quota, Cond.selects RX5 yX5_quota yX5_quota, Cond.code yX5_quota cX5_quota 4 (some .int), Cond.methodLink RX5 89 yX5_isTenant, Cond.instanceMethod yX5_isTenant, Cond.selects RX5 yX5_isTenant yX5_isTenant, Cond.code yX5_isTenant cX5_isTenant 2 (some .boolean), Cond.methodLink RL 94 yX6_quota, Cond.instanceMethod yX6_quota, Cond.selects RX6 yX6_quota yX6_quota, Cond.code yX6_quota cX6_quota 4 (some .int), Cond.methodLink RX6 86 yX6_isTenant, Cond.static yX6_isTenant, Cond.code yX6_isTenant cX6_isTenant 1 (some .boolean), Cond.methodLink RL 95 yL_limit, Cond.static yL_limit, Cond.codeWith yL_limit cL_limit 4 (some .int) [(0, 9, 12, 13)], Cond.methodLink RL 27 yX5_limit, Cond.instanceMethod yX5_limit, Cond.selects RX5 yX5_limit yX5_limit]
def wsL_law0_r8 : List Cond := [Cond.code yX5_limit cX5_limit 3 (some .int), Cond.fieldLink RX5 101 "ShardHarbour" "heatLimit" "I", Cond.methodLink RL 97 yX6_limit, Cond.instanceMethod yX6_limit, Cond.selects RX6 yX6_limit yX6_limit, Cond.code yX6_limit cX6_limit 3 (some .int), Cond.fieldLink RX6 89 "ShardHarbourModel" "limit" "I", Cond.methodLink RL 98 yL_write, Cond.static yL_write, Cond.codeWith yL_write cL_write 6 (some .int) [(0, 12, 15, 21), (0, 12, 19, 13), (0, 12, 23, 15)], Cond.methodLink RL 30 yX5_write, Cond.instanceMethod yX5_write, Cond.selects RX5 yX5_write yX5_write, Cond.code yX5_write cX5_write 5 (some .int), Cond.methodLink RX5 104 yX5_isKey, Cond.instanceMethod yX5_isKey, Cond.selects RX5 yX5_isKey yX5_isKey, Cond.code yX5_isKey cX5_isKey 2 (some .boolean), Cond.methodLink RX5 109 yX5_numberOfShardWith, Cond.instanceMethod yX5_numberOfShardWith, Cond.selects RX5 yX5_numberOfShardWith yX5_numberOfShardWith, Cond.code yX5_numberOfShardWith cX5_numberOfShardWith 3 (some .int), Cond.methodLink RX5 113 yX5_mayChange, Cond.instanceMethod yX5_mayChange]
def wsL_law0_r9 : List Cond := [Cond.selects RX5 yX5_mayChange yX5_mayChange, Cond.code yX5_mayChange cX5_mayChange 2 (some .boolean), Cond.fieldLink RX5 251 "ShardHarbour" "changeCount" "I", Cond.instanceMethod yX2_hasRoomFor, Cond.selects RX2 yX2_hasRoomFor yX2_hasRoomFor, Cond.code yX2_hasRoomFor cX2_hasRoomFor 2 (some .boolean), Cond.fieldLink RX2 13 "ShardHarbour$Machine" "held" "I", Cond.fieldLink RX2 16 "ShardHarbour$Machine" "room" "I", Cond.methodLink RX5 123 yX5_hasQuotaFor, Cond.instanceMethod yX5_hasQuotaFor, Cond.selects RX5 yX5_hasQuotaFor yX5_hasQuotaFor, Cond.code yX5_hasQuotaFor cX5_hasQuotaFor 5 (some .boolean), Cond.methodLink RX5 129 yX5_change, Cond.instanceMethod yX5_change, Cond.selects RX5 yX5_change yX5_change, Cond.code yX5_change cX5_change 7 none, Cond.classLink RX5 224 RX0, Cond.instantiable RX0 6, Cond.initialized RX0, Cond.fieldLink RX5 193 "ShardHarbour" "hour" "I", Cond.fieldLink RX5 219 "ShardHarbour" "lastChange" "LShardHarbour$Change;", Cond.instanceMethod yX0_init, Cond.code yX0_init cX0_init 3 none, Cond.methodLink RX0 1 objectInit]
def wsL_law0_r10 : List Cond := [Cond.fieldLink RX0 7 "ShardHarbour$Change" "hour" "I", Cond.fieldLink RX0 13 "ShardHarbour$Change" "earlier" "LShardHarbour$Change;", Cond.instanceMethod yX0_setBefore, Cond.selects RX0 yX0_setBefore yX0_setBefore, Cond.code yX0_setBefore cX0_setBefore 3 none, Cond.fieldLink RX0 17 "ShardHarbour$Change" "tenantBefore" "I", Cond.fieldLink RX0 20 "ShardHarbour$Change" "bytesBefore" "I", Cond.instanceMethod yX0_setBehind, Cond.selects RX0 yX0_setBehind yX0_setBehind, Cond.code yX0_setBehind cX0_setBehind 3 none, Cond.fieldLink RX0 23 "ShardHarbour$Change" "tenantBehind" "I", Cond.fieldLink RX0 26 "ShardHarbour$Change" "bytesBehind" "I", Cond.methodLink RX5 264 yX5_addToTenant, Cond.instanceMethod yX5_addToTenant, Cond.selects RX5 yX5_addToTenant yX5_addToTenant, Cond.code yX5_addToTenant cX5_addToTenant 3 none, Cond.instanceMethod yX3_hasCopied, Cond.selects RX3 yX3_hasCopied yX3_hasCopied, Cond.code yX3_hasCopied cX3_hasCopied 2 (some .boolean), Cond.methodLink RX3 27 yX3_isMoving, Cond.methodLink RX5 270 yX5_changeCopy, Cond.instanceMethod yX5_changeCopy, Cond.selects RX5 yX5_changeCopy yX5_changeCopy, Cond.code yX5_changeCopy cX5_changeCopy 3 none]
def wsL_law0_r11 : List Cond := [Cond.methodLink RL 101 yX6_write, Cond.instanceMethod yX6_write, Cond.selects RX6 yX6_write yX6_write, Cond.code yX6_write cX6_write 8 (some .int), Cond.fieldLink RX6 104 "ShardHarbourModel" "logged" "I", Cond.methodLink RX6 92 yX6_isKey, Cond.static yX6_isKey, Cond.code yX6_isKey cX6_isKey 1 (some .boolean), Cond.methodLink RX6 95 yX6_shardAt, Cond.instanceMethod yX6_shardAt, Cond.selects RX6 yX6_shardAt yX6_shardAt, Cond.code yX6_shardAt cX6_shardAt 3 (some .int), Cond.methodLink RX6 98 yX6_held, Cond.instanceMethod yX6_held, Cond.selects RX6 yX6_held yX6_held, Cond.code yX6_held cX6_held 4 (some .int), Cond.methodLink RX6 65 yX6_sizeOf, Cond.instanceMethod yX6_sizeOf, Cond.selects RX6 yX6_sizeOf yX6_sizeOf, Cond.code yX6_sizeOf cX6_sizeOf 2 (some .int), Cond.methodLink RX6 61 yX6_sum, Cond.instanceMethod yX6_sum, Cond.selects RX6 yX6_sum yX6_sum, Cond.code yX6_sum cX6_sum 5 (some .int)]
def wsL_law0_r12 : List Cond := [Cond.methodLink RX6 69 yX6_copied, Cond.instanceMethod yX6_copied, Cond.selects RX6 yX6_copied yX6_copied, Cond.code yX6_copied cX6_copied 2 (some .int), Cond.methodLink RX6 101 yX6_bytesOf, Cond.instanceMethod yX6_bytesOf, Cond.selects RX6 yX6_bytesOf yX6_bytesOf, Cond.code yX6_bytesOf cX6_bytesOf 4 (some .int), Cond.methodLink RX6 107 yX6_isCopied, Cond.instanceMethod yX6_isCopied, Cond.selects RX6 yX6_isCopied yX6_isCopied, Cond.code yX6_isCopied cX6_isCopied 3 (some .boolean), Cond.methodLink RL 102 yL_take, Cond.static yL_take, Cond.codeWith yL_take cL_take 4 (some .int) [(0, 9, 12, 21), (0, 9, 15, 15)], Cond.methodLink RL 34 yX5_take, Cond.instanceMethod yX5_take, Cond.selects RX5 yX5_take yX5_take, Cond.code yX5_take cX5_take 4 (some .int), Cond.methodLink RL 104 yX6_take, Cond.instanceMethod yX6_take, Cond.selects RX6 yX6_take yX6_take, Cond.code yX6_take cX6_take 6 (some .int), Cond.methodLink RL 105 yL_read]
def wsL_law0_r13 : List Cond := [Cond.static yL_read, Cond.codeWith yL_read cL_read 4 (some .int) [(0, 9, 12, 21), (0, 9, 15, 15)], Cond.methodLink RL 37 yX5_read, Cond.instanceMethod yX5_read, Cond.selects RX5 yX5_read yX5_read, Cond.code yX5_read cX5_read 3 (some .int), Cond.methodLink RL 107 yX6_read, Cond.instanceMethod yX6_read, Cond.selects RX6 yX6_read yX6_read, Cond.code yX6_read cX6_read 4 (some .int), Cond.methodLink RL 108 yL_split, Cond.static yL_split, Cond.codeWith yL_split cL_split 4 (some .int) [(0, 9, 12, 21), (0, 9, 15, 15)], Cond.methodLink RL 40 yX5_split, Cond.instanceMethod yX5_split, Cond.selects RX5 yX5_split yX5_split, Cond.code yX5_split cX5_split 6 (some .int), Cond.methodLink RX5 156 yX5_cutInTwo, Cond.instanceMethod yX5_cutInTwo, Cond.selects RX5 yX5_cutInTwo yX5_cutInTwo, Cond.code yX5_cutInTwo cX5_cutInTwo 4 none, Cond.methodLink RX5 274 yX5_bytesBetween, Cond.instanceMethod yX5_bytesBetween, Cond.selects RX5 yX5_bytesBetween yX5_bytesBetween]
def wsL_law0_r14 : List Cond := [Cond.code yX5_bytesBetween cX5_bytesBetween 5 (some .int), Cond.methodLink RL 110 yX6_split, Cond.instanceMethod yX6_split, Cond.selects RX6 yX6_split yX6_split, Cond.code yX6_split cX6_split 5 (some .int), Cond.methodLink RX6 111 yX6_lay, Cond.instanceMethod yX6_lay, Cond.selects RX6 yX6_lay yX6_lay, Cond.code yX6_lay cX6_lay 3 none, Cond.methodLink RL 111 yL_join, Cond.static yL_join, Cond.codeWith yL_join cL_join 4 (some .int) [(0, 9, 12, 21), (0, 9, 15, 15)], Cond.methodLink RL 43 yX5_join, Cond.instanceMethod yX5_join, Cond.selects RX5 yX5_join yX5_join, Cond.code yX5_join cX5_join 5 (some .int), Cond.methodLink RX5 160 yX5_isShard, Cond.instanceMethod yX5_isShard, Cond.selects RX5 yX5_isShard yX5_isShard, Cond.code yX5_isShard cX5_isShard 2 (some .boolean), Cond.methodLink RX5 165 yX5_canBeJoined, Cond.instanceMethod yX5_canBeJoined, Cond.selects RX5 yX5_canBeJoined yX5_canBeJoined, Cond.code yX5_canBeJoined cX5_canBeJoined 3 (some .boolean)]
def wsL_law0_r15 : List Cond := [Cond.methodLink RL 113 yX6_join, Cond.instanceMethod yX6_join, Cond.selects RX6 yX6_join yX6_join, Cond.code yX6_join cX6_join 5 (some .int), Cond.methodLink RX6 115 yX6_isShard, Cond.instanceMethod yX6_isShard, Cond.selects RX6 yX6_isShard yX6_isShard, Cond.code yX6_isShard cX6_isShard 2 (some .boolean), Cond.methodLink RL 114 yL_move, Cond.static yL_move, Cond.codeWith yL_move cL_move 5 (some .int) [(0, 10, 13, 21), (0, 10, 17, 15)], Cond.methodLink RL 46 yX5_move, Cond.instanceMethod yX5_move, Cond.selects RX5 yX5_move yX5_move, Cond.code yX5_move cX5_move 5 (some .int), Cond.methodLink RL 116 yX6_move, Cond.instanceMethod yX6_move, Cond.selects RX6 yX6_move yX6_move, Cond.code yX6_move cX6_move 4 (some .int), Cond.methodLink RX6 118 yX6_begins, Cond.instanceMethod yX6_begins, Cond.selects RX6 yX6_begins yX6_begins, Cond.code yX6_begins cX6_begins 3 none, Cond.methodLink RL 117 yL_callOff]
def wsL_law0_r16 : List Cond := [Cond.static yL_callOff, Cond.codeWith yL_callOff cL_callOff 4 (some .int) [(0, 9, 12, 21), (0, 9, 15, 15)], Cond.methodLink RL 49 yX5_callOff, Cond.instanceMethod yX5_callOff, Cond.selects RX5 yX5_callOff yX5_callOff, Cond.code yX5_callOff cX5_callOff 3 (some .int), Cond.methodLink RL 119 yX6_callOff, Cond.instanceMethod yX6_callOff, Cond.selects RX6 yX6_callOff yX6_callOff, Cond.code yX6_callOff cX6_callOff 4 (some .int), Cond.methodLink RL 120 yL_pass, Cond.static yL_pass, Cond.codeWith yL_pass cL_pass 4 (some .int) [(0, 9, 12, 13), (0, 9, 15, 15)], Cond.methodLink RL 52 yX5_pass, Cond.instanceMethod yX5_pass, Cond.selects RX5 yX5_pass yX5_pass, Cond.code yX5_pass cX5_pass 3 (some .int), Cond.methodLink RX5 198 yX5_passOneHour, Cond.instanceMethod yX5_passOneHour, Cond.selects RX5 yX5_passOneHour yX5_passOneHour, Cond.code yX5_passOneHour cX5_passOneHour 2 none, Cond.methodLink RX5 293 yX5_copyForOneHour, Cond.instanceMethod yX5_copyForOneHour, Cond.selects RX5 yX5_copyForOneHour yX5_copyForOneHour]
def wsL_law0_r17 : List Cond := [Cond.code yX5_copyForOneHour cX5_copyForOneHour 4 none, Cond.instanceMethod yX3_takeCopy, Cond.selects RX3 yX3_takeCopy yX3_takeCopy, Cond.code yX3_takeCopy cX3_takeCopy 2 none, Cond.methodLink RX5 290 yX5_cutOver, Cond.instanceMethod yX5_cutOver, Cond.selects RX5 yX5_cutOver yX5_cutOver, Cond.code yX5_cutOver cX5_cutOver 2 none, Cond.fieldLink RX5 245 "ShardHarbour" "movesDone" "I", Cond.classLink RX5 237 RX1, Cond.instantiable RX1 4, Cond.initialized RX1, Cond.fieldLink RX5 232 "ShardHarbour" "lastCutOver" "LShardHarbour$CutOver;", Cond.instanceMethod yX1_init, Cond.code yX1_init cX1_init 5 none, Cond.methodLink RX1 1 objectInit, Cond.fieldLink RX1 7 "ShardHarbour$CutOver" "first" "I", Cond.fieldLink RX1 13 "ShardHarbour$CutOver" "last" "I", Cond.fieldLink RX1 16 "ShardHarbour$CutOver" "machine" "I", Cond.fieldLink RX1 19 "ShardHarbour$CutOver" "earlier" "LShardHarbour$CutOver;", Cond.methodLink RX5 296 yX5_drawMoveByHeat, Cond.instanceMethod yX5_drawMoveByHeat, Cond.selects RX5 yX5_drawMoveByHeat yX5_drawMoveByHeat, Cond.code yX5_drawMoveByHeat cX5_drawMoveByHeat 4 none]
def wsL_law0_r18 : List Cond := [Cond.methodLink RX5 299 yX5_hottestMachineUp, Cond.instanceMethod yX5_hottestMachineUp, Cond.selects RX5 yX5_hottestMachineUp yX5_hottestMachineUp, Cond.code yX5_hottestMachineUp cX5_hottestMachineUp 4 (some (.object "ShardHarbour$Machine")), Cond.methodLink RX5 209 yX5_heatOf, Cond.instanceMethod yX5_heatOf, Cond.selects RX5 yX5_heatOf yX5_heatOf, Cond.code yX5_heatOf cX5_heatOf 4 (some .int), Cond.methodLink RX5 303 yX5_coldestMachineUp, Cond.instanceMethod yX5_coldestMachineUp, Cond.selects RX5 yX5_coldestMachineUp yX5_coldestMachineUp, Cond.code yX5_coldestMachineUp cX5_coldestMachineUp 4 (some (.object "ShardHarbour$Machine")), Cond.methodLink RX5 306 yX5_movesAwayFrom, Cond.instanceMethod yX5_movesAwayFrom, Cond.selects RX5 yX5_movesAwayFrom yX5_movesAwayFrom, Cond.code yX5_movesAwayFrom cX5_movesAwayFrom 3 (some .boolean), Cond.methodLink RX5 310 yX5_hottestShardOn, Cond.instanceMethod yX5_hottestShardOn, Cond.selects RX5 yX5_hottestShardOn yX5_hottestShardOn, Cond.code yX5_hottestShardOn cX5_hottestShardOn 4 (some .int), Cond.methodLink RL 122 yX6_pass, Cond.instanceMethod yX6_pass, Cond.selects RX6 yX6_pass yX6_pass, Cond.code yX6_pass cX6_pass 4 (some .int)]
def wsL_law0_r19 : List Cond := [Cond.fieldLink RX6 127 "ShardHarbourModel" "hour" "I", Cond.methodLink RX6 130 yX6_copies, Cond.instanceMethod yX6_copies, Cond.selects RX6 yX6_copies yX6_copies, Cond.code yX6_copies cX6_copies 4 none, Cond.fieldLink RX6 121 "ShardHarbourModel" "done" "I", Cond.methodLink RX6 133 yX6_draw, Cond.instanceMethod yX6_draw, Cond.selects RX6 yX6_draw yX6_draw, Cond.code yX6_draw cX6_draw 6 none, Cond.methodLink RX6 124 yX6_heatOf, Cond.instanceMethod yX6_heatOf, Cond.selects RX6 yX6_heatOf yX6_heatOf, Cond.code yX6_heatOf cX6_heatOf 4 (some .int), Cond.methodLink RL 123 yX5_hour, Cond.instanceMethod yX5_hour, Cond.selects RX5 yX5_hour yX5_hour, Cond.code yX5_hour cX5_hour 1 (some .int), Cond.methodLink RL 126 yX6_hour, Cond.instanceMethod yX6_hour, Cond.selects RX6 yX6_hour yX6_hour, Cond.code yX6_hour cX6_hour 1 (some .int), Cond.methodLink RL 127 yX5_shards, Cond.instanceMethod yX5_shards]
def wsL_law0_r20 : List Cond := [Cond.selects RX5 yX5_shards yX5_shards, Cond.code yX5_shards cX5_shards 1 (some .int), Cond.methodLink RL 130 yX6_shards, Cond.instanceMethod yX6_shards, Cond.selects RX6 yX6_shards yX6_shards, Cond.code yX6_shards cX6_shards 1 (some .int), Cond.methodLink RL 131 yL_shardOf, Cond.static yL_shardOf, Cond.codeWith yL_shardOf cL_shardOf 4 (some .int) [(0, 9, 12, 21)], Cond.methodLink RL 55 yX5_shardOf, Cond.instanceMethod yX5_shardOf, Cond.selects RX5 yX5_shardOf yX5_shardOf, Cond.code yX5_shardOf cX5_shardOf 2 (some .int), Cond.methodLink RL 133 yX6_shardOf, Cond.instanceMethod yX6_shardOf, Cond.selects RX6 yX6_shardOf yX6_shardOf, Cond.code yX6_shardOf cX6_shardOf 2 (some .int), Cond.methodLink RL 134 yL_shard, Cond.static yL_shard, Cond.codeWith yL_shard cL_shard 5 (some .int) [(0, 10, 13, 21), (0, 10, 17, 13)], Cond.methodLink RL 58 yX5_shard, Cond.instanceMethod yX5_shard, Cond.selects RX5 yX5_shard yX5_shard, Cond.code yX5_shard cX5_shard 4 (some .int)]
def wsL_law0_r21 : List Cond := [Cond.methodLink RL 136 yX6_shard, Cond.instanceMethod yX6_shard, Cond.selects RX6 yX6_shard yX6_shard, Cond.code yX6_shard cX6_shard 3 (some .int), Cond.methodLink RL 137 yL_machineOf, Cond.static yL_machineOf, Cond.codeWith yL_machineOf cL_machineOf 5 (some .int) [(0, 10, 13, 21), (0, 10, 17, 13)], Cond.methodLink RL 61 yX5_machineOf, Cond.instanceMethod yX5_machineOf, Cond.selects RX5 yX5_machineOf yX5_machineOf, Cond.code yX5_machineOf cX5_machineOf 4 (some .int), Cond.methodLink RX5 213 yX5_shardCountOn, Cond.instanceMethod yX5_shardCountOn, Cond.selects RX5 yX5_shardCountOn yX5_shardCountOn, Cond.code yX5_shardCountOn cX5_shardCountOn 4 (some .int), Cond.methodLink RL 139 yX6_machineOf, Cond.instanceMethod yX6_machineOf, Cond.selects RX6 yX6_machineOf yX6_machineOf, Cond.code yX6_machineOf cX6_machineOf 5 (some .int), Cond.methodLink RL 140 yL_tenant, Cond.static yL_tenant, Cond.codeWith yL_tenant cL_tenant 5 (some .int) [(0, 10, 13, 21), (0, 10, 17, 13)], Cond.methodLink RL 64 yX5_tenant, Cond.instanceMethod yX5_tenant]
def wsL_law0_r22 : List Cond := [Cond.selects RX5 yX5_tenant yX5_tenant, Cond.code yX5_tenant cX5_tenant 4 (some .int), Cond.methodLink RL 142 yX6_tenant, Cond.instanceMethod yX6_tenant, Cond.selects RX6 yX6_tenant yX6_tenant, Cond.code yX6_tenant cX6_tenant 3 (some .int), Cond.methodLink RL 143 yL_billAnew, Cond.static yL_billAnew, Cond.codeWith yL_billAnew cL_billAnew 4 (some .int) [(0, 9, 12, 21)], Cond.methodLink RL 67 yX5_billAnew, Cond.instanceMethod yX5_billAnew, Cond.selects RX5 yX5_billAnew yX5_billAnew, Cond.code yX5_billAnew cX5_billAnew 4 (some .int), Cond.instanceMethod yX0_moreBytesOf, Cond.selects RX0 yX0_moreBytesOf yX0_moreBytesOf, Cond.code yX0_moreBytesOf cX0_moreBytesOf 4 (some .int), Cond.methodLink RL 145 yX6_billAnew, Cond.instanceMethod yX6_billAnew, Cond.selects RX6 yX6_billAnew yX6_billAnew, Cond.code yX6_billAnew cX6_billAnew 2 (some .int), Cond.methodLink RL 146 yL_whereAnew, Cond.static yL_whereAnew, Cond.codeWith yL_whereAnew cL_whereAnew 4 (some .int) [(0, 9, 12, 21)], Cond.methodLink RL 70 yX5_whereAnew]
def wsL_law0_r23 : List Cond := [Cond.instanceMethod yX5_whereAnew, Cond.selects RX5 yX5_whereAnew yX5_whereAnew, Cond.code yX5_whereAnew cX5_whereAnew 3 (some .int), Cond.methodLink RL 148 yX6_whereAnew, Cond.instanceMethod yX6_whereAnew, Cond.selects RX6 yX6_whereAnew yX6_whereAnew, Cond.code yX6_whereAnew cX6_whereAnew 2 (some .int), Cond.methodLink RL 149 yX5_moves, Cond.instanceMethod yX5_moves, Cond.selects RX5 yX5_moves yX5_moves, Cond.code yX5_moves cX5_moves 2 (some .int), Cond.methodLink RL 153 yX6_moves, Cond.instanceMethod yX6_moves, Cond.selects RX6 yX6_moves yX6_moves, Cond.code yX6_moves cX6_moves 2 (some .int)]
def wsL_law0 : List Cond := (wsL_law0_r1 ++ (wsL_law0_r2 ++ (wsL_law0_r3 ++ (wsL_law0_r4 ++ (wsL_law0_r5 ++ (wsL_law0_r6 ++ (wsL_law0_r7 ++ (wsL_law0_r8 ++ (wsL_law0_r9 ++ (wsL_law0_r10 ++ (wsL_law0_r11 ++ (wsL_law0_r12 ++ (wsL_law0_r13 ++ (wsL_law0_r14 ++ (wsL_law0_r15 ++ (wsL_law0_r16 ++ (wsL_law0_r17 ++ (wsL_law0_r18 ++ (wsL_law0_r19 ++ (wsL_law0_r20 ++ (wsL_law0_r21 ++ (wsL_law0_r22 ++ wsL_law0_r23)))))))))))))))))))))) ++ wsX50 ++ wsX60 ++ wsX20 ++ wsX40 ++ wsX30 ++ wsX00 ++ wsX10 ++ ([] : List Cond)
def wsL_law : List Cond := wsL_law0 ++ (vx_atS RX5 53 "java/lang/IllegalArgumentException" ["java/lang/RuntimeException", "java/lang/Exception"]).filter goodWord ++ (vx_atS RX5 63 "java/lang/IllegalStateException" ["java/lang/RuntimeException", "java/lang/Exception"]).filter goodWord ++ (vx_atS RX5 85 "java/lang/IndexOutOfBoundsException" ["java/lang/RuntimeException", "java/lang/Exception"]).filter goodWord
set_option maxRecDepth 20000 in
theorem wsL_law_in0 : ∀ w ∈ wsL_law0, w ∈ lw_tbl := fun w h => (goodIn_p wsL_law0 [69, 72, 77, 102, 122, 655, 225, 313, 726, 729, 733, 722, 321, 325, 345, 349, 353, 357, 737, 741, 745, 364, 368, 749, 752, 377, 756, 385, 389, 394, 398, 402, 406, 411, 416, 442, 446, 450, 454, 459, 760, 763, 767, 771, 775, 779, 783, 787, 791, 466, 795, 475, 799, 483, 489, 493, 803, 807, 500, 504, 509, 811, 815, 517, 819, 823, 526, 827, 534, 540, 544, 548, 552, 557, 579, 583, 587, 591, 595, 599, 831, 835, 839, 843, 208, 847, 212, 851, 606, 855, 613, 859, 621, 625, 863, 632, 867, 639, 643, 871, 650, 875, 216, 879] (by decide +kernel) (by decide +kernel) w h).1
theorem wsL_law_x0 : ∀ w ∈ (vx_atS RX5 53 "java/lang/IllegalArgumentException" ["java/lang/RuntimeException", "java/lang/Exception"]).filter goodWord, w ∈ lw_tbl := by decide +kernel
theorem wsL_law_x1 : ∀ w ∈ (vx_atS RX5 63 "java/lang/IllegalStateException" ["java/lang/RuntimeException", "java/lang/Exception"]).filter goodWord, w ∈ lw_tbl := by decide +kernel
theorem wsL_law_x2 : ∀ w ∈ (vx_atS RX5 85 "java/lang/IndexOutOfBoundsException" ["java/lang/RuntimeException", "java/lang/Exception"]).filter goodWord, w ∈ lw_tbl := by decide +kernel
theorem wsL_law_in : ∀ w ∈ wsL_law, w ∈ lw_tbl := fun w h => (List.mem_append.mp h).elim (fun h => (List.mem_append.mp h).elim (fun h => (List.mem_append.mp h).elim (fun h => wsL_law_in0 w h) (fun h => wsL_law_x0 w h)) (fun h => wsL_law_x1 w h)) (fun h => wsL_law_x2 w h)
theorem inlX0 : ∀ w ∈ wsX00, w ∈ wsL_law := fun _ h => List.mem_append_left _ (List.mem_append_left _ (List.mem_append_left _ (List.mem_append_left _ (List.mem_append_left _ (List.mem_append_right _ h)))))
theorem inX0 : ∀ w ∈ wsX00, w ∈ lw_tbl := fun w h => wsL_law_in w (inlX0 w h)
theorem inlX1 : ∀ w ∈ wsX10, w ∈ wsL_law := fun _ h => List.mem_append_left _ (List.mem_append_left _ (List.mem_append_left _ (List.mem_append_left _ (List.mem_append_right _ h))))
theorem inX1 : ∀ w ∈ wsX10, w ∈ lw_tbl := fun w h => wsL_law_in w (inlX1 w h)
theorem inlX2 : ∀ w ∈ wsX20, w ∈ wsL_law := fun _ h => List.mem_append_left _ (List.mem_append_left _ (List.mem_append_left _ (List.mem_append_left _ (List.mem_append_left _ (List.mem_append_left _ (List.mem_append_left _ (List.mem_append_left _ (List.mem_append_right _ h))))))))
theorem inX2 : ∀ w ∈ wsX20, w ∈ lw_tbl := fun w h => wsL_law_in w (inlX2 w h)
theorem inlX3 : ∀ w ∈ wsX30, w ∈ wsL_law := fun _ h => List.mem_append_left _ (List.mem_append_left _ (List.mem_append_left _ (List.mem_append_left _ (List.mem_append_left _ (List.mem_append_left _ (List.mem_append_right _ h))))))
theorem inX3 : ∀ w ∈ wsX30, w ∈ lw_tbl := fun w h => wsL_law_in w (inlX3 w h)
theorem inlX4 : ∀ w ∈ wsX40, w ∈ wsL_law := fun _ h => List.mem_append_left _ (List.mem_append_left _ (List.mem_append_left _ (List.mem_append_left _ (List.mem_append_left _ (List.mem_append_left _ (List.mem_append_left _ (List.mem_append_right _ h)))))))
theorem inX4 : ∀ w ∈ wsX40, w ∈ lw_tbl := fun w h => wsL_law_in w (inlX4 w h)
theorem inlX5 : ∀ w ∈ wsX50, w ∈ wsL_law := fun _ h => List.mem_append_left _ (List.mem_append_left _ (List.mem_append_left _ (List.mem_append_left _ (List.mem_append_left _ (List.mem_append_left _ (List.mem_append_left _ (List.mem_append_left _ (List.mem_append_left _ (List.mem_append_left _ (List.mem_append_right _ h))))))))))
theorem inX5 : ∀ w ∈ wsX50, w ∈ lw_tbl := fun w h => wsL_law_in w (inlX5 w h)
theorem inlX6 : ∀ w ∈ wsX60, w ∈ wsL_law := fun _ h => List.mem_append_left _ (List.mem_append_left _ (List.mem_append_left _ (List.mem_append_left _ (List.mem_append_left _ (List.mem_append_left _ (List.mem_append_left _ (List.mem_append_left _ (List.mem_append_left _ (List.mem_append_right _ h)))))))))
theorem inX6 : ∀ w ∈ wsX60, w ∈ lw_tbl := fun w h => wsL_law_in w (inlX6 w h)
theorem inJ0 : ∀ w ∈ wsJ00, w ∈ lw_tbl := by decide +kernel
theorem dX0_init_0 : decode cX0_init 0 = .ok (.aload_n 0, 1) := by decide +kernel
theorem dX0_init_1 : decode cX0_init 1 = .ok (.invokespecial 1, 3) := by decide +kernel
theorem dX0_init_4 : decode cX0_init 4 = .ok (.aload_n 0, 1) := by decide +kernel
theorem dX0_init_5 : decode cX0_init 5 = .ok (.iload_n 1, 1) := by decide +kernel
theorem dX0_init_6 : decode cX0_init 6 = .ok (.putfield 7, 3) := by decide +kernel
theorem dX0_init_9 : decode cX0_init 9 = .ok (.aload_n 0, 1) := by decide +kernel
theorem dX0_init_10 : decode cX0_init 10 = .ok (.aload_n 2, 1) := by decide +kernel
theorem dX0_init_11 : decode cX0_init 11 = .ok (.putfield 13, 3) := by decide +kernel
theorem dX0_init_14 : decode cX0_init 14 = .ok (.return_, 1) := by decide +kernel
theorem dX0_setBefore_0 : decode cX0_setBefore 0 = .ok (.aload_n 0, 1) := by decide +kernel
theorem dX0_setBefore_1 : decode cX0_setBefore 1 = .ok (.iload_n 1, 1) := by decide +kernel
theorem dX0_setBefore_2 : decode cX0_setBefore 2 = .ok (.putfield 17, 3) := by decide +kernel
theorem dX0_setBefore_5 : decode cX0_setBefore 5 = .ok (.aload_n 0, 1) := by decide +kernel
theorem dX0_setBefore_6 : decode cX0_setBefore 6 = .ok (.iload_n 2, 1) := by decide +kernel
theorem dX0_setBefore_7 : decode cX0_setBefore 7 = .ok (.putfield 20, 3) := by decide +kernel
theorem dX0_setBefore_10 : decode cX0_setBefore 10 = .ok (.return_, 1) := by decide +kernel
theorem dX0_setBehind_0 : decode cX0_setBehind 0 = .ok (.aload_n 0, 1) := by decide +kernel
theorem dX0_setBehind_1 : decode cX0_setBehind 1 = .ok (.iload_n 1, 1) := by decide +kernel
theorem dX0_setBehind_2 : decode cX0_setBehind 2 = .ok (.putfield 23, 3) := by decide +kernel
theorem dX0_setBehind_5 : decode cX0_setBehind 5 = .ok (.aload_n 0, 1) := by decide +kernel
theorem dX0_setBehind_6 : decode cX0_setBehind 6 = .ok (.iload_n 2, 1) := by decide +kernel
theorem dX0_setBehind_7 : decode cX0_setBehind 7 = .ok (.putfield 26, 3) := by decide +kernel
theorem dX0_setBehind_10 : decode cX0_setBehind 10 = .ok (.return_, 1) := by decide +kernel
theorem dX0_moreBytesOf_0 : decode cX0_moreBytesOf 0 = .ok (.aload_n 0, 1) := by decide +kernel
theorem dX0_moreBytesOf_1 : decode cX0_moreBytesOf 1 = .ok (.getfield 23, 3) := by decide +kernel
theorem dX0_moreBytesOf_4 : decode cX0_moreBytesOf 4 = .ok (.iload_n 1, 1) := by decide +kernel
theorem dX0_moreBytesOf_5 : decode cX0_moreBytesOf 5 = .ok (.if_icmp .ne 10, 3) := by decide +kernel
theorem dX0_moreBytesOf_8 : decode cX0_moreBytesOf 8 = .ok (.aload_n 0, 1) := by decide +kernel
theorem dX0_moreBytesOf_9 : decode cX0_moreBytesOf 9 = .ok (.getfield 26, 3) := by decide +kernel
theorem dX0_moreBytesOf_12 : decode cX0_moreBytesOf 12 = .ok (.goto 4, 3) := by decide +kernel
theorem dX0_moreBytesOf_15 : decode cX0_moreBytesOf 15 = .ok (.iconst 0, 1) := by decide +kernel
theorem dX0_moreBytesOf_16 : decode cX0_moreBytesOf 16 = .ok (.istore_n 2, 1) := by decide +kernel
theorem dX0_moreBytesOf_17 : decode cX0_moreBytesOf 17 = .ok (.aload_n 0, 1) := by decide +kernel
theorem dX0_moreBytesOf_18 : decode cX0_moreBytesOf 18 = .ok (.getfield 17, 3) := by decide +kernel
theorem dX0_moreBytesOf_21 : decode cX0_moreBytesOf 21 = .ok (.iload_n 1, 1) := by decide +kernel
theorem dX0_moreBytesOf_22 : decode cX0_moreBytesOf 22 = .ok (.if_icmp .ne 10, 3) := by decide +kernel
theorem dX0_moreBytesOf_25 : decode cX0_moreBytesOf 25 = .ok (.aload_n 0, 1) := by decide +kernel
theorem dX0_moreBytesOf_26 : decode cX0_moreBytesOf 26 = .ok (.getfield 20, 3) := by decide +kernel
theorem dX0_moreBytesOf_29 : decode cX0_moreBytesOf 29 = .ok (.goto 4, 3) := by decide +kernel
theorem dX0_moreBytesOf_32 : decode cX0_moreBytesOf 32 = .ok (.iconst 0, 1) := by decide +kernel
theorem dX0_moreBytesOf_33 : decode cX0_moreBytesOf 33 = .ok (.istore_n 3, 1) := by decide +kernel
theorem dX0_moreBytesOf_34 : decode cX0_moreBytesOf 34 = .ok (.iload_n 2, 1) := by decide +kernel
theorem dX0_moreBytesOf_35 : decode cX0_moreBytesOf 35 = .ok (.iload_n 3, 1) := by decide +kernel
theorem dX0_moreBytesOf_36 : decode cX0_moreBytesOf 36 = .ok (.isub, 1) := by decide +kernel
theorem dX0_moreBytesOf_37 : decode cX0_moreBytesOf 37 = .ok (.ireturn, 1) := by decide +kernel
theorem dX1_init_0 : decode cX1_init 0 = .ok (.aload_n 0, 1) := by decide +kernel
theorem dX1_init_1 : decode cX1_init 1 = .ok (.invokespecial 1, 3) := by decide +kernel
theorem dX1_init_4 : decode cX1_init 4 = .ok (.aload_n 0, 1) := by decide +kernel
theorem dX1_init_5 : decode cX1_init 5 = .ok (.iload_n 1, 1) := by decide +kernel
theorem dX1_init_6 : decode cX1_init 6 = .ok (.putfield 7, 3) := by decide +kernel
theorem dX1_init_9 : decode cX1_init 9 = .ok (.aload_n 0, 1) := by decide +kernel
theorem dX1_init_10 : decode cX1_init 10 = .ok (.iload_n 2, 1) := by decide +kernel
theorem dX1_init_11 : decode cX1_init 11 = .ok (.putfield 13, 3) := by decide +kernel
theorem dX1_init_14 : decode cX1_init 14 = .ok (.aload_n 0, 1) := by decide +kernel
theorem dX1_init_15 : decode cX1_init 15 = .ok (.iload_n 3, 1) := by decide +kernel
theorem dX1_init_16 : decode cX1_init 16 = .ok (.putfield 16, 3) := by decide +kernel
theorem dX1_init_19 : decode cX1_init 19 = .ok (.aload_n 0, 1) := by decide +kernel
theorem dX1_init_20 : decode cX1_init 20 = .ok (.aload 4, 2) := by decide +kernel
theorem dX1_init_22 : decode cX1_init 22 = .ok (.putfield 19, 3) := by decide +kernel
theorem dX1_init_25 : decode cX1_init 25 = .ok (.return_, 1) := by decide +kernel
theorem dX2_init_0 : decode cX2_init 0 = .ok (.aload_n 0, 1) := by decide +kernel
theorem dX2_init_1 : decode cX2_init 1 = .ok (.invokespecial 1, 3) := by decide +kernel
theorem dX2_init_4 : decode cX2_init 4 = .ok (.aload_n 0, 1) := by decide +kernel
theorem dX2_init_5 : decode cX2_init 5 = .ok (.iload_n 1, 1) := by decide +kernel
theorem dX2_init_6 : decode cX2_init 6 = .ok (.putfield 7, 3) := by decide +kernel
theorem dX2_init_9 : decode cX2_init 9 = .ok (.return_, 1) := by decide +kernel
theorem dX2_hasRoomFor_0 : decode cX2_hasRoomFor 0 = .ok (.aload_n 0, 1) := by decide +kernel
theorem dX2_hasRoomFor_1 : decode cX2_hasRoomFor 1 = .ok (.getfield 13, 3) := by decide +kernel
theorem dX2_hasRoomFor_4 : decode cX2_hasRoomFor 4 = .ok (.iload_n 1, 1) := by decide +kernel
theorem dX2_hasRoomFor_5 : decode cX2_hasRoomFor 5 = .ok (.iadd, 1) := by decide +kernel
theorem dX2_hasRoomFor_6 : decode cX2_hasRoomFor 6 = .ok (.aload_n 0, 1) := by decide +kernel
theorem dX2_hasRoomFor_7 : decode cX2_hasRoomFor 7 = .ok (.getfield 16, 3) := by decide +kernel
theorem dX2_hasRoomFor_10 : decode cX2_hasRoomFor 10 = .ok (.if_icmp .gt 7, 3) := by decide +kernel
theorem dX2_hasRoomFor_13 : decode cX2_hasRoomFor 13 = .ok (.iconst 1, 1) := by decide +kernel
theorem dX2_hasRoomFor_14 : decode cX2_hasRoomFor 14 = .ok (.goto 4, 3) := by decide +kernel
theorem dX2_hasRoomFor_17 : decode cX2_hasRoomFor 17 = .ok (.iconst 0, 1) := by decide +kernel
theorem dX2_hasRoomFor_18 : decode cX2_hasRoomFor 18 = .ok (.ireturn, 1) := by decide +kernel
theorem dX3_init_0 : decode cX3_init 0 = .ok (.aload_n 0, 1) := by decide +kernel
theorem dX3_init_1 : decode cX3_init 1 = .ok (.invokespecial 3, 3) := by decide +kernel
theorem dX3_init_4 : decode cX3_init 4 = .ok (.aload_n 0, 1) := by decide +kernel
theorem dX3_init_5 : decode cX3_init 5 = .ok (.sipush 999, 3) := by decide +kernel
theorem dX3_init_8 : decode cX3_init 8 = .ok (.putfield 9, 3) := by decide +kernel
theorem dX3_init_11 : decode cX3_init 11 = .ok (.aload_n 0, 1) := by decide +kernel
theorem dX3_init_12 : decode cX3_init 12 = .ok (.aload_n 1, 1) := by decide +kernel
theorem dX3_init_13 : decode cX3_init 13 = .ok (.putfield 15, 3) := by decide +kernel
theorem dX3_init_16 : decode cX3_init 16 = .ok (.aload_n 0, 1) := by decide +kernel
theorem dX3_init_17 : decode cX3_init 17 = .ok (.aload_n 1, 1) := by decide +kernel
theorem dX3_init_18 : decode cX3_init 18 = .ok (.putfield 19, 3) := by decide +kernel
theorem dX3_init_21 : decode cX3_init 21 = .ok (.return_, 1) := by decide +kernel
theorem dX3_isMoving_0 : decode cX3_isMoving 0 = .ok (.aload_n 0, 1) := by decide +kernel
theorem dX3_isMoving_1 : decode cX3_isMoving 1 = .ok (.getfield 19, 3) := by decide +kernel
theorem dX3_isMoving_4 : decode cX3_isMoving 4 = .ok (.getfield 22, 3) := by decide +kernel
theorem dX3_isMoving_7 : decode cX3_isMoving 7 = .ok (.iconst (-1), 1) := by decide +kernel
theorem dX3_isMoving_8 : decode cX3_isMoving 8 = .ok (.if_icmp .eq 7, 3) := by decide +kernel
theorem dX3_isMoving_11 : decode cX3_isMoving 11 = .ok (.iconst 1, 1) := by decide +kernel
theorem dX3_isMoving_12 : decode cX3_isMoving 12 = .ok (.goto 4, 3) := by decide +kernel
theorem dX3_isMoving_15 : decode cX3_isMoving 15 = .ok (.iconst 0, 1) := by decide +kernel
theorem dX3_isMoving_16 : decode cX3_isMoving 16 = .ok (.ireturn, 1) := by decide +kernel
set_option maxRecDepth 20000 in
theorem ggX3_hasCopied_X3_isMoving : GoodIn wsX3_hasCopied wsX3_isMoving := goodIn_r _ [6, 7, 8, 9, 10, 11, 12, 13, 14, 15, 16, 17, 18, 19, 20] (by decide +kernel) (by decide +kernel)
set_option maxRecDepth 20000 in
theorem gX3_hasCopied_X3_isMoving : GoodIn wsX3_hasCopied (wsV RX3 27 RX3 yX3_isMoving wsX3_isMoving) := goodIn_app (goodIn_of _ (by decide +kernel)) ggX3_hasCopied_X3_isMoving
theorem dX3_hasCopied_0 : decode cX3_hasCopied 0 = .ok (.aload_n 0, 1) := by decide +kernel
theorem dX3_hasCopied_1 : decode cX3_hasCopied 1 = .ok (.invokevirtual 27, 3) := by decide +kernel
theorem dX3_hasCopied_4 : decode cX3_hasCopied 4 = .ok (.ifCond .eq 15, 3) := by decide +kernel
theorem dX3_hasCopied_7 : decode cX3_hasCopied 7 = .ok (.iload_n 1, 1) := by decide +kernel
theorem dX3_hasCopied_8 : decode cX3_hasCopied 8 = .ok (.aload_n 0, 1) := by decide +kernel
theorem dX3_hasCopied_9 : decode cX3_hasCopied 9 = .ok (.getfield 31, 3) := by decide +kernel
theorem dX3_hasCopied_12 : decode cX3_hasCopied 12 = .ok (.if_icmp .ge 7, 3) := by decide +kernel
theorem dX3_hasCopied_15 : decode cX3_hasCopied 15 = .ok (.iconst 1, 1) := by decide +kernel
theorem dX3_hasCopied_16 : decode cX3_hasCopied 16 = .ok (.goto 4, 3) := by decide +kernel
theorem dX3_hasCopied_19 : decode cX3_hasCopied 19 = .ok (.iconst 0, 1) := by decide +kernel
theorem dX3_hasCopied_20 : decode cX3_hasCopied 20 = .ok (.ireturn, 1) := by decide +kernel
theorem dX3_aimAt_0 : decode cX3_aimAt 0 = .ok (.aload_n 0, 1) := by decide +kernel
theorem dX3_aimAt_1 : decode cX3_aimAt 1 = .ok (.aload_n 1, 1) := by decide +kernel
theorem dX3_aimAt_2 : decode cX3_aimAt 2 = .ok (.putfield 19, 3) := by decide +kernel
theorem dX3_aimAt_5 : decode cX3_aimAt 5 = .ok (.aload_n 0, 1) := by decide +kernel
theorem dX3_aimAt_6 : decode cX3_aimAt 6 = .ok (.aload_n 0, 1) := by decide +kernel
theorem dX3_aimAt_7 : decode cX3_aimAt 7 = .ok (.getfield 34, 3) := by decide +kernel
theorem dX3_aimAt_10 : decode cX3_aimAt 10 = .ok (.putfield 31, 3) := by decide +kernel
theorem dX3_aimAt_13 : decode cX3_aimAt 13 = .ok (.aload_n 0, 1) := by decide +kernel
theorem dX3_aimAt_14 : decode cX3_aimAt 14 = .ok (.iconst 0, 1) := by decide +kernel
theorem dX3_aimAt_15 : decode cX3_aimAt 15 = .ok (.putfield 37, 3) := by decide +kernel
theorem dX3_aimAt_18 : decode cX3_aimAt 18 = .ok (.aload_n 0, 1) := by decide +kernel
theorem dX3_aimAt_19 : decode cX3_aimAt 19 = .ok (.iconst 0, 1) := by decide +kernel
theorem dX3_aimAt_20 : decode cX3_aimAt 20 = .ok (.putfield 40, 3) := by decide +kernel
theorem dX3_aimAt_23 : decode cX3_aimAt 23 = .ok (.return_, 1) := by decide +kernel
theorem dX3_takeCopy_0 : decode cX3_takeCopy 0 = .ok (.aload_n 0, 1) := by decide +kernel
theorem dX3_takeCopy_1 : decode cX3_takeCopy 1 = .ok (.dup, 1) := by decide +kernel
theorem dX3_takeCopy_2 : decode cX3_takeCopy 2 = .ok (.getfield 31, 3) := by decide +kernel
theorem dX3_takeCopy_5 : decode cX3_takeCopy 5 = .ok (.iconst 1, 1) := by decide +kernel
theorem dX3_takeCopy_6 : decode cX3_takeCopy 6 = .ok (.iadd, 1) := by decide +kernel
theorem dX3_takeCopy_7 : decode cX3_takeCopy 7 = .ok (.putfield 31, 3) := by decide +kernel
theorem dX3_takeCopy_10 : decode cX3_takeCopy 10 = .ok (.aload_n 0, 1) := by decide +kernel
theorem dX3_takeCopy_11 : decode cX3_takeCopy 11 = .ok (.dup, 1) := by decide +kernel
theorem dX3_takeCopy_12 : decode cX3_takeCopy 12 = .ok (.getfield 37, 3) := by decide +kernel
theorem dX3_takeCopy_15 : decode cX3_takeCopy 15 = .ok (.iload_n 1, 1) := by decide +kernel
theorem dX3_takeCopy_16 : decode cX3_takeCopy 16 = .ok (.isub, 1) := by decide +kernel
theorem dX3_takeCopy_17 : decode cX3_takeCopy 17 = .ok (.putfield 37, 3) := by decide +kernel
theorem dX3_takeCopy_20 : decode cX3_takeCopy 20 = .ok (.aload_n 0, 1) := by decide +kernel
theorem dX3_takeCopy_21 : decode cX3_takeCopy 21 = .ok (.dup, 1) := by decide +kernel
theorem dX3_takeCopy_22 : decode cX3_takeCopy 22 = .ok (.getfield 40, 3) := by decide +kernel
theorem dX3_takeCopy_25 : decode cX3_takeCopy 25 = .ok (.iload_n 1, 1) := by decide +kernel
theorem dX3_takeCopy_26 : decode cX3_takeCopy 26 = .ok (.iadd, 1) := by decide +kernel
theorem dX3_takeCopy_27 : decode cX3_takeCopy 27 = .ok (.putfield 40, 3) := by decide +kernel
theorem dX3_takeCopy_30 : decode cX3_takeCopy 30 = .ok (.aload_n 0, 1) := by decide +kernel
theorem dX3_takeCopy_31 : decode cX3_takeCopy 31 = .ok (.getfield 19, 3) := by decide +kernel
theorem dX3_takeCopy_34 : decode cX3_takeCopy 34 = .ok (.dup, 1) := by decide +kernel
theorem dX3_takeCopy_35 : decode cX3_takeCopy 35 = .ok (.getfield 43, 3) := by decide +kernel
theorem dX3_takeCopy_38 : decode cX3_takeCopy 38 = .ok (.iload_n 1, 1) := by decide +kernel
theorem dX3_takeCopy_39 : decode cX3_takeCopy 39 = .ok (.iadd, 1) := by decide +kernel
theorem dX3_takeCopy_40 : decode cX3_takeCopy 40 = .ok (.putfield 43, 3) := by decide +kernel
theorem dX3_takeCopy_43 : decode cX3_takeCopy 43 = .ok (.return_, 1) := by decide +kernel
theorem dX4_init_0 : decode cX4_init 0 = .ok (.aload_n 0, 1) := by decide +kernel
theorem dX4_init_1 : decode cX4_init 1 = .ok (.invokespecial 3, 3) := by decide +kernel
theorem dX4_init_4 : decode cX4_init 4 = .ok (.aload_n 0, 1) := by decide +kernel
theorem dX4_init_5 : decode cX4_init 5 = .ok (.sipush 1000, 3) := by decide +kernel
theorem dX4_init_8 : decode cX4_init 8 = .ok (.putfield 9, 3) := by decide +kernel
theorem dX4_init_11 : decode cX4_init 11 = .ok (.return_, 1) := by decide +kernel
set_option maxRecDepth 20000 in
theorem ggX5_init_X2_init : GoodIn wsX5_init wsX2_init := goodIn_r _ [22, 23, 2, 3, 24, 35, 36, 37, 38] (by decide +kernel) (by decide +kernel)
set_option maxRecDepth 20000 in
theorem gX5_init_X2_init_n11 : GoodIn wsX5_init (wsX2_init) := ggX5_init_X2_init
set_option maxRecDepth 20000 in
theorem ggX5_init_X4_init : GoodIn wsX5_init wsX4_init := goodIn_r _ [26, 27, 2, 3, 28, 54, 55, 56] (by decide +kernel) (by decide +kernel)
set_option maxRecDepth 20000 in
theorem gX5_init_X4_init_n31 : GoodIn wsX5_init (wsX4_init) := ggX5_init_X4_init
set_option maxRecDepth 20000 in
theorem ggX5_init_X3_init : GoodIn wsX5_init wsX3_init := goodIn_r _ [30, 31, 2, 3, 32, 33, 34, 57, 58, 59, 60, 61, 62, 63, 64, 65] (by decide +kernel) (by decide +kernel)
set_option maxRecDepth 20000 in
theorem gX5_init_X3_init_n42 : GoodIn wsX5_init (wsX3_init) := ggX5_init_X3_init
theorem dX5_init_0 : decode cX5_init 0 = .ok (.aload_n 0, 1) := by decide +kernel
theorem dX5_init_1 : decode cX5_init 1 = .ok (.invokespecial 1, 3) := by decide +kernel
theorem dX5_init_4 : decode cX5_init 4 = .ok (.aload_n 0, 1) := by decide +kernel
theorem dX5_init_5 : decode cX5_init 5 = .ok (.new 7, 3) := by decide +kernel
theorem dX5_init_8 : decode cX5_init 8 = .ok (.dup, 1) := by decide +kernel
theorem dX5_init_9 : decode cX5_init 9 = .ok (.iconst (-1), 1) := by decide +kernel
theorem dX5_init_10 : decode cX5_init 10 = .ok (.invokespecial 11, 3) := by decide +kernel
theorem dX5_init_13 : decode cX5_init 13 = .ok (.putfield 14, 3) := by decide +kernel
theorem dX5_init_16 : decode cX5_init 16 = .ok (.aload_n 0, 1) := by decide +kernel
theorem dX5_init_17 : decode cX5_init 17 = .ok (.sipush 1000, 3) := by decide +kernel
theorem dX5_init_20 : decode cX5_init 20 = .ok (.newarray .int, 2) := by decide +kernel
theorem dX5_init_22 : decode cX5_init 22 = .ok (.putfield 18, 3) := by decide +kernel
theorem dX5_init_25 : decode cX5_init 25 = .ok (.aload_n 0, 1) := by decide +kernel
theorem dX5_init_26 : decode cX5_init 26 = .ok (.sipush 1000, 3) := by decide +kernel
theorem dX5_init_29 : decode cX5_init 29 = .ok (.newarray .int, 2) := by decide +kernel
theorem dX5_init_31 : decode cX5_init 31 = .ok (.putfield 22, 3) := by decide +kernel
theorem dX5_init_34 : decode cX5_init 34 = .ok (.iconst 0, 1) := by decide +kernel
theorem dX5_init_35 : decode cX5_init 35 = .ok (.istore_n 1, 1) := by decide +kernel
theorem dX5_init_36 : decode cX5_init 36 = .ok (.iload_n 1, 1) := by decide +kernel
theorem dX5_init_37 : decode cX5_init 37 = .ok (.sipush 1000, 3) := by decide +kernel
theorem dX5_init_40 : decode cX5_init 40 = .ok (.if_icmp .ge 16, 3) := by decide +kernel
theorem dX5_init_43 : decode cX5_init 43 = .ok (.aload_n 0, 1) := by decide +kernel
theorem dX5_init_44 : decode cX5_init 44 = .ok (.getfield 22, 3) := by decide +kernel
theorem dX5_init_47 : decode cX5_init 47 = .ok (.iload_n 1, 1) := by decide +kernel
theorem dX5_init_48 : decode cX5_init 48 = .ok (.iconst (-1), 1) := by decide +kernel
theorem dX5_init_49 : decode cX5_init 49 = .ok (.iastore, 1) := by decide +kernel
theorem dX5_init_50 : decode cX5_init 50 = .ok (.iinc 1 1, 3) := by decide +kernel
theorem dX5_init_53 : decode cX5_init 53 = .ok (.goto (-17), 3) := by decide +kernel
theorem dX5_init_56 : decode cX5_init 56 = .ok (.aload_n 0, 1) := by decide +kernel
theorem dX5_init_57 : decode cX5_init 57 = .ok (.iconst 4, 1) := by decide +kernel
theorem dX5_init_58 : decode cX5_init 58 = .ok (.anewarray 25, 3) := by decide +kernel
theorem dX5_init_61 : decode cX5_init 61 = .ok (.putfield 27, 3) := by decide +kernel
theorem dX5_init_64 : decode cX5_init 64 = .ok (.iconst 0, 1) := by decide +kernel
theorem dX5_init_65 : decode cX5_init 65 = .ok (.istore_n 1, 1) := by decide +kernel
theorem dX5_init_66 : decode cX5_init 66 = .ok (.iload_n 1, 1) := by decide +kernel
theorem dX5_init_67 : decode cX5_init 67 = .ok (.iconst 4, 1) := by decide +kernel
theorem dX5_init_68 : decode cX5_init 68 = .ok (.if_icmp .ge 22, 3) := by decide +kernel
theorem dX5_init_71 : decode cX5_init 71 = .ok (.aload_n 0, 1) := by decide +kernel
theorem dX5_init_72 : decode cX5_init 72 = .ok (.getfield 27, 3) := by decide +kernel
theorem dX5_init_75 : decode cX5_init 75 = .ok (.iload_n 1, 1) := by decide +kernel
theorem dX5_init_76 : decode cX5_init 76 = .ok (.new 25, 3) := by decide +kernel
theorem dX5_init_79 : decode cX5_init 79 = .ok (.dup, 1) := by decide +kernel
theorem dX5_init_80 : decode cX5_init 80 = .ok (.invokespecial 31, 3) := by decide +kernel
theorem dX5_init_83 : decode cX5_init 83 = .ok (.aastore, 1) := by decide +kernel
theorem dX5_init_84 : decode cX5_init 84 = .ok (.iinc 1 1, 3) := by decide +kernel
theorem dX5_init_87 : decode cX5_init 87 = .ok (.goto (-21), 3) := by decide +kernel
theorem dX5_init_90 : decode cX5_init 90 = .ok (.aload_n 0, 1) := by decide +kernel
theorem dX5_init_91 : decode cX5_init 91 = .ok (.bipush 6, 2) := by decide +kernel
theorem dX5_init_93 : decode cX5_init 93 = .ok (.anewarray 7, 3) := by decide +kernel
theorem dX5_init_96 : decode cX5_init 96 = .ok (.putfield 32, 3) := by decide +kernel
theorem dX5_init_99 : decode cX5_init 99 = .ok (.iconst 0, 1) := by decide +kernel
theorem dX5_init_100 : decode cX5_init 100 = .ok (.istore_n 1, 1) := by decide +kernel
theorem dX5_init_101 : decode cX5_init 101 = .ok (.iload_n 1, 1) := by decide +kernel
theorem dX5_init_102 : decode cX5_init 102 = .ok (.bipush 6, 2) := by decide +kernel
theorem dX5_init_104 : decode cX5_init 104 = .ok (.if_icmp .ge 23, 3) := by decide +kernel
theorem dX5_init_107 : decode cX5_init 107 = .ok (.aload_n 0, 1) := by decide +kernel
theorem dX5_init_108 : decode cX5_init 108 = .ok (.getfield 32, 3) := by decide +kernel
theorem dX5_init_111 : decode cX5_init 111 = .ok (.iload_n 1, 1) := by decide +kernel
theorem dX5_init_112 : decode cX5_init 112 = .ok (.new 7, 3) := by decide +kernel
theorem dX5_init_115 : decode cX5_init 115 = .ok (.dup, 1) := by decide +kernel
theorem dX5_init_116 : decode cX5_init 116 = .ok (.iload_n 1, 1) := by decide +kernel
theorem dX5_init_117 : decode cX5_init 117 = .ok (.invokespecial 11, 3) := by decide +kernel
theorem dX5_init_120 : decode cX5_init 120 = .ok (.aastore, 1) := by decide +kernel
theorem dX5_init_121 : decode cX5_init 121 = .ok (.iinc 1 1, 3) := by decide +kernel
theorem dX5_init_124 : decode cX5_init 124 = .ok (.goto (-23), 3) := by decide +kernel
theorem dX5_init_127 : decode cX5_init 127 = .ok (.aload_n 0, 1) := by decide +kernel
theorem dX5_init_128 : decode cX5_init 128 = .ok (.bipush 16, 2) := by decide +kernel
theorem dX5_init_130 : decode cX5_init 130 = .ok (.anewarray 36, 3) := by decide +kernel
theorem dX5_init_133 : decode cX5_init 133 = .ok (.putfield 38, 3) := by decide +kernel
theorem dX5_init_136 : decode cX5_init 136 = .ok (.iconst 0, 1) := by decide +kernel
theorem dX5_init_137 : decode cX5_init 137 = .ok (.istore_n 1, 1) := by decide +kernel
theorem dX5_init_138 : decode cX5_init 138 = .ok (.iload_n 1, 1) := by decide +kernel
theorem dX5_init_139 : decode cX5_init 139 = .ok (.bipush 16, 2) := by decide +kernel
theorem dX5_init_141 : decode cX5_init 141 = .ok (.if_icmp .ge 26, 3) := by decide +kernel
theorem dX5_init_144 : decode cX5_init 144 = .ok (.aload_n 0, 1) := by decide +kernel
theorem dX5_init_145 : decode cX5_init 145 = .ok (.getfield 38, 3) := by decide +kernel
theorem dX5_init_148 : decode cX5_init 148 = .ok (.iload_n 1, 1) := by decide +kernel
theorem dX5_init_149 : decode cX5_init 149 = .ok (.new 36, 3) := by decide +kernel
theorem dX5_init_152 : decode cX5_init 152 = .ok (.dup, 1) := by decide +kernel
theorem dX5_init_153 : decode cX5_init 153 = .ok (.aload_n 0, 1) := by decide +kernel
theorem dX5_init_154 : decode cX5_init 154 = .ok (.getfield 14, 3) := by decide +kernel
theorem dX5_init_157 : decode cX5_init 157 = .ok (.invokespecial 42, 3) := by decide +kernel
theorem dX5_init_160 : decode cX5_init 160 = .ok (.aastore, 1) := by decide +kernel
theorem dX5_init_161 : decode cX5_init 161 = .ok (.iinc 1 1, 3) := by decide +kernel
theorem dX5_init_164 : decode cX5_init 164 = .ok (.goto (-26), 3) := by decide +kernel
theorem dX5_init_167 : decode cX5_init 167 = .ok (.aload_n 0, 1) := by decide +kernel
theorem dX5_init_168 : decode cX5_init 168 = .ok (.iconst 1, 1) := by decide +kernel
theorem dX5_init_169 : decode cX5_init 169 = .ok (.putfield 45, 3) := by decide +kernel
theorem dX5_init_172 : decode cX5_init 172 = .ok (.return_, 1) := by decide +kernel
set_option maxRecDepth 20000 in
theorem ggX5_machine_X5_settleAllShardsOn : GoodIn wsX5_machine wsX5_settleAllShardsOn := goodIn_r _ [11, 12, 13, 14, 15, 16, 17, 18, 19, 20, 21, 22, 23, 24, 25, 26, 27, 28, 33, 34, 35, 36, 37, 38, 39, 40, 41] (by decide +kernel) (by decide +kernel)
set_option maxRecDepth 20000 in
theorem gX5_machine_X5_settleAllShardsOn : GoodIn wsX5_machine (wsV RX5 74 RX5 yX5_settleAllShardsOn wsX5_settleAllShardsOn) := goodIn_app (goodIn_of _ (by decide +kernel)) ggX5_machine_X5_settleAllShardsOn
theorem dX5_machine_0 : decode cX5_machine 0 = .ok (.iload_n 1, 1) := by decide +kernel
theorem dX5_machine_1 : decode cX5_machine 1 = .ok (.bipush 100, 2) := by decide +kernel
theorem dX5_machine_3 : decode cX5_machine 3 = .ok (.if_icmp .lt 10, 3) := by decide +kernel
theorem dX5_machine_6 : decode cX5_machine 6 = .ok (.iload_n 1, 1) := by decide +kernel
theorem dX5_machine_7 : decode cX5_machine 7 = .ok (.sipush 10000, 3) := by decide +kernel
theorem dX5_machine_10 : decode cX5_machine 10 = .ok (.if_icmp .le 13, 3) := by decide +kernel
theorem dX5_machine_13 : decode cX5_machine 13 = .ok (.new 49, 3) := by decide +kernel
theorem dX5_machine_16 : decode cX5_machine 16 = .ok (.dup, 1) := by decide +kernel
theorem dX5_machine_17 : decode cX5_machine 17 = .ok (.ldc 51, 2) := by decide +kernel
theorem dX5_machine_19 : decode cX5_machine 19 = .ok (.invokespecial 53, 3) := by decide +kernel
theorem dX5_machine_22 : decode cX5_machine 22 = .ok (.athrow, 1) := by decide +kernel
theorem dX5_machine_23 : decode cX5_machine 23 = .ok (.aload_n 0, 1) := by decide +kernel
theorem dX5_machine_24 : decode cX5_machine 24 = .ok (.getfield 56, 3) := by decide +kernel
theorem dX5_machine_27 : decode cX5_machine 27 = .ok (.bipush 6, 2) := by decide +kernel
theorem dX5_machine_29 : decode cX5_machine 29 = .ok (.if_icmp .lt 13, 3) := by decide +kernel
theorem dX5_machine_32 : decode cX5_machine 32 = .ok (.new 59, 3) := by decide +kernel
theorem dX5_machine_35 : decode cX5_machine 35 = .ok (.dup, 1) := by decide +kernel
theorem dX5_machine_36 : decode cX5_machine 36 = .ok (.ldc 61, 2) := by decide +kernel
theorem dX5_machine_38 : decode cX5_machine 38 = .ok (.invokespecial 63, 3) := by decide +kernel
theorem dX5_machine_41 : decode cX5_machine 41 = .ok (.athrow, 1) := by decide +kernel
theorem dX5_machine_42 : decode cX5_machine 42 = .ok (.aload_n 0, 1) := by decide +kernel
theorem dX5_machine_43 : decode cX5_machine 43 = .ok (.getfield 32, 3) := by decide +kernel
theorem dX5_machine_46 : decode cX5_machine 46 = .ok (.aload_n 0, 1) := by decide +kernel
theorem dX5_machine_47 : decode cX5_machine 47 = .ok (.getfield 56, 3) := by decide +kernel
theorem dX5_machine_50 : decode cX5_machine 50 = .ok (.aaload, 1) := by decide +kernel
theorem dX5_machine_51 : decode cX5_machine 51 = .ok (.astore_n 2, 1) := by decide +kernel
theorem dX5_machine_52 : decode cX5_machine 52 = .ok (.aload_n 2, 1) := by decide +kernel
theorem dX5_machine_53 : decode cX5_machine 53 = .ok (.iload_n 1, 1) := by decide +kernel
theorem dX5_machine_54 : decode cX5_machine 54 = .ok (.putfield 64, 3) := by decide +kernel
theorem dX5_machine_57 : decode cX5_machine 57 = .ok (.aload_n 2, 1) := by decide +kernel
theorem dX5_machine_58 : decode cX5_machine 58 = .ok (.iconst 1, 1) := by decide +kernel
theorem dX5_machine_59 : decode cX5_machine 59 = .ok (.putfield 67, 3) := by decide +kernel
theorem dX5_machine_62 : decode cX5_machine 62 = .ok (.aload_n 0, 1) := by decide +kernel
theorem dX5_machine_63 : decode cX5_machine 63 = .ok (.dup, 1) := by decide +kernel
theorem dX5_machine_64 : decode cX5_machine 64 = .ok (.getfield 56, 3) := by decide +kernel
theorem dX5_machine_67 : decode cX5_machine 67 = .ok (.iconst 1, 1) := by decide +kernel
theorem dX5_machine_68 : decode cX5_machine 68 = .ok (.iadd, 1) := by decide +kernel
theorem dX5_machine_69 : decode cX5_machine 69 = .ok (.putfield 56, 3) := by decide +kernel
theorem dX5_machine_72 : decode cX5_machine 72 = .ok (.aload_n 2, 1) := by decide +kernel
theorem dX5_machine_73 : decode cX5_machine 73 = .ok (.getfield 71, 3) := by decide +kernel
theorem dX5_machine_76 : decode cX5_machine 76 = .ok (.ifCond .ne 8, 3) := by decide +kernel
theorem dX5_machine_79 : decode cX5_machine 79 = .ok (.aload_n 0, 1) := by decide +kernel
theorem dX5_machine_80 : decode cX5_machine 80 = .ok (.aload_n 2, 1) := by decide +kernel
theorem dX5_machine_81 : decode cX5_machine 81 = .ok (.invokevirtual 74, 3) := by decide +kernel
theorem dX5_machine_84 : decode cX5_machine 84 = .ok (.aload_n 2, 1) := by decide +kernel
theorem dX5_machine_85 : decode cX5_machine 85 = .ok (.getfield 71, 3) := by decide +kernel
theorem dX5_machine_88 : decode cX5_machine 88 = .ok (.ireturn, 1) := by decide +kernel
set_option maxRecDepth 20000 in
theorem ggX5_down_X5_isMachine : GoodIn wsX5_down wsX5_isMachine := goodIn_r _ [8, 9, 34, 35, 36, 37, 38, 39, 40, 41, 42, 43, 44, 45, 46, 47, 48] (by decide +kernel) (by decide +kernel)
set_option maxRecDepth 20000 in
theorem gX5_down_X5_isMachine : GoodIn wsX5_down (wsV RX5 77 RX5 yX5_isMachine wsX5_isMachine) := goodIn_app (goodIn_of _ (by decide +kernel)) ggX5_down_X5_isMachine
set_option maxRecDepth 20000 in
theorem ggX5_down_X5_failMovesOf : GoodIn wsX5_down wsX5_failMovesOf := goodIn_r _ [13, 14, 15, 16, 17, 18, 19, 20, 21, 22, 23, 7, 24, 25, 26, 27, 28, 29, 30, 31, 32, 33, 34, 35, 36, 37, 38, 39, 40, 41, 42, 43, 44, 45, 46, 47, 48, 53, 54, 55, 56, 57, 58, 59, 60, 61, 49, 50, 51, 52] (by decide +kernel) (by decide +kernel)
set_option maxRecDepth 20000 in
theorem gX5_down_X5_failMovesOf : GoodIn wsX5_down (wsV RX5 86 RX5 yX5_failMovesOf wsX5_failMovesOf) := goodIn_app (goodIn_of _ (by decide +kernel)) ggX5_down_X5_failMovesOf
theorem dX5_down_0 : decode cX5_down 0 = .ok (.aload_n 0, 1) := by decide +kernel
theorem dX5_down_1 : decode cX5_down 1 = .ok (.iload_n 1, 1) := by decide +kernel
theorem dX5_down_2 : decode cX5_down 2 = .ok (.invokevirtual 77, 3) := by decide +kernel
theorem dX5_down_5 : decode cX5_down 5 = .ok (.ifCond .ne 13, 3) := by decide +kernel
theorem dX5_down_8 : decode cX5_down 8 = .ok (.new 81, 3) := by decide +kernel
theorem dX5_down_11 : decode cX5_down 11 = .ok (.dup, 1) := by decide +kernel
theorem dX5_down_12 : decode cX5_down 12 = .ok (.ldc 83, 2) := by decide +kernel
theorem dX5_down_14 : decode cX5_down 14 = .ok (.invokespecial 85, 3) := by decide +kernel
theorem dX5_down_17 : decode cX5_down 17 = .ok (.athrow, 1) := by decide +kernel
theorem dX5_down_18 : decode cX5_down 18 = .ok (.aload_n 0, 1) := by decide +kernel
theorem dX5_down_19 : decode cX5_down 19 = .ok (.getfield 32, 3) := by decide +kernel
theorem dX5_down_22 : decode cX5_down 22 = .ok (.iload_n 1, 1) := by decide +kernel
theorem dX5_down_23 : decode cX5_down 23 = .ok (.aaload, 1) := by decide +kernel
theorem dX5_down_24 : decode cX5_down 24 = .ok (.astore_n 3, 1) := by decide +kernel
theorem dX5_down_25 : decode cX5_down 25 = .ok (.aload_n 3, 1) := by decide +kernel
theorem dX5_down_26 : decode cX5_down 26 = .ok (.getfield 67, 3) := by decide +kernel
theorem dX5_down_29 : decode cX5_down 29 = .ok (.ifCond .ne 7, 3) := by decide +kernel
theorem dX5_down_32 : decode cX5_down 32 = .ok (.iconst 1, 1) := by decide +kernel
theorem dX5_down_33 : decode cX5_down 33 = .ok (.goto 4, 3) := by decide +kernel
theorem dX5_down_36 : decode cX5_down 36 = .ok (.iconst 0, 1) := by decide +kernel
theorem dX5_down_37 : decode cX5_down 37 = .ok (.istore 4, 2) := by decide +kernel
theorem dX5_down_39 : decode cX5_down 39 = .ok (.aload_n 3, 1) := by decide +kernel
theorem dX5_down_40 : decode cX5_down 40 = .ok (.iload_n 2, 1) := by decide +kernel
theorem dX5_down_41 : decode cX5_down 41 = .ok (.ifCond .ne 7, 3) := by decide +kernel
theorem dX5_down_44 : decode cX5_down 44 = .ok (.iconst 1, 1) := by decide +kernel
theorem dX5_down_45 : decode cX5_down 45 = .ok (.goto 4, 3) := by decide +kernel
theorem dX5_down_48 : decode cX5_down 48 = .ok (.iconst 0, 1) := by decide +kernel
theorem dX5_down_49 : decode cX5_down 49 = .ok (.putfield 67, 3) := by decide +kernel
theorem dX5_down_52 : decode cX5_down 52 = .ok (.iload_n 2, 1) := by decide +kernel
theorem dX5_down_53 : decode cX5_down 53 = .ok (.ifCond .eq 8, 3) := by decide +kernel
theorem dX5_down_56 : decode cX5_down 56 = .ok (.aload_n 0, 1) := by decide +kernel
theorem dX5_down_57 : decode cX5_down 57 = .ok (.aload_n 3, 1) := by decide +kernel
theorem dX5_down_58 : decode cX5_down 58 = .ok (.invokevirtual 86, 3) := by decide +kernel
theorem dX5_down_61 : decode cX5_down 61 = .ok (.iload 4, 2) := by decide +kernel
theorem dX5_down_63 : decode cX5_down 63 = .ok (.ireturn, 1) := by decide +kernel
set_option maxRecDepth 20000 in
theorem ggX5_quota_X5_isTenant : GoodIn wsX5_quota wsX5_isTenant := goodIn_r _ [10] (by decide +kernel) (by decide +kernel)
set_option maxRecDepth 20000 in
theorem gX5_quota_X5_isTenant : GoodIn wsX5_quota (wsV RX5 89 RX5 yX5_isTenant wsX5_isTenant) := goodIn_app (goodIn_of _ (by decide +kernel)) ggX5_quota_X5_isTenant
theorem dX5_quota_0 : decode cX5_quota 0 = .ok (.aload_n 0, 1) := by decide +kernel
theorem dX5_quota_1 : decode cX5_quota 1 = .ok (.iload_n 1, 1) := by decide +kernel
theorem dX5_quota_2 : decode cX5_quota 2 = .ok (.invokevirtual 89, 3) := by decide +kernel
theorem dX5_quota_5 : decode cX5_quota 5 = .ok (.ifCond .ne 13, 3) := by decide +kernel
theorem dX5_quota_8 : decode cX5_quota 8 = .ok (.new 81, 3) := by decide +kernel
theorem dX5_quota_11 : decode cX5_quota 11 = .ok (.dup, 1) := by decide +kernel
theorem dX5_quota_12 : decode cX5_quota 12 = .ok (.ldc 92, 2) := by decide +kernel
theorem dX5_quota_14 : decode cX5_quota 14 = .ok (.invokespecial 85, 3) := by decide +kernel
theorem dX5_quota_17 : decode cX5_quota 17 = .ok (.athrow, 1) := by decide +kernel
theorem dX5_quota_18 : decode cX5_quota 18 = .ok (.iload_n 2, 1) := by decide +kernel
theorem dX5_quota_19 : decode cX5_quota 19 = .ok (.ifCond .lt 10, 3) := by decide +kernel
theorem dX5_quota_22 : decode cX5_quota 22 = .ok (.iload_n 2, 1) := by decide +kernel
theorem dX5_quota_23 : decode cX5_quota 23 = .ok (.sipush 20000, 3) := by decide +kernel
theorem dX5_quota_26 : decode cX5_quota 26 = .ok (.if_icmp .le 13, 3) := by decide +kernel
theorem dX5_quota_29 : decode cX5_quota 29 = .ok (.new 49, 3) := by decide +kernel
theorem dX5_quota_32 : decode cX5_quota 32 = .ok (.dup, 1) := by decide +kernel
theorem dX5_quota_33 : decode cX5_quota 33 = .ok (.ldc 94, 2) := by decide +kernel
theorem dX5_quota_35 : decode cX5_quota 35 = .ok (.invokespecial 53, 3) := by decide +kernel
theorem dX5_quota_38 : decode cX5_quota 38 = .ok (.athrow, 1) := by decide +kernel
theorem dX5_quota_39 : decode cX5_quota 39 = .ok (.aload_n 0, 1) := by decide +kernel
theorem dX5_quota_40 : decode cX5_quota 40 = .ok (.getfield 27, 3) := by decide +kernel
theorem dX5_quota_43 : decode cX5_quota 43 = .ok (.iload_n 1, 1) := by decide +kernel
theorem dX5_quota_44 : decode cX5_quota 44 = .ok (.aaload, 1) := by decide +kernel
theorem dX5_quota_45 : decode cX5_quota 45 = .ok (.getfield 96, 3) := by decide +kernel
theorem dX5_quota_48 : decode cX5_quota 48 = .ok (.istore_n 3, 1) := by decide +kernel
theorem dX5_quota_49 : decode cX5_quota 49 = .ok (.aload_n 0, 1) := by decide +kernel
theorem dX5_quota_50 : decode cX5_quota 50 = .ok (.getfield 27, 3) := by decide +kernel
theorem dX5_quota_53 : decode cX5_quota 53 = .ok (.iload_n 1, 1) := by decide +kernel
theorem dX5_quota_54 : decode cX5_quota 54 = .ok (.aaload, 1) := by decide +kernel
theorem dX5_quota_55 : decode cX5_quota 55 = .ok (.iload_n 2, 1) := by decide +kernel
theorem dX5_quota_56 : decode cX5_quota 56 = .ok (.putfield 96, 3) := by decide +kernel
theorem dX5_quota_59 : decode cX5_quota 59 = .ok (.iload_n 3, 1) := by decide +kernel
theorem dX5_quota_60 : decode cX5_quota 60 = .ok (.ireturn, 1) := by decide +kernel
theorem dX5_limit_0 : decode cX5_limit 0 = .ok (.iload_n 1, 1) := by decide +kernel
theorem dX5_limit_1 : decode cX5_limit 1 = .ok (.ifCond .lt 10, 3) := by decide +kernel
theorem dX5_limit_4 : decode cX5_limit 4 = .ok (.iload_n 1, 1) := by decide +kernel
theorem dX5_limit_5 : decode cX5_limit 5 = .ok (.sipush 1000, 3) := by decide +kernel
theorem dX5_limit_8 : decode cX5_limit 8 = .ok (.if_icmp .le 13, 3) := by decide +kernel
theorem dX5_limit_11 : decode cX5_limit 11 = .ok (.new 49, 3) := by decide +kernel
theorem dX5_limit_14 : decode cX5_limit 14 = .ok (.dup, 1) := by decide +kernel
theorem dX5_limit_15 : decode cX5_limit 15 = .ok (.ldc 99, 2) := by decide +kernel
theorem dX5_limit_17 : decode cX5_limit 17 = .ok (.invokespecial 53, 3) := by decide +kernel
theorem dX5_limit_20 : decode cX5_limit 20 = .ok (.athrow, 1) := by decide +kernel
theorem dX5_limit_21 : decode cX5_limit 21 = .ok (.aload_n 0, 1) := by decide +kernel
theorem dX5_limit_22 : decode cX5_limit 22 = .ok (.getfield 101, 3) := by decide +kernel
theorem dX5_limit_25 : decode cX5_limit 25 = .ok (.istore_n 2, 1) := by decide +kernel
theorem dX5_limit_26 : decode cX5_limit 26 = .ok (.aload_n 0, 1) := by decide +kernel
theorem dX5_limit_27 : decode cX5_limit 27 = .ok (.iload_n 1, 1) := by decide +kernel
theorem dX5_limit_28 : decode cX5_limit 28 = .ok (.putfield 101, 3) := by decide +kernel
theorem dX5_limit_31 : decode cX5_limit 31 = .ok (.iload_n 2, 1) := by decide +kernel
theorem dX5_limit_32 : decode cX5_limit 32 = .ok (.ireturn, 1) := by decide +kernel
set_option maxRecDepth 20000 in
theorem ggX5_write_X5_isKey : GoodIn wsX5_write wsX5_isKey := goodIn_r _ [14] (by decide +kernel) (by decide +kernel)
set_option maxRecDepth 20000 in
theorem gX5_write_X5_isKey : GoodIn wsX5_write (wsV RX5 104 RX5 yX5_isKey wsX5_isKey) := goodIn_app (goodIn_of _ (by decide +kernel)) ggX5_write_X5_isKey
set_option maxRecDepth 20000 in
theorem ggX5_write_X5_isTenant : GoodIn wsX5_write wsX5_isTenant := goodIn_r _ [18] (by decide +kernel) (by decide +kernel)
set_option maxRecDepth 20000 in
theorem gX5_write_X5_isTenant : GoodIn wsX5_write (wsV RX5 89 RX5 yX5_isTenant wsX5_isTenant) := goodIn_app (goodIn_of _ (by decide +kernel)) ggX5_write_X5_isTenant
set_option maxRecDepth 20000 in
theorem ggX5_write_X5_numberOfShardWith : GoodIn wsX5_write wsX5_numberOfShardWith := goodIn_r _ [22, 23, 7, 96, 97, 98, 99, 100, 101, 102, 103, 104, 105, 106, 107, 108, 109, 110, 111, 112, 113, 114, 115, 116, 117, 118, 119] (by decide +kernel) (by decide +kernel)
set_option maxRecDepth 20000 in
theorem gX5_write_X5_numberOfShardWith : GoodIn wsX5_write (wsV RX5 109 RX5 yX5_numberOfShardWith wsX5_numberOfShardWith) := goodIn_app (goodIn_of _ (by decide +kernel)) ggX5_write_X5_numberOfShardWith
set_option maxRecDepth 20000 in
theorem ggX5_write_X5_mayChange : GoodIn wsX5_write wsX5_mayChange := goodIn_r _ [27, 28, 111, 112, 113, 114, 115, 116, 117, 118, 119, 123, 124, 125, 126, 96, 97, 98, 99, 100, 101, 102, 103, 104, 105, 106, 107, 108, 109, 110] (by decide +kernel) (by decide +kernel)
set_option maxRecDepth 20000 in
theorem gX5_write_X5_mayChange : GoodIn wsX5_write (wsV RX5 113 RX5 yX5_mayChange wsX5_mayChange) := goodIn_app (goodIn_of _ (by decide +kernel)) ggX5_write_X5_mayChange
set_option maxRecDepth 20000 in
theorem ggX5_write_X2_hasRoomFor : GoodIn wsX5_write wsX2_hasRoomFor := goodIn_r _ [32, 33, 34, 123, 124, 125, 126] (by decide +kernel) (by decide +kernel)
set_option maxRecDepth 20000 in
theorem gX5_write_X2_hasRoomFor_n120 : GoodIn wsX5_write (wsX2_hasRoomFor) := ggX5_write_X2_hasRoomFor
set_option maxRecDepth 20000 in
theorem ggX5_write_X5_hasQuotaFor : GoodIn wsX5_write wsX5_hasQuotaFor := goodIn_r _ [38, 39, 8, 9, 96, 97, 98, 99, 100, 101, 102, 103, 104, 105, 106, 107, 108, 109, 110, 120, 121, 122] (by decide +kernel) (by decide +kernel)
set_option maxRecDepth 20000 in
theorem gX5_write_X5_hasQuotaFor : GoodIn wsX5_write (wsV RX5 123 RX5 yX5_hasQuotaFor wsX5_hasQuotaFor) := goodIn_app (goodIn_of _ (by decide +kernel)) ggX5_write_X5_hasQuotaFor
set_option maxRecDepth 20000 in
theorem ggX5_write_X5_change : GoodIn wsX5_write wsX5_change := goodIn_r _ [43, 44, 45, 46, 47, 48, 39, 8, 28, 49, 50, 51, 52, 53, 54, 55, 56, 57, 58, 59, 60, 61, 62, 63, 64, 65, 66, 67, 68, 13, 69, 9, 15, 16, 17, 18, 70, 71, 72, 73, 74, 75, 76, 77, 78, 79, 80, 81, 82, 83, 29, 30, 31, 32, 33, 34, 84, 85, 86, 87, 88, 89, 90, 91, 92, 93, 94, 95, 127, 128, 129, 130, 131, 132, 96, 97, 98, 99, 100, 101, 102, 103, 104, 105, 106, 107, 108, 109, 110, 111, 112, 113, 114, 115, 116, 117, 118, 119, 123, 124, 125, 126, 120, 121, 122] (by decide +kernel) (by decide +kernel)
set_option maxRecDepth 20000 in
theorem gX5_write_X5_change : GoodIn wsX5_write (wsV RX5 129 RX5 yX5_change wsX5_change) := goodIn_app (goodIn_of _ (by decide +kernel)) ggX5_write_X5_change
theorem dX5_write_0 : decode cX5_write 0 = .ok (.aload_n 0, 1) := by decide +kernel
theorem dX5_write_1 : decode cX5_write 1 = .ok (.iload_n 1, 1) := by decide +kernel
theorem dX5_write_2 : decode cX5_write 2 = .ok (.invokevirtual 104, 3) := by decide +kernel
theorem dX5_write_5 : decode cX5_write 5 = .ok (.ifCond .eq 11, 3) := by decide +kernel
theorem dX5_write_8 : decode cX5_write 8 = .ok (.aload_n 0, 1) := by decide +kernel
theorem dX5_write_9 : decode cX5_write 9 = .ok (.iload_n 2, 1) := by decide +kernel
theorem dX5_write_10 : decode cX5_write 10 = .ok (.invokevirtual 89, 3) := by decide +kernel
theorem dX5_write_13 : decode cX5_write 13 = .ok (.ifCond .ne 13, 3) := by decide +kernel
theorem dX5_write_16 : decode cX5_write 16 = .ok (.new 81, 3) := by decide +kernel
theorem dX5_write_19 : decode cX5_write 19 = .ok (.dup, 1) := by decide +kernel
theorem dX5_write_20 : decode cX5_write 20 = .ok (.ldc 107, 2) := by decide +kernel
theorem dX5_write_22 : decode cX5_write 22 = .ok (.invokespecial 85, 3) := by decide +kernel
theorem dX5_write_25 : decode cX5_write 25 = .ok (.athrow, 1) := by decide +kernel
theorem dX5_write_26 : decode cX5_write 26 = .ok (.iload_n 3, 1) := by decide +kernel
theorem dX5_write_27 : decode cX5_write 27 = .ok (.iconst 1, 1) := by decide +kernel
theorem dX5_write_28 : decode cX5_write 28 = .ok (.if_icmp .lt 9, 3) := by decide +kernel
theorem dX5_write_31 : decode cX5_write 31 = .ok (.iload_n 3, 1) := by decide +kernel
theorem dX5_write_32 : decode cX5_write 32 = .ok (.bipush 100, 2) := by decide +kernel
theorem dX5_write_34 : decode cX5_write 34 = .ok (.if_icmp .le 13, 3) := by decide +kernel
theorem dX5_write_37 : decode cX5_write 37 = .ok (.new 49, 3) := by decide +kernel
theorem dX5_write_40 : decode cX5_write 40 = .ok (.dup, 1) := by decide +kernel
theorem dX5_write_41 : decode cX5_write 41 = .ok (.ldc 94, 2) := by decide +kernel
theorem dX5_write_43 : decode cX5_write 43 = .ok (.invokespecial 53, 3) := by decide +kernel
theorem dX5_write_46 : decode cX5_write 46 = .ok (.athrow, 1) := by decide +kernel
theorem dX5_write_47 : decode cX5_write 47 = .ok (.aload_n 0, 1) := by decide +kernel
theorem dX5_write_48 : decode cX5_write 48 = .ok (.getfield 38, 3) := by decide +kernel
theorem dX5_write_51 : decode cX5_write 51 = .ok (.aload_n 0, 1) := by decide +kernel
theorem dX5_write_52 : decode cX5_write 52 = .ok (.iload_n 1, 1) := by decide +kernel
theorem dX5_write_53 : decode cX5_write 53 = .ok (.invokevirtual 109, 3) := by decide +kernel
theorem dX5_write_56 : decode cX5_write 56 = .ok (.aaload, 1) := by decide +kernel
theorem dX5_write_57 : decode cX5_write 57 = .ok (.astore 4, 2) := by decide +kernel
theorem dX5_write_59 : decode cX5_write 59 = .ok (.aload_n 0, 1) := by decide +kernel
theorem dX5_write_60 : decode cX5_write 60 = .ok (.aload 4, 2) := by decide +kernel
theorem dX5_write_62 : decode cX5_write 62 = .ok (.invokevirtual 113, 3) := by decide +kernel
theorem dX5_write_65 : decode cX5_write 65 = .ok (.ifCond .eq 32, 3) := by decide +kernel
theorem dX5_write_68 : decode cX5_write 68 = .ok (.aload 4, 2) := by decide +kernel
theorem dX5_write_70 : decode cX5_write 70 = .ok (.getfield 117, 3) := by decide +kernel
theorem dX5_write_73 : decode cX5_write 73 = .ok (.iload_n 3, 1) := by decide +kernel
theorem dX5_write_74 : decode cX5_write 74 = .ok (.aload_n 0, 1) := by decide +kernel
theorem dX5_write_75 : decode cX5_write 75 = .ok (.getfield 18, 3) := by decide +kernel
theorem dX5_write_78 : decode cX5_write 78 = .ok (.iload_n 1, 1) := by decide +kernel
theorem dX5_write_79 : decode cX5_write 79 = .ok (.iaload, 1) := by decide +kernel
theorem dX5_write_80 : decode cX5_write 80 = .ok (.isub, 1) := by decide +kernel
theorem dX5_write_81 : decode cX5_write 81 = .ok (.invokevirtual 120, 3) := by decide +kernel
theorem dX5_write_84 : decode cX5_write 84 = .ok (.ifCond .eq 13, 3) := by decide +kernel
theorem dX5_write_87 : decode cX5_write 87 = .ok (.aload_n 0, 1) := by decide +kernel
theorem dX5_write_88 : decode cX5_write 88 = .ok (.iload_n 2, 1) := by decide +kernel
theorem dX5_write_89 : decode cX5_write 89 = .ok (.iload_n 1, 1) := by decide +kernel
theorem dX5_write_90 : decode cX5_write 90 = .ok (.iload_n 3, 1) := by decide +kernel
theorem dX5_write_91 : decode cX5_write 91 = .ok (.invokevirtual 123, 3) := by decide +kernel
theorem dX5_write_94 : decode cX5_write 94 = .ok (.ifCond .ne 13, 3) := by decide +kernel
theorem dX5_write_97 : decode cX5_write 97 = .ok (.new 59, 3) := by decide +kernel
theorem dX5_write_100 : decode cX5_write 100 = .ok (.dup, 1) := by decide +kernel
theorem dX5_write_101 : decode cX5_write 101 = .ok (.ldc 127, 2) := by decide +kernel
theorem dX5_write_103 : decode cX5_write 103 = .ok (.invokespecial 63, 3) := by decide +kernel
theorem dX5_write_106 : decode cX5_write 106 = .ok (.athrow, 1) := by decide +kernel
theorem dX5_write_107 : decode cX5_write 107 = .ok (.aload_n 0, 1) := by decide +kernel
theorem dX5_write_108 : decode cX5_write 108 = .ok (.aload 4, 2) := by decide +kernel
theorem dX5_write_110 : decode cX5_write 110 = .ok (.iload_n 1, 1) := by decide +kernel
theorem dX5_write_111 : decode cX5_write 111 = .ok (.iload_n 2, 1) := by decide +kernel
theorem dX5_write_112 : decode cX5_write 112 = .ok (.iload_n 3, 1) := by decide +kernel
theorem dX5_write_113 : decode cX5_write 113 = .ok (.invokevirtual 129, 3) := by decide +kernel
theorem dX5_write_116 : decode cX5_write 116 = .ok (.aload_n 0, 1) := by decide +kernel
theorem dX5_write_117 : decode cX5_write 117 = .ok (.getfield 27, 3) := by decide +kernel
theorem dX5_write_120 : decode cX5_write 120 = .ok (.iload_n 2, 1) := by decide +kernel
theorem dX5_write_121 : decode cX5_write 121 = .ok (.aaload, 1) := by decide +kernel
theorem dX5_write_122 : decode cX5_write 122 = .ok (.getfield 133, 3) := by decide +kernel
theorem dX5_write_125 : decode cX5_write 125 = .ok (.ireturn, 1) := by decide +kernel
set_option maxRecDepth 20000 in
theorem ggX5_take_X5_isKey : GoodIn wsX5_take wsX5_isKey := goodIn_r _ [11] (by decide +kernel) (by decide +kernel)
set_option maxRecDepth 20000 in
theorem gX5_take_X5_isKey : GoodIn wsX5_take (wsV RX5 104 RX5 yX5_isKey wsX5_isKey) := goodIn_app (goodIn_of _ (by decide +kernel)) ggX5_take_X5_isKey
set_option maxRecDepth 20000 in
theorem ggX5_take_X5_numberOfShardWith : GoodIn wsX5_take wsX5_numberOfShardWith := goodIn_r _ [15, 16, 6, 90, 91, 92, 93, 94, 95, 96, 97, 98, 99, 100, 101, 102, 103, 104, 105, 106, 107, 108, 109, 110, 111, 112, 113] (by decide +kernel) (by decide +kernel)
set_option maxRecDepth 20000 in
theorem gX5_take_X5_numberOfShardWith : GoodIn wsX5_take (wsV RX5 109 RX5 yX5_numberOfShardWith wsX5_numberOfShardWith) := goodIn_app (goodIn_of _ (by decide +kernel)) ggX5_take_X5_numberOfShardWith
set_option maxRecDepth 20000 in
theorem ggX5_take_X5_mayChange : GoodIn wsX5_take wsX5_mayChange := goodIn_r _ [20, 21, 105, 106, 107, 108, 109, 110, 111, 112, 113, 114, 115, 116, 117, 90, 91, 92, 93, 94, 95, 96, 97, 98, 99, 100, 101, 102, 103, 104] (by decide +kernel) (by decide +kernel)
set_option maxRecDepth 20000 in
theorem gX5_take_X5_mayChange : GoodIn wsX5_take (wsV RX5 113 RX5 yX5_mayChange wsX5_mayChange) := goodIn_app (goodIn_of _ (by decide +kernel)) ggX5_take_X5_mayChange
set_option maxRecDepth 20000 in
theorem ggX5_take_X5_change : GoodIn wsX5_take wsX5_change := goodIn_r _ [25, 26, 27, 28, 29, 30, 31, 5, 21, 32, 33, 34, 35, 36, 37, 38, 39, 40, 41, 42, 43, 44, 45, 46, 47, 48, 49, 50, 51, 10, 52, 53, 54, 55, 56, 57, 58, 59, 60, 61, 62, 63, 64, 65, 66, 67, 68, 69, 70, 71, 72, 73, 74, 75, 76, 77, 78, 79, 80, 81, 82, 83, 84, 85, 86, 87, 88, 89, 118, 119, 120, 121, 122, 123, 90, 91, 92, 93, 94, 95, 96, 97, 98, 99, 100, 101, 102, 103, 104, 105, 106, 107, 108, 109, 110, 111, 112, 113, 114, 115, 116, 117, 124, 125, 126] (by decide +kernel) (by decide +kernel)
set_option maxRecDepth 20000 in
theorem gX5_take_X5_change : GoodIn wsX5_take (wsV RX5 129 RX5 yX5_change wsX5_change) := goodIn_app (goodIn_of _ (by decide +kernel)) ggX5_take_X5_change
theorem dX5_take_0 : decode cX5_take 0 = .ok (.aload_n 0, 1) := by decide +kernel
theorem dX5_take_1 : decode cX5_take 1 = .ok (.iload_n 1, 1) := by decide +kernel
theorem dX5_take_2 : decode cX5_take 2 = .ok (.invokevirtual 104, 3) := by decide +kernel
theorem dX5_take_5 : decode cX5_take 5 = .ok (.ifCond .ne 13, 3) := by decide +kernel
theorem dX5_take_8 : decode cX5_take 8 = .ok (.new 81, 3) := by decide +kernel
theorem dX5_take_11 : decode cX5_take 11 = .ok (.dup, 1) := by decide +kernel
theorem dX5_take_12 : decode cX5_take 12 = .ok (.ldc 136, 2) := by decide +kernel
theorem dX5_take_14 : decode cX5_take 14 = .ok (.invokespecial 85, 3) := by decide +kernel
theorem dX5_take_17 : decode cX5_take 17 = .ok (.athrow, 1) := by decide +kernel
theorem dX5_take_18 : decode cX5_take 18 = .ok (.aload_n 0, 1) := by decide +kernel
theorem dX5_take_19 : decode cX5_take 19 = .ok (.getfield 18, 3) := by decide +kernel
theorem dX5_take_22 : decode cX5_take 22 = .ok (.iload_n 1, 1) := by decide +kernel
theorem dX5_take_23 : decode cX5_take 23 = .ok (.iaload, 1) := by decide +kernel
theorem dX5_take_24 : decode cX5_take 24 = .ok (.istore_n 2, 1) := by decide +kernel
theorem dX5_take_25 : decode cX5_take 25 = .ok (.aload_n 0, 1) := by decide +kernel
theorem dX5_take_26 : decode cX5_take 26 = .ok (.getfield 38, 3) := by decide +kernel
theorem dX5_take_29 : decode cX5_take 29 = .ok (.aload_n 0, 1) := by decide +kernel
theorem dX5_take_30 : decode cX5_take 30 = .ok (.iload_n 1, 1) := by decide +kernel
theorem dX5_take_31 : decode cX5_take 31 = .ok (.invokevirtual 109, 3) := by decide +kernel
theorem dX5_take_34 : decode cX5_take 34 = .ok (.aaload, 1) := by decide +kernel
theorem dX5_take_35 : decode cX5_take 35 = .ok (.astore_n 3, 1) := by decide +kernel
theorem dX5_take_36 : decode cX5_take 36 = .ok (.iload_n 2, 1) := by decide +kernel
theorem dX5_take_37 : decode cX5_take 37 = .ok (.ifCond .eq 11, 3) := by decide +kernel
theorem dX5_take_40 : decode cX5_take 40 = .ok (.aload_n 0, 1) := by decide +kernel
theorem dX5_take_41 : decode cX5_take 41 = .ok (.aload_n 3, 1) := by decide +kernel
theorem dX5_take_42 : decode cX5_take 42 = .ok (.invokevirtual 113, 3) := by decide +kernel
theorem dX5_take_45 : decode cX5_take 45 = .ok (.ifCond .ne 13, 3) := by decide +kernel
theorem dX5_take_48 : decode cX5_take 48 = .ok (.new 59, 3) := by decide +kernel
theorem dX5_take_51 : decode cX5_take 51 = .ok (.dup, 1) := by decide +kernel
theorem dX5_take_52 : decode cX5_take 52 = .ok (.ldc 138, 2) := by decide +kernel
theorem dX5_take_54 : decode cX5_take 54 = .ok (.invokespecial 63, 3) := by decide +kernel
theorem dX5_take_57 : decode cX5_take 57 = .ok (.athrow, 1) := by decide +kernel
theorem dX5_take_58 : decode cX5_take 58 = .ok (.aload_n 0, 1) := by decide +kernel
theorem dX5_take_59 : decode cX5_take 59 = .ok (.aload_n 3, 1) := by decide +kernel
theorem dX5_take_60 : decode cX5_take 60 = .ok (.iload_n 1, 1) := by decide +kernel
theorem dX5_take_61 : decode cX5_take 61 = .ok (.iconst (-1), 1) := by decide +kernel
theorem dX5_take_62 : decode cX5_take 62 = .ok (.iconst 0, 1) := by decide +kernel
theorem dX5_take_63 : decode cX5_take 63 = .ok (.invokevirtual 129, 3) := by decide +kernel
theorem dX5_take_66 : decode cX5_take 66 = .ok (.iload_n 2, 1) := by decide +kernel
theorem dX5_take_67 : decode cX5_take 67 = .ok (.ireturn, 1) := by decide +kernel
set_option maxRecDepth 20000 in
theorem ggX5_read_X5_isKey : GoodIn wsX5_read wsX5_isKey := goodIn_r _ [11] (by decide +kernel) (by decide +kernel)
set_option maxRecDepth 20000 in
theorem gX5_read_X5_isKey : GoodIn wsX5_read (wsV RX5 104 RX5 yX5_isKey wsX5_isKey) := goodIn_app (goodIn_of _ (by decide +kernel)) ggX5_read_X5_isKey
set_option maxRecDepth 20000 in
theorem ggX5_read_X5_numberOfShardWith : GoodIn wsX5_read wsX5_numberOfShardWith := goodIn_r _ [15, 16, 5, 17, 18, 19, 20, 21, 22, 23, 24, 25, 26, 27, 28, 29, 30, 31, 32, 33, 34, 35, 36, 37, 38, 39, 40] (by decide +kernel) (by decide +kernel)
set_option maxRecDepth 20000 in
theorem gX5_read_X5_numberOfShardWith : GoodIn wsX5_read (wsV RX5 109 RX5 yX5_numberOfShardWith wsX5_numberOfShardWith) := goodIn_app (goodIn_of _ (by decide +kernel)) ggX5_read_X5_numberOfShardWith
theorem dX5_read_0 : decode cX5_read 0 = .ok (.aload_n 0, 1) := by decide +kernel
theorem dX5_read_1 : decode cX5_read 1 = .ok (.iload_n 1, 1) := by decide +kernel
theorem dX5_read_2 : decode cX5_read 2 = .ok (.invokevirtual 104, 3) := by decide +kernel
theorem dX5_read_5 : decode cX5_read 5 = .ok (.ifCond .ne 13, 3) := by decide +kernel
theorem dX5_read_8 : decode cX5_read 8 = .ok (.new 81, 3) := by decide +kernel
theorem dX5_read_11 : decode cX5_read 11 = .ok (.dup, 1) := by decide +kernel
theorem dX5_read_12 : decode cX5_read 12 = .ok (.ldc 136, 2) := by decide +kernel
theorem dX5_read_14 : decode cX5_read 14 = .ok (.invokespecial 85, 3) := by decide +kernel
theorem dX5_read_17 : decode cX5_read 17 = .ok (.athrow, 1) := by decide +kernel
theorem dX5_read_18 : decode cX5_read 18 = .ok (.aload_n 0, 1) := by decide +kernel
theorem dX5_read_19 : decode cX5_read 19 = .ok (.getfield 38, 3) := by decide +kernel
theorem dX5_read_22 : decode cX5_read 22 = .ok (.aload_n 0, 1) := by decide +kernel
theorem dX5_read_23 : decode cX5_read 23 = .ok (.iload_n 1, 1) := by decide +kernel
theorem dX5_read_24 : decode cX5_read 24 = .ok (.invokevirtual 109, 3) := by decide +kernel
theorem dX5_read_27 : decode cX5_read 27 = .ok (.aaload, 1) := by decide +kernel
theorem dX5_read_28 : decode cX5_read 28 = .ok (.astore_n 2, 1) := by decide +kernel
theorem dX5_read_29 : decode cX5_read 29 = .ok (.aload_n 2, 1) := by decide +kernel
theorem dX5_read_30 : decode cX5_read 30 = .ok (.getfield 117, 3) := by decide +kernel
theorem dX5_read_33 : decode cX5_read 33 = .ok (.getfield 67, 3) := by decide +kernel
theorem dX5_read_36 : decode cX5_read 36 = .ok (.ifCond .ne 13, 3) := by decide +kernel
theorem dX5_read_39 : decode cX5_read 39 = .ok (.new 59, 3) := by decide +kernel
theorem dX5_read_42 : decode cX5_read 42 = .ok (.dup, 1) := by decide +kernel
theorem dX5_read_43 : decode cX5_read 43 = .ok (.ldc 140, 2) := by decide +kernel
theorem dX5_read_45 : decode cX5_read 45 = .ok (.invokespecial 63, 3) := by decide +kernel
theorem dX5_read_48 : decode cX5_read 48 = .ok (.athrow, 1) := by decide +kernel
theorem dX5_read_49 : decode cX5_read 49 = .ok (.aload_n 2, 1) := by decide +kernel
theorem dX5_read_50 : decode cX5_read 50 = .ok (.dup, 1) := by decide +kernel
theorem dX5_read_51 : decode cX5_read 51 = .ok (.getfield 142, 3) := by decide +kernel
theorem dX5_read_54 : decode cX5_read 54 = .ok (.iconst 1, 1) := by decide +kernel
theorem dX5_read_55 : decode cX5_read 55 = .ok (.iadd, 1) := by decide +kernel
theorem dX5_read_56 : decode cX5_read 56 = .ok (.putfield 142, 3) := by decide +kernel
theorem dX5_read_59 : decode cX5_read 59 = .ok (.aload_n 0, 1) := by decide +kernel
theorem dX5_read_60 : decode cX5_read 60 = .ok (.getfield 18, 3) := by decide +kernel
theorem dX5_read_63 : decode cX5_read 63 = .ok (.iload_n 1, 1) := by decide +kernel
theorem dX5_read_64 : decode cX5_read 64 = .ok (.iaload, 1) := by decide +kernel
theorem dX5_read_65 : decode cX5_read 65 = .ok (.ireturn, 1) := by decide +kernel
set_option maxRecDepth 20000 in
theorem ggX5_split_X5_isKey : GoodIn wsX5_split wsX5_isKey := goodIn_r _ [11] (by decide +kernel) (by decide +kernel)
set_option maxRecDepth 20000 in
theorem gX5_split_X5_isKey : GoodIn wsX5_split (wsV RX5 104 RX5 yX5_isKey wsX5_isKey) := goodIn_app (goodIn_of _ (by decide +kernel)) ggX5_split_X5_isKey
set_option maxRecDepth 20000 in
theorem ggX5_split_X5_numberOfShardWith : GoodIn wsX5_split wsX5_numberOfShardWith := goodIn_r _ [15, 6, 5, 30, 31, 32, 33, 34, 35, 36, 37, 38, 39, 40, 41, 42, 43, 44, 45, 46, 47, 48, 49, 50, 51, 52, 53] (by decide +kernel) (by decide +kernel)
set_option maxRecDepth 20000 in
theorem gX5_split_X5_numberOfShardWith : GoodIn wsX5_split (wsV RX5 109 RX5 yX5_numberOfShardWith wsX5_numberOfShardWith) := goodIn_app (goodIn_of _ (by decide +kernel)) ggX5_split_X5_numberOfShardWith
set_option maxRecDepth 20000 in
theorem ggX5_split_X3_isMoving : GoodIn wsX5_split wsX3_isMoving := goodIn_r _ [19, 20, 45, 46, 47, 48, 49, 50, 51, 52, 53, 54, 55, 56, 57] (by decide +kernel) (by decide +kernel)
set_option maxRecDepth 20000 in
theorem gX5_split_X3_isMoving_n150 : GoodIn wsX5_split (wsX3_isMoving) := ggX5_split_X3_isMoving
set_option maxRecDepth 20000 in
theorem ggX5_split_X5_cutInTwo : GoodIn wsX5_split wsX5_cutInTwo := goodIn_r _ [24, 25, 26, 27, 10, 28, 29, 45, 46, 47, 48, 49, 50, 51, 52, 53, 30, 31, 32, 33, 34, 35, 36, 37, 38, 39, 40, 41, 42, 43, 44] (by decide +kernel) (by decide +kernel)
set_option maxRecDepth 20000 in
theorem gX5_split_X5_cutInTwo : GoodIn wsX5_split (wsV RX5 156 RX5 yX5_cutInTwo wsX5_cutInTwo) := goodIn_app (goodIn_of _ (by decide +kernel)) ggX5_split_X5_cutInTwo
theorem dX5_split_0 : decode cX5_split 0 = .ok (.aload_n 0, 1) := by decide +kernel
theorem dX5_split_1 : decode cX5_split 1 = .ok (.iload_n 1, 1) := by decide +kernel
theorem dX5_split_2 : decode cX5_split 2 = .ok (.invokevirtual 104, 3) := by decide +kernel
theorem dX5_split_5 : decode cX5_split 5 = .ok (.ifCond .eq 7, 3) := by decide +kernel
theorem dX5_split_8 : decode cX5_split 8 = .ok (.iload_n 1, 1) := by decide +kernel
theorem dX5_split_9 : decode cX5_split 9 = .ok (.ifCond .ne 13, 3) := by decide +kernel
theorem dX5_split_12 : decode cX5_split 12 = .ok (.new 81, 3) := by decide +kernel
theorem dX5_split_15 : decode cX5_split 15 = .ok (.dup, 1) := by decide +kernel
theorem dX5_split_16 : decode cX5_split 16 = .ok (.ldc 145, 2) := by decide +kernel
theorem dX5_split_18 : decode cX5_split 18 = .ok (.invokespecial 85, 3) := by decide +kernel
theorem dX5_split_21 : decode cX5_split 21 = .ok (.athrow, 1) := by decide +kernel
theorem dX5_split_22 : decode cX5_split 22 = .ok (.aload_n 0, 1) := by decide +kernel
theorem dX5_split_23 : decode cX5_split 23 = .ok (.iload_n 1, 1) := by decide +kernel
theorem dX5_split_24 : decode cX5_split 24 = .ok (.invokevirtual 109, 3) := by decide +kernel
theorem dX5_split_27 : decode cX5_split 27 = .ok (.istore_n 2, 1) := by decide +kernel
theorem dX5_split_28 : decode cX5_split 28 = .ok (.aload_n 0, 1) := by decide +kernel
theorem dX5_split_29 : decode cX5_split 29 = .ok (.getfield 38, 3) := by decide +kernel
theorem dX5_split_32 : decode cX5_split 32 = .ok (.iload_n 2, 1) := by decide +kernel
theorem dX5_split_33 : decode cX5_split 33 = .ok (.aaload, 1) := by decide +kernel
theorem dX5_split_34 : decode cX5_split 34 = .ok (.astore_n 3, 1) := by decide +kernel
theorem dX5_split_35 : decode cX5_split 35 = .ok (.aload_n 3, 1) := by decide +kernel
theorem dX5_split_36 : decode cX5_split 36 = .ok (.getfield 147, 3) := by decide +kernel
theorem dX5_split_39 : decode cX5_split 39 = .ok (.iload_n 1, 1) := by decide +kernel
theorem dX5_split_40 : decode cX5_split 40 = .ok (.if_icmp .eq 19, 3) := by decide +kernel
theorem dX5_split_43 : decode cX5_split 43 = .ok (.aload_n 3, 1) := by decide +kernel
theorem dX5_split_44 : decode cX5_split 44 = .ok (.invokevirtual 150, 3) := by decide +kernel
theorem dX5_split_47 : decode cX5_split 47 = .ok (.ifCond .ne 12, 3) := by decide +kernel
theorem dX5_split_50 : decode cX5_split 50 = .ok (.aload_n 0, 1) := by decide +kernel
theorem dX5_split_51 : decode cX5_split 51 = .ok (.getfield 45, 3) := by decide +kernel
theorem dX5_split_54 : decode cX5_split 54 = .ok (.bipush 16, 2) := by decide +kernel
theorem dX5_split_56 : decode cX5_split 56 = .ok (.if_icmp .lt 13, 3) := by decide +kernel
theorem dX5_split_59 : decode cX5_split 59 = .ok (.new 59, 3) := by decide +kernel
theorem dX5_split_62 : decode cX5_split 62 = .ok (.dup, 1) := by decide +kernel
theorem dX5_split_63 : decode cX5_split 63 = .ok (.ldc 154, 2) := by decide +kernel
theorem dX5_split_65 : decode cX5_split 65 = .ok (.invokespecial 63, 3) := by decide +kernel
theorem dX5_split_68 : decode cX5_split 68 = .ok (.athrow, 1) := by decide +kernel
theorem dX5_split_69 : decode cX5_split 69 = .ok (.aload_n 0, 1) := by decide +kernel
theorem dX5_split_70 : decode cX5_split 70 = .ok (.getfield 38, 3) := by decide +kernel
theorem dX5_split_73 : decode cX5_split 73 = .ok (.aload_n 0, 1) := by decide +kernel
theorem dX5_split_74 : decode cX5_split 74 = .ok (.getfield 45, 3) := by decide +kernel
theorem dX5_split_77 : decode cX5_split 77 = .ok (.aaload, 1) := by decide +kernel
theorem dX5_split_78 : decode cX5_split 78 = .ok (.astore 4, 2) := by decide +kernel
theorem dX5_split_80 : decode cX5_split 80 = .ok (.aload_n 0, 1) := by decide +kernel
theorem dX5_split_81 : decode cX5_split 81 = .ok (.getfield 45, 3) := by decide +kernel
theorem dX5_split_84 : decode cX5_split 84 = .ok (.istore 5, 2) := by decide +kernel
theorem dX5_split_86 : decode cX5_split 86 = .ok (.iload 5, 2) := by decide +kernel
theorem dX5_split_88 : decode cX5_split 88 = .ok (.iload_n 2, 1) := by decide +kernel
theorem dX5_split_89 : decode cX5_split 89 = .ok (.iconst 1, 1) := by decide +kernel
theorem dX5_split_90 : decode cX5_split 90 = .ok (.iadd, 1) := by decide +kernel
theorem dX5_split_91 : decode cX5_split 91 = .ok (.if_icmp .le 25, 3) := by decide +kernel
theorem dX5_split_94 : decode cX5_split 94 = .ok (.aload_n 0, 1) := by decide +kernel
theorem dX5_split_95 : decode cX5_split 95 = .ok (.getfield 38, 3) := by decide +kernel
theorem dX5_split_98 : decode cX5_split 98 = .ok (.iload 5, 2) := by decide +kernel
theorem dX5_split_100 : decode cX5_split 100 = .ok (.aload_n 0, 1) := by decide +kernel
theorem dX5_split_101 : decode cX5_split 101 = .ok (.getfield 38, 3) := by decide +kernel
theorem dX5_split_104 : decode cX5_split 104 = .ok (.iload 5, 2) := by decide +kernel
theorem dX5_split_106 : decode cX5_split 106 = .ok (.iconst 1, 1) := by decide +kernel
theorem dX5_split_107 : decode cX5_split 107 = .ok (.isub, 1) := by decide +kernel
theorem dX5_split_108 : decode cX5_split 108 = .ok (.aaload, 1) := by decide +kernel
theorem dX5_split_109 : decode cX5_split 109 = .ok (.aastore, 1) := by decide +kernel
theorem dX5_split_110 : decode cX5_split 110 = .ok (.iinc 5 (-1), 3) := by decide +kernel
theorem dX5_split_113 : decode cX5_split 113 = .ok (.goto (-27), 3) := by decide +kernel
theorem dX5_split_116 : decode cX5_split 116 = .ok (.aload_n 0, 1) := by decide +kernel
theorem dX5_split_117 : decode cX5_split 117 = .ok (.getfield 38, 3) := by decide +kernel
theorem dX5_split_120 : decode cX5_split 120 = .ok (.iload_n 2, 1) := by decide +kernel
theorem dX5_split_121 : decode cX5_split 121 = .ok (.iconst 1, 1) := by decide +kernel
theorem dX5_split_122 : decode cX5_split 122 = .ok (.iadd, 1) := by decide +kernel
theorem dX5_split_123 : decode cX5_split 123 = .ok (.aload 4, 2) := by decide +kernel
theorem dX5_split_125 : decode cX5_split 125 = .ok (.aastore, 1) := by decide +kernel
theorem dX5_split_126 : decode cX5_split 126 = .ok (.aload_n 0, 1) := by decide +kernel
theorem dX5_split_127 : decode cX5_split 127 = .ok (.dup, 1) := by decide +kernel
theorem dX5_split_128 : decode cX5_split 128 = .ok (.getfield 45, 3) := by decide +kernel
theorem dX5_split_131 : decode cX5_split 131 = .ok (.iconst 1, 1) := by decide +kernel
theorem dX5_split_132 : decode cX5_split 132 = .ok (.iadd, 1) := by decide +kernel
theorem dX5_split_133 : decode cX5_split 133 = .ok (.putfield 45, 3) := by decide +kernel
theorem dX5_split_136 : decode cX5_split 136 = .ok (.aload_n 0, 1) := by decide +kernel
theorem dX5_split_137 : decode cX5_split 137 = .ok (.aload_n 3, 1) := by decide +kernel
theorem dX5_split_138 : decode cX5_split 138 = .ok (.aload 4, 2) := by decide +kernel
theorem dX5_split_140 : decode cX5_split 140 = .ok (.iload_n 1, 1) := by decide +kernel
theorem dX5_split_141 : decode cX5_split 141 = .ok (.invokevirtual 156, 3) := by decide +kernel
theorem dX5_split_144 : decode cX5_split 144 = .ok (.iload_n 2, 1) := by decide +kernel
theorem dX5_split_145 : decode cX5_split 145 = .ok (.iconst 1, 1) := by decide +kernel
theorem dX5_split_146 : decode cX5_split 146 = .ok (.iadd, 1) := by decide +kernel
theorem dX5_split_147 : decode cX5_split 147 = .ok (.ireturn, 1) := by decide +kernel
set_option maxRecDepth 20000 in
theorem ggX5_join_X5_isShard : GoodIn wsX5_join wsX5_isShard := goodIn_r _ [11, 6, 21, 22, 23, 24, 25, 26, 27, 28, 29, 30, 31, 32, 33, 34, 35] (by decide +kernel) (by decide +kernel)
set_option maxRecDepth 20000 in
theorem gX5_join_X5_isShard : GoodIn wsX5_join (wsV RX5 160 RX5 yX5_isShard wsX5_isShard) := goodIn_app (goodIn_of _ (by decide +kernel)) ggX5_join_X5_isShard
set_option maxRecDepth 20000 in
theorem ggX5_join_X5_canBeJoined : GoodIn wsX5_join wsX5_canBeJoined := goodIn_r _ [15, 16, 17, 18, 19, 20, 36, 37, 38, 39, 40, 41, 42, 43, 44, 45, 46, 47, 48] (by decide +kernel) (by decide +kernel)
set_option maxRecDepth 20000 in
theorem gX5_join_X5_canBeJoined : GoodIn wsX5_join (wsV RX5 165 RX5 yX5_canBeJoined wsX5_canBeJoined) := goodIn_app (goodIn_of _ (by decide +kernel)) ggX5_join_X5_canBeJoined
theorem dX5_join_0 : decode cX5_join 0 = .ok (.aload_n 0, 1) := by decide +kernel
theorem dX5_join_1 : decode cX5_join 1 = .ok (.iload_n 1, 1) := by decide +kernel
theorem dX5_join_2 : decode cX5_join 2 = .ok (.invokevirtual 160, 3) := by decide +kernel
theorem dX5_join_5 : decode cX5_join 5 = .ok (.ifCond .ne 13, 3) := by decide +kernel
theorem dX5_join_8 : decode cX5_join 8 = .ok (.new 81, 3) := by decide +kernel
theorem dX5_join_11 : decode cX5_join 11 = .ok (.dup, 1) := by decide +kernel
theorem dX5_join_12 : decode cX5_join 12 = .ok (.ldc 163, 2) := by decide +kernel
theorem dX5_join_14 : decode cX5_join 14 = .ok (.invokespecial 85, 3) := by decide +kernel
theorem dX5_join_17 : decode cX5_join 17 = .ok (.athrow, 1) := by decide +kernel
theorem dX5_join_18 : decode cX5_join 18 = .ok (.aload_n 0, 1) := by decide +kernel
theorem dX5_join_19 : decode cX5_join 19 = .ok (.iload_n 1, 1) := by decide +kernel
theorem dX5_join_20 : decode cX5_join 20 = .ok (.iconst 1, 1) := by decide +kernel
theorem dX5_join_21 : decode cX5_join 21 = .ok (.iadd, 1) := by decide +kernel
theorem dX5_join_22 : decode cX5_join 22 = .ok (.invokevirtual 160, 3) := by decide +kernel
theorem dX5_join_25 : decode cX5_join 25 = .ok (.ifCond .eq 24, 3) := by decide +kernel
theorem dX5_join_28 : decode cX5_join 28 = .ok (.aload_n 0, 1) := by decide +kernel
theorem dX5_join_29 : decode cX5_join 29 = .ok (.aload_n 0, 1) := by decide +kernel
theorem dX5_join_30 : decode cX5_join 30 = .ok (.getfield 38, 3) := by decide +kernel
theorem dX5_join_33 : decode cX5_join 33 = .ok (.iload_n 1, 1) := by decide +kernel
theorem dX5_join_34 : decode cX5_join 34 = .ok (.aaload, 1) := by decide +kernel
theorem dX5_join_35 : decode cX5_join 35 = .ok (.aload_n 0, 1) := by decide +kernel
theorem dX5_join_36 : decode cX5_join 36 = .ok (.getfield 38, 3) := by decide +kernel
theorem dX5_join_39 : decode cX5_join 39 = .ok (.iload_n 1, 1) := by decide +kernel
theorem dX5_join_40 : decode cX5_join 40 = .ok (.iconst 1, 1) := by decide +kernel
theorem dX5_join_41 : decode cX5_join 41 = .ok (.iadd, 1) := by decide +kernel
theorem dX5_join_42 : decode cX5_join 42 = .ok (.aaload, 1) := by decide +kernel
theorem dX5_join_43 : decode cX5_join 43 = .ok (.invokevirtual 165, 3) := by decide +kernel
theorem dX5_join_46 : decode cX5_join 46 = .ok (.ifCond .ne 13, 3) := by decide +kernel
theorem dX5_join_49 : decode cX5_join 49 = .ok (.new 59, 3) := by decide +kernel
theorem dX5_join_52 : decode cX5_join 52 = .ok (.dup, 1) := by decide +kernel
theorem dX5_join_53 : decode cX5_join 53 = .ok (.ldc 169, 2) := by decide +kernel
theorem dX5_join_55 : decode cX5_join 55 = .ok (.invokespecial 63, 3) := by decide +kernel
theorem dX5_join_58 : decode cX5_join 58 = .ok (.athrow, 1) := by decide +kernel
theorem dX5_join_59 : decode cX5_join 59 = .ok (.aload_n 0, 1) := by decide +kernel
theorem dX5_join_60 : decode cX5_join 60 = .ok (.getfield 38, 3) := by decide +kernel
theorem dX5_join_63 : decode cX5_join 63 = .ok (.iload_n 1, 1) := by decide +kernel
theorem dX5_join_64 : decode cX5_join 64 = .ok (.aaload, 1) := by decide +kernel
theorem dX5_join_65 : decode cX5_join 65 = .ok (.astore_n 2, 1) := by decide +kernel
theorem dX5_join_66 : decode cX5_join 66 = .ok (.aload_n 0, 1) := by decide +kernel
theorem dX5_join_67 : decode cX5_join 67 = .ok (.getfield 38, 3) := by decide +kernel
theorem dX5_join_70 : decode cX5_join 70 = .ok (.iload_n 1, 1) := by decide +kernel
theorem dX5_join_71 : decode cX5_join 71 = .ok (.iconst 1, 1) := by decide +kernel
theorem dX5_join_72 : decode cX5_join 72 = .ok (.iadd, 1) := by decide +kernel
theorem dX5_join_73 : decode cX5_join 73 = .ok (.aaload, 1) := by decide +kernel
theorem dX5_join_74 : decode cX5_join 74 = .ok (.astore_n 3, 1) := by decide +kernel
theorem dX5_join_75 : decode cX5_join 75 = .ok (.aload_n 2, 1) := by decide +kernel
theorem dX5_join_76 : decode cX5_join 76 = .ok (.aload_n 3, 1) := by decide +kernel
theorem dX5_join_77 : decode cX5_join 77 = .ok (.getfield 171, 3) := by decide +kernel
theorem dX5_join_80 : decode cX5_join 80 = .ok (.putfield 171, 3) := by decide +kernel
theorem dX5_join_83 : decode cX5_join 83 = .ok (.aload_n 2, 1) := by decide +kernel
theorem dX5_join_84 : decode cX5_join 84 = .ok (.dup, 1) := by decide +kernel
theorem dX5_join_85 : decode cX5_join 85 = .ok (.getfield 174, 3) := by decide +kernel
theorem dX5_join_88 : decode cX5_join 88 = .ok (.aload_n 3, 1) := by decide +kernel
theorem dX5_join_89 : decode cX5_join 89 = .ok (.getfield 174, 3) := by decide +kernel
theorem dX5_join_92 : decode cX5_join 92 = .ok (.iadd, 1) := by decide +kernel
theorem dX5_join_93 : decode cX5_join 93 = .ok (.putfield 174, 3) := by decide +kernel
theorem dX5_join_96 : decode cX5_join 96 = .ok (.aload_n 2, 1) := by decide +kernel
theorem dX5_join_97 : decode cX5_join 97 = .ok (.dup, 1) := by decide +kernel
theorem dX5_join_98 : decode cX5_join 98 = .ok (.getfield 142, 3) := by decide +kernel
theorem dX5_join_101 : decode cX5_join 101 = .ok (.aload_n 3, 1) := by decide +kernel
theorem dX5_join_102 : decode cX5_join 102 = .ok (.getfield 142, 3) := by decide +kernel
theorem dX5_join_105 : decode cX5_join 105 = .ok (.iadd, 1) := by decide +kernel
theorem dX5_join_106 : decode cX5_join 106 = .ok (.putfield 142, 3) := by decide +kernel
theorem dX5_join_109 : decode cX5_join 109 = .ok (.aload_n 0, 1) := by decide +kernel
theorem dX5_join_110 : decode cX5_join 110 = .ok (.dup, 1) := by decide +kernel
theorem dX5_join_111 : decode cX5_join 111 = .ok (.getfield 45, 3) := by decide +kernel
theorem dX5_join_114 : decode cX5_join 114 = .ok (.iconst 1, 1) := by decide +kernel
theorem dX5_join_115 : decode cX5_join 115 = .ok (.isub, 1) := by decide +kernel
theorem dX5_join_116 : decode cX5_join 116 = .ok (.putfield 45, 3) := by decide +kernel
theorem dX5_join_119 : decode cX5_join 119 = .ok (.iload_n 1, 1) := by decide +kernel
theorem dX5_join_120 : decode cX5_join 120 = .ok (.iconst 1, 1) := by decide +kernel
theorem dX5_join_121 : decode cX5_join 121 = .ok (.iadd, 1) := by decide +kernel
theorem dX5_join_122 : decode cX5_join 122 = .ok (.istore 4, 2) := by decide +kernel
theorem dX5_join_124 : decode cX5_join 124 = .ok (.iload 4, 2) := by decide +kernel
theorem dX5_join_126 : decode cX5_join 126 = .ok (.aload_n 0, 1) := by decide +kernel
theorem dX5_join_127 : decode cX5_join 127 = .ok (.getfield 45, 3) := by decide +kernel
theorem dX5_join_130 : decode cX5_join 130 = .ok (.if_icmp .ge 25, 3) := by decide +kernel
theorem dX5_join_133 : decode cX5_join 133 = .ok (.aload_n 0, 1) := by decide +kernel
theorem dX5_join_134 : decode cX5_join 134 = .ok (.getfield 38, 3) := by decide +kernel
theorem dX5_join_137 : decode cX5_join 137 = .ok (.iload 4, 2) := by decide +kernel
theorem dX5_join_139 : decode cX5_join 139 = .ok (.aload_n 0, 1) := by decide +kernel
theorem dX5_join_140 : decode cX5_join 140 = .ok (.getfield 38, 3) := by decide +kernel
theorem dX5_join_143 : decode cX5_join 143 = .ok (.iload 4, 2) := by decide +kernel
theorem dX5_join_145 : decode cX5_join 145 = .ok (.iconst 1, 1) := by decide +kernel
theorem dX5_join_146 : decode cX5_join 146 = .ok (.iadd, 1) := by decide +kernel
theorem dX5_join_147 : decode cX5_join 147 = .ok (.aaload, 1) := by decide +kernel
theorem dX5_join_148 : decode cX5_join 148 = .ok (.aastore, 1) := by decide +kernel
theorem dX5_join_149 : decode cX5_join 149 = .ok (.iinc 4 1, 3) := by decide +kernel
theorem dX5_join_152 : decode cX5_join 152 = .ok (.goto (-28), 3) := by decide +kernel
theorem dX5_join_155 : decode cX5_join 155 = .ok (.aload_n 0, 1) := by decide +kernel
theorem dX5_join_156 : decode cX5_join 156 = .ok (.getfield 38, 3) := by decide +kernel
theorem dX5_join_159 : decode cX5_join 159 = .ok (.aload_n 0, 1) := by decide +kernel
theorem dX5_join_160 : decode cX5_join 160 = .ok (.getfield 45, 3) := by decide +kernel
theorem dX5_join_163 : decode cX5_join 163 = .ok (.aload_n 3, 1) := by decide +kernel
theorem dX5_join_164 : decode cX5_join 164 = .ok (.aastore, 1) := by decide +kernel
theorem dX5_join_165 : decode cX5_join 165 = .ok (.aload_n 0, 1) := by decide +kernel
theorem dX5_join_166 : decode cX5_join 166 = .ok (.getfield 45, 3) := by decide +kernel
theorem dX5_join_169 : decode cX5_join 169 = .ok (.ireturn, 1) := by decide +kernel
set_option maxRecDepth 20000 in
theorem ggX5_move_X5_isShard : GoodIn wsX5_move wsX5_isShard := goodIn_r _ [11, 12, 30, 31, 32, 33, 34, 35, 36, 37, 38, 39, 40, 41, 42, 43, 44] (by decide +kernel) (by decide +kernel)
set_option maxRecDepth 20000 in
theorem gX5_move_X5_isShard : GoodIn wsX5_move (wsV RX5 160 RX5 yX5_isShard wsX5_isShard) := goodIn_app (goodIn_of _ (by decide +kernel)) ggX5_move_X5_isShard
set_option maxRecDepth 20000 in
theorem ggX5_move_X5_isMachine : GoodIn wsX5_move wsX5_isMachine := goodIn_r _ [16, 17, 30, 31, 32, 33, 34, 35, 36, 37, 38, 39, 40, 41, 42, 43, 44] (by decide +kernel) (by decide +kernel)
set_option maxRecDepth 20000 in
theorem gX5_move_X5_isMachine : GoodIn wsX5_move (wsV RX5 77 RX5 yX5_isMachine wsX5_isMachine) := goodIn_app (goodIn_of _ (by decide +kernel)) ggX5_move_X5_isMachine
set_option maxRecDepth 20000 in
theorem ggX5_move_X3_isMoving : GoodIn wsX5_move wsX3_isMoving := goodIn_r _ [21, 22, 45, 46, 47, 48, 49, 50, 51, 52, 53, 54, 55, 56, 57] (by decide +kernel) (by decide +kernel)
set_option maxRecDepth 20000 in
theorem gX5_move_X3_isMoving_n150 : GoodIn wsX5_move (wsX3_isMoving) := ggX5_move_X3_isMoving
set_option maxRecDepth 20000 in
theorem ggX5_move_X3_aimAt : GoodIn wsX5_move wsX3_aimAt := goodIn_r _ [25, 22, 26, 27, 28, 29, 45, 46, 47, 48, 49, 50, 51, 52, 53] (by decide +kernel) (by decide +kernel)
set_option maxRecDepth 20000 in
theorem gX5_move_X3_aimAt_n179 : GoodIn wsX5_move (wsX3_aimAt) := ggX5_move_X3_aimAt
theorem dX5_move_0 : decode cX5_move 0 = .ok (.aload_n 0, 1) := by decide +kernel
theorem dX5_move_1 : decode cX5_move 1 = .ok (.iload_n 1, 1) := by decide +kernel
theorem dX5_move_2 : decode cX5_move 2 = .ok (.invokevirtual 160, 3) := by decide +kernel
theorem dX5_move_5 : decode cX5_move 5 = .ok (.ifCond .eq 11, 3) := by decide +kernel
theorem dX5_move_8 : decode cX5_move 8 = .ok (.aload_n 0, 1) := by decide +kernel
theorem dX5_move_9 : decode cX5_move 9 = .ok (.iload_n 2, 1) := by decide +kernel
theorem dX5_move_10 : decode cX5_move 10 = .ok (.invokevirtual 77, 3) := by decide +kernel
theorem dX5_move_13 : decode cX5_move 13 = .ok (.ifCond .ne 13, 3) := by decide +kernel
theorem dX5_move_16 : decode cX5_move 16 = .ok (.new 81, 3) := by decide +kernel
theorem dX5_move_19 : decode cX5_move 19 = .ok (.dup, 1) := by decide +kernel
theorem dX5_move_20 : decode cX5_move 20 = .ok (.ldc 175, 2) := by decide +kernel
theorem dX5_move_22 : decode cX5_move 22 = .ok (.invokespecial 85, 3) := by decide +kernel
theorem dX5_move_25 : decode cX5_move 25 = .ok (.athrow, 1) := by decide +kernel
theorem dX5_move_26 : decode cX5_move 26 = .ok (.aload_n 0, 1) := by decide +kernel
theorem dX5_move_27 : decode cX5_move 27 = .ok (.getfield 38, 3) := by decide +kernel
theorem dX5_move_30 : decode cX5_move 30 = .ok (.iload_n 1, 1) := by decide +kernel
theorem dX5_move_31 : decode cX5_move 31 = .ok (.aaload, 1) := by decide +kernel
theorem dX5_move_32 : decode cX5_move 32 = .ok (.astore_n 3, 1) := by decide +kernel
theorem dX5_move_33 : decode cX5_move 33 = .ok (.aload_n 0, 1) := by decide +kernel
theorem dX5_move_34 : decode cX5_move 34 = .ok (.getfield 32, 3) := by decide +kernel
theorem dX5_move_37 : decode cX5_move 37 = .ok (.iload_n 2, 1) := by decide +kernel
theorem dX5_move_38 : decode cX5_move 38 = .ok (.aaload, 1) := by decide +kernel
theorem dX5_move_39 : decode cX5_move 39 = .ok (.astore 4, 2) := by decide +kernel
theorem dX5_move_41 : decode cX5_move 41 = .ok (.aload_n 3, 1) := by decide +kernel
theorem dX5_move_42 : decode cX5_move 42 = .ok (.getfield 117, 3) := by decide +kernel
theorem dX5_move_45 : decode cX5_move 45 = .ok (.aload 4, 2) := by decide +kernel
theorem dX5_move_47 : decode cX5_move 47 = .ok (.if_acmp .eq 28, 3) := by decide +kernel
theorem dX5_move_50 : decode cX5_move 50 = .ok (.aload_n 3, 1) := by decide +kernel
theorem dX5_move_51 : decode cX5_move 51 = .ok (.invokevirtual 150, 3) := by decide +kernel
theorem dX5_move_54 : decode cX5_move 54 = .ok (.ifCond .ne 21, 3) := by decide +kernel
theorem dX5_move_57 : decode cX5_move 57 = .ok (.aload_n 3, 1) := by decide +kernel
theorem dX5_move_58 : decode cX5_move 58 = .ok (.getfield 117, 3) := by decide +kernel
theorem dX5_move_61 : decode cX5_move 61 = .ok (.getfield 67, 3) := by decide +kernel
theorem dX5_move_64 : decode cX5_move 64 = .ok (.ifCond .eq 11, 3) := by decide +kernel
theorem dX5_move_67 : decode cX5_move 67 = .ok (.aload 4, 2) := by decide +kernel
theorem dX5_move_69 : decode cX5_move 69 = .ok (.getfield 67, 3) := by decide +kernel
theorem dX5_move_72 : decode cX5_move 72 = .ok (.ifCond .ne 13, 3) := by decide +kernel
theorem dX5_move_75 : decode cX5_move 75 = .ok (.new 59, 3) := by decide +kernel
theorem dX5_move_78 : decode cX5_move 78 = .ok (.dup, 1) := by decide +kernel
theorem dX5_move_79 : decode cX5_move 79 = .ok (.ldc 177, 2) := by decide +kernel
theorem dX5_move_81 : decode cX5_move 81 = .ok (.invokespecial 63, 3) := by decide +kernel
theorem dX5_move_84 : decode cX5_move 84 = .ok (.athrow, 1) := by decide +kernel
theorem dX5_move_85 : decode cX5_move 85 = .ok (.aload_n 3, 1) := by decide +kernel
theorem dX5_move_86 : decode cX5_move 86 = .ok (.aload 4, 2) := by decide +kernel
theorem dX5_move_88 : decode cX5_move 88 = .ok (.invokevirtual 179, 3) := by decide +kernel
theorem dX5_move_91 : decode cX5_move 91 = .ok (.aload_n 3, 1) := by decide +kernel
theorem dX5_move_92 : decode cX5_move 92 = .ok (.getfield 174, 3) := by decide +kernel
theorem dX5_move_95 : decode cX5_move 95 = .ok (.ireturn, 1) := by decide +kernel
set_option maxRecDepth 20000 in
theorem ggX5_callOff_X5_isShard : GoodIn wsX5_callOff wsX5_isShard := goodIn_r _ [10, 11, 30, 31, 32, 33, 34, 35, 36, 37, 38, 39, 40, 41, 42, 43, 44] (by decide +kernel) (by decide +kernel)
set_option maxRecDepth 20000 in
theorem gX5_callOff_X5_isShard : GoodIn wsX5_callOff (wsV RX5 160 RX5 yX5_isShard wsX5_isShard) := goodIn_app (goodIn_of _ (by decide +kernel)) ggX5_callOff_X5_isShard
set_option maxRecDepth 20000 in
theorem ggX5_callOff_X3_isMoving : GoodIn wsX5_callOff wsX3_isMoving := goodIn_r _ [15, 16, 45, 46, 47, 48, 49, 50, 51, 52, 53, 54, 55, 56, 57] (by decide +kernel) (by decide +kernel)
set_option maxRecDepth 20000 in
theorem gX5_callOff_X3_isMoving_n150 : GoodIn wsX5_callOff (wsX3_isMoving) := ggX5_callOff_X3_isMoving
set_option maxRecDepth 20000 in
theorem ggX5_callOff_X5_failMove : GoodIn wsX5_callOff wsX5_failMove := goodIn_r _ [20, 21, 22, 23, 13, 24, 25, 16, 26, 27, 28, 29, 45, 46, 47, 48, 49, 50, 51, 52, 53, 54, 55, 56, 57, 30, 31, 32, 33, 34, 35, 36, 37, 38, 39, 40, 41, 42, 43, 44] (by decide +kernel) (by decide +kernel)
set_option maxRecDepth 20000 in
theorem gX5_callOff_X5_failMove : GoodIn wsX5_callOff (wsV RX5 187 RX5 yX5_failMove wsX5_failMove) := goodIn_app (goodIn_of _ (by decide +kernel)) ggX5_callOff_X5_failMove
theorem dX5_callOff_0 : decode cX5_callOff 0 = .ok (.aload_n 0, 1) := by decide +kernel
theorem dX5_callOff_1 : decode cX5_callOff 1 = .ok (.iload_n 1, 1) := by decide +kernel
theorem dX5_callOff_2 : decode cX5_callOff 2 = .ok (.invokevirtual 160, 3) := by decide +kernel
theorem dX5_callOff_5 : decode cX5_callOff 5 = .ok (.ifCond .ne 13, 3) := by decide +kernel
theorem dX5_callOff_8 : decode cX5_callOff 8 = .ok (.new 81, 3) := by decide +kernel
theorem dX5_callOff_11 : decode cX5_callOff 11 = .ok (.dup, 1) := by decide +kernel
theorem dX5_callOff_12 : decode cX5_callOff 12 = .ok (.ldc 163, 2) := by decide +kernel
theorem dX5_callOff_14 : decode cX5_callOff 14 = .ok (.invokespecial 85, 3) := by decide +kernel
theorem dX5_callOff_17 : decode cX5_callOff 17 = .ok (.athrow, 1) := by decide +kernel
theorem dX5_callOff_18 : decode cX5_callOff 18 = .ok (.aload_n 0, 1) := by decide +kernel
theorem dX5_callOff_19 : decode cX5_callOff 19 = .ok (.getfield 38, 3) := by decide +kernel
theorem dX5_callOff_22 : decode cX5_callOff 22 = .ok (.iload_n 1, 1) := by decide +kernel
theorem dX5_callOff_23 : decode cX5_callOff 23 = .ok (.aaload, 1) := by decide +kernel
theorem dX5_callOff_24 : decode cX5_callOff 24 = .ok (.invokevirtual 150, 3) := by decide +kernel
theorem dX5_callOff_27 : decode cX5_callOff 27 = .ok (.ifCond .ne 13, 3) := by decide +kernel
theorem dX5_callOff_30 : decode cX5_callOff 30 = .ok (.new 59, 3) := by decide +kernel
theorem dX5_callOff_33 : decode cX5_callOff 33 = .ok (.dup, 1) := by decide +kernel
theorem dX5_callOff_34 : decode cX5_callOff 34 = .ok (.ldc 182, 2) := by decide +kernel
theorem dX5_callOff_36 : decode cX5_callOff 36 = .ok (.invokespecial 63, 3) := by decide +kernel
theorem dX5_callOff_39 : decode cX5_callOff 39 = .ok (.athrow, 1) := by decide +kernel
theorem dX5_callOff_40 : decode cX5_callOff 40 = .ok (.aload_n 0, 1) := by decide +kernel
theorem dX5_callOff_41 : decode cX5_callOff 41 = .ok (.getfield 38, 3) := by decide +kernel
theorem dX5_callOff_44 : decode cX5_callOff 44 = .ok (.iload_n 1, 1) := by decide +kernel
theorem dX5_callOff_45 : decode cX5_callOff 45 = .ok (.aaload, 1) := by decide +kernel
theorem dX5_callOff_46 : decode cX5_callOff 46 = .ok (.getfield 184, 3) := by decide +kernel
theorem dX5_callOff_49 : decode cX5_callOff 49 = .ok (.istore_n 2, 1) := by decide +kernel
theorem dX5_callOff_50 : decode cX5_callOff 50 = .ok (.aload_n 0, 1) := by decide +kernel
theorem dX5_callOff_51 : decode cX5_callOff 51 = .ok (.aload_n 0, 1) := by decide +kernel
theorem dX5_callOff_52 : decode cX5_callOff 52 = .ok (.getfield 38, 3) := by decide +kernel
theorem dX5_callOff_55 : decode cX5_callOff 55 = .ok (.iload_n 1, 1) := by decide +kernel
theorem dX5_callOff_56 : decode cX5_callOff 56 = .ok (.aaload, 1) := by decide +kernel
theorem dX5_callOff_57 : decode cX5_callOff 57 = .ok (.invokevirtual 187, 3) := by decide +kernel
theorem dX5_callOff_60 : decode cX5_callOff 60 = .ok (.iload_n 2, 1) := by decide +kernel
theorem dX5_callOff_61 : decode cX5_callOff 61 = .ok (.ireturn, 1) := by decide +kernel
set_option maxRecDepth 20000 in
theorem ggX5_pass_X5_passOneHour : GoodIn wsX5_pass wsX5_passOneHour := goodIn_r _ [10, 5, 11, 12, 13, 14, 15, 16, 17, 18, 19, 20, 21, 22, 9, 23, 24, 25, 26, 27, 28, 29, 30, 31, 32, 33, 34, 35, 36, 37, 38, 39, 40, 41, 42, 43, 44, 45, 46, 47, 48, 49, 50, 51, 52, 53, 54, 55, 56, 57, 58, 59, 60, 61, 62, 63, 64, 65, 66, 67, 68, 69, 70, 71, 72, 73, 74, 75, 76, 77, 78, 79, 80, 81, 82, 83, 84, 85, 86, 87, 88, 89, 90, 91, 92, 93, 94, 95, 96, 97, 98, 99, 100, 101, 102, 103, 104, 105, 106, 107, 108, 109, 110, 111, 112, 113, 114, 115, 116, 117, 118, 119, 120, 121, 122, 123, 124, 125, 126, 127, 128, 129] (by decide +kernel) (by decide +kernel)
set_option maxRecDepth 20000 in
theorem gX5_pass_X5_passOneHour : GoodIn wsX5_pass (wsV RX5 198 RX5 yX5_passOneHour wsX5_passOneHour) := goodIn_app (goodIn_of _ (by decide +kernel)) ggX5_pass_X5_passOneHour
theorem dX5_pass_0 : decode cX5_pass 0 = .ok (.iload_n 1, 1) := by decide +kernel
theorem dX5_pass_1 : decode cX5_pass 1 = .ok (.iconst 1, 1) := by decide +kernel
theorem dX5_pass_2 : decode cX5_pass 2 = .ok (.if_icmp .lt 10, 3) := by decide +kernel
theorem dX5_pass_5 : decode cX5_pass 5 = .ok (.iload_n 1, 1) := by decide +kernel
theorem dX5_pass_6 : decode cX5_pass 6 = .ok (.sipush 200, 3) := by decide +kernel
theorem dX5_pass_9 : decode cX5_pass 9 = .ok (.if_icmp .le 13, 3) := by decide +kernel
theorem dX5_pass_12 : decode cX5_pass 12 = .ok (.new 49, 3) := by decide +kernel
theorem dX5_pass_15 : decode cX5_pass 15 = .ok (.dup, 1) := by decide +kernel
theorem dX5_pass_16 : decode cX5_pass 16 = .ok (.ldc 191, 2) := by decide +kernel
theorem dX5_pass_18 : decode cX5_pass 18 = .ok (.invokespecial 53, 3) := by decide +kernel
theorem dX5_pass_21 : decode cX5_pass 21 = .ok (.athrow, 1) := by decide +kernel
theorem dX5_pass_22 : decode cX5_pass 22 = .ok (.aload_n 0, 1) := by decide +kernel
theorem dX5_pass_23 : decode cX5_pass 23 = .ok (.getfield 193, 3) := by decide +kernel
theorem dX5_pass_26 : decode cX5_pass 26 = .ok (.iload_n 1, 1) := by decide +kernel
theorem dX5_pass_27 : decode cX5_pass 27 = .ok (.iadd, 1) := by decide +kernel
theorem dX5_pass_28 : decode cX5_pass 28 = .ok (.sipush 2000, 3) := by decide +kernel
theorem dX5_pass_31 : decode cX5_pass 31 = .ok (.if_icmp .le 13, 3) := by decide +kernel
theorem dX5_pass_34 : decode cX5_pass 34 = .ok (.new 59, 3) := by decide +kernel
theorem dX5_pass_37 : decode cX5_pass 37 = .ok (.dup, 1) := by decide +kernel
theorem dX5_pass_38 : decode cX5_pass 38 = .ok (.ldc 196, 2) := by decide +kernel
theorem dX5_pass_40 : decode cX5_pass 40 = .ok (.invokespecial 63, 3) := by decide +kernel
theorem dX5_pass_43 : decode cX5_pass 43 = .ok (.athrow, 1) := by decide +kernel
theorem dX5_pass_44 : decode cX5_pass 44 = .ok (.iconst 0, 1) := by decide +kernel
theorem dX5_pass_45 : decode cX5_pass 45 = .ok (.istore_n 2, 1) := by decide +kernel
theorem dX5_pass_46 : decode cX5_pass 46 = .ok (.iload_n 2, 1) := by decide +kernel
theorem dX5_pass_47 : decode cX5_pass 47 = .ok (.iload_n 1, 1) := by decide +kernel
theorem dX5_pass_48 : decode cX5_pass 48 = .ok (.if_icmp .ge 13, 3) := by decide +kernel
theorem dX5_pass_51 : decode cX5_pass 51 = .ok (.aload_n 0, 1) := by decide +kernel
theorem dX5_pass_52 : decode cX5_pass 52 = .ok (.invokevirtual 198, 3) := by decide +kernel
theorem dX5_pass_55 : decode cX5_pass 55 = .ok (.iinc 2 1, 3) := by decide +kernel
theorem dX5_pass_58 : decode cX5_pass 58 = .ok (.goto (-12), 3) := by decide +kernel
theorem dX5_pass_61 : decode cX5_pass 61 = .ok (.aload_n 0, 1) := by decide +kernel
theorem dX5_pass_62 : decode cX5_pass 62 = .ok (.getfield 193, 3) := by decide +kernel
theorem dX5_pass_65 : decode cX5_pass 65 = .ok (.ireturn, 1) := by decide +kernel
theorem dX5_hour_0 : decode cX5_hour 0 = .ok (.aload_n 0, 1) := by decide +kernel
theorem dX5_hour_1 : decode cX5_hour 1 = .ok (.getfield 193, 3) := by decide +kernel
theorem dX5_hour_4 : decode cX5_hour 4 = .ok (.ireturn, 1) := by decide +kernel
theorem dX5_shards_0 : decode cX5_shards 0 = .ok (.aload_n 0, 1) := by decide +kernel
theorem dX5_shards_1 : decode cX5_shards 1 = .ok (.getfield 45, 3) := by decide +kernel
theorem dX5_shards_4 : decode cX5_shards 4 = .ok (.ireturn, 1) := by decide +kernel
set_option maxRecDepth 20000 in
theorem ggX5_shardOf_X5_isKey : GoodIn wsX5_shardOf wsX5_isKey := goodIn_r _ [7] (by decide +kernel) (by decide +kernel)
set_option maxRecDepth 20000 in
theorem gX5_shardOf_X5_isKey : GoodIn wsX5_shardOf (wsV RX5 104 RX5 yX5_isKey wsX5_isKey) := goodIn_app (goodIn_of _ (by decide +kernel)) ggX5_shardOf_X5_isKey
set_option maxRecDepth 20000 in
theorem ggX5_shardOf_X5_numberOfShardWith : GoodIn wsX5_shardOf wsX5_numberOfShardWith := goodIn_r _ [11, 12, 13, 14, 15, 16, 17, 18, 19, 20, 21, 22, 23, 24, 25, 26, 27, 28, 29, 30, 31, 32, 33, 34, 35, 36, 37] (by decide +kernel) (by decide +kernel)
set_option maxRecDepth 20000 in
theorem gX5_shardOf_X5_numberOfShardWith : GoodIn wsX5_shardOf (wsV RX5 109 RX5 yX5_numberOfShardWith wsX5_numberOfShardWith) := goodIn_app (goodIn_of _ (by decide +kernel)) ggX5_shardOf_X5_numberOfShardWith
theorem dX5_shardOf_0 : decode cX5_shardOf 0 = .ok (.aload_n 0, 1) := by decide +kernel
theorem dX5_shardOf_1 : decode cX5_shardOf 1 = .ok (.iload_n 1, 1) := by decide +kernel
theorem dX5_shardOf_2 : decode cX5_shardOf 2 = .ok (.invokevirtual 104, 3) := by decide +kernel
theorem dX5_shardOf_5 : decode cX5_shardOf 5 = .ok (.ifCond .ne 13, 3) := by decide +kernel
theorem dX5_shardOf_8 : decode cX5_shardOf 8 = .ok (.new 81, 3) := by decide +kernel
theorem dX5_shardOf_11 : decode cX5_shardOf 11 = .ok (.dup, 1) := by decide +kernel
theorem dX5_shardOf_12 : decode cX5_shardOf 12 = .ok (.ldc 136, 2) := by decide +kernel
theorem dX5_shardOf_14 : decode cX5_shardOf 14 = .ok (.invokespecial 85, 3) := by decide +kernel
theorem dX5_shardOf_17 : decode cX5_shardOf 17 = .ok (.athrow, 1) := by decide +kernel
theorem dX5_shardOf_18 : decode cX5_shardOf 18 = .ok (.aload_n 0, 1) := by decide +kernel
theorem dX5_shardOf_19 : decode cX5_shardOf 19 = .ok (.iload_n 1, 1) := by decide +kernel
theorem dX5_shardOf_20 : decode cX5_shardOf 20 = .ok (.invokevirtual 109, 3) := by decide +kernel
theorem dX5_shardOf_23 : decode cX5_shardOf 23 = .ok (.ireturn, 1) := by decide +kernel
set_option maxRecDepth 20000 in
theorem ggX5_shard_X5_isShard : GoodIn wsX5_shard wsX5_isShard := goodIn_r _ [10, 11, 12, 13, 14, 15, 16, 17, 18, 19, 20, 21, 22, 23, 24, 25, 26] (by decide +kernel) (by decide +kernel)
set_option maxRecDepth 20000 in
theorem gX5_shard_X5_isShard : GoodIn wsX5_shard (wsV RX5 160 RX5 yX5_isShard wsX5_isShard) := goodIn_app (goodIn_of _ (by decide +kernel)) ggX5_shard_X5_isShard
theorem dX5_shard_0 : decode cX5_shard 0 = .ok (.aload_n 0, 1) := by decide +kernel
theorem dX5_shard_1 : decode cX5_shard 1 = .ok (.iload_n 1, 1) := by decide +kernel
theorem dX5_shard_2 : decode cX5_shard 2 = .ok (.invokevirtual 160, 3) := by decide +kernel
theorem dX5_shard_5 : decode cX5_shard 5 = .ok (.ifCond .ne 13, 3) := by decide +kernel
theorem dX5_shard_8 : decode cX5_shard 8 = .ok (.new 81, 3) := by decide +kernel
theorem dX5_shard_11 : decode cX5_shard 11 = .ok (.dup, 1) := by decide +kernel
theorem dX5_shard_12 : decode cX5_shard 12 = .ok (.ldc 163, 2) := by decide +kernel
theorem dX5_shard_14 : decode cX5_shard 14 = .ok (.invokespecial 85, 3) := by decide +kernel
theorem dX5_shard_17 : decode cX5_shard 17 = .ok (.athrow, 1) := by decide +kernel
theorem dX5_shard_18 : decode cX5_shard 18 = .ok (.aload_n 0, 1) := by decide +kernel
theorem dX5_shard_19 : decode cX5_shard 19 = .ok (.getfield 38, 3) := by decide +kernel
theorem dX5_shard_22 : decode cX5_shard 22 = .ok (.iload_n 1, 1) := by decide +kernel
theorem dX5_shard_23 : decode cX5_shard 23 = .ok (.aaload, 1) := by decide +kernel
theorem dX5_shard_24 : decode cX5_shard 24 = .ok (.astore_n 3, 1) := by decide +kernel
theorem dX5_shard_25 : decode cX5_shard 25 = .ok (.iload_n 2, 1) := by decide +kernel
theorem dX5_shard_26 : decode cX5_shard 26 = .ok (.tableswitch 83 0 6 #[42, 47, 52, 60, 68, 73, 78], 42) := by decide +kernel
theorem dX5_shard_68 : decode cX5_shard 68 = .ok (.aload_n 3, 1) := by decide +kernel
theorem dX5_shard_69 : decode cX5_shard 69 = .ok (.getfield 147, 3) := by decide +kernel
theorem dX5_shard_72 : decode cX5_shard 72 = .ok (.ireturn, 1) := by decide +kernel
theorem dX5_shard_73 : decode cX5_shard 73 = .ok (.aload_n 3, 1) := by decide +kernel
theorem dX5_shard_74 : decode cX5_shard 74 = .ok (.getfield 171, 3) := by decide +kernel
theorem dX5_shard_77 : decode cX5_shard 77 = .ok (.ireturn, 1) := by decide +kernel
theorem dX5_shard_78 : decode cX5_shard 78 = .ok (.aload_n 3, 1) := by decide +kernel
theorem dX5_shard_79 : decode cX5_shard 79 = .ok (.getfield 117, 3) := by decide +kernel
theorem dX5_shard_82 : decode cX5_shard 82 = .ok (.getfield 71, 3) := by decide +kernel
theorem dX5_shard_85 : decode cX5_shard 85 = .ok (.ireturn, 1) := by decide +kernel
theorem dX5_shard_86 : decode cX5_shard 86 = .ok (.aload_n 3, 1) := by decide +kernel
theorem dX5_shard_87 : decode cX5_shard 87 = .ok (.getfield 201, 3) := by decide +kernel
theorem dX5_shard_90 : decode cX5_shard 90 = .ok (.getfield 71, 3) := by decide +kernel
theorem dX5_shard_93 : decode cX5_shard 93 = .ok (.ireturn, 1) := by decide +kernel
theorem dX5_shard_94 : decode cX5_shard 94 = .ok (.aload_n 3, 1) := by decide +kernel
theorem dX5_shard_95 : decode cX5_shard 95 = .ok (.getfield 174, 3) := by decide +kernel
theorem dX5_shard_98 : decode cX5_shard 98 = .ok (.ireturn, 1) := by decide +kernel
theorem dX5_shard_99 : decode cX5_shard 99 = .ok (.aload_n 3, 1) := by decide +kernel
theorem dX5_shard_100 : decode cX5_shard 100 = .ok (.getfield 184, 3) := by decide +kernel
theorem dX5_shard_103 : decode cX5_shard 103 = .ok (.ireturn, 1) := by decide +kernel
theorem dX5_shard_104 : decode cX5_shard 104 = .ok (.aload_n 3, 1) := by decide +kernel
theorem dX5_shard_105 : decode cX5_shard 105 = .ok (.getfield 142, 3) := by decide +kernel
theorem dX5_shard_108 : decode cX5_shard 108 = .ok (.ireturn, 1) := by decide +kernel
theorem dX5_shard_109 : decode cX5_shard 109 = .ok (.new 49, 3) := by decide +kernel
theorem dX5_shard_112 : decode cX5_shard 112 = .ok (.dup, 1) := by decide +kernel
theorem dX5_shard_113 : decode cX5_shard 113 = .ok (.ldc 204, 2) := by decide +kernel
theorem dX5_shard_115 : decode cX5_shard 115 = .ok (.invokespecial 53, 3) := by decide +kernel
theorem dX5_shard_118 : decode cX5_shard 118 = .ok (.athrow, 1) := by decide +kernel
set_option maxRecDepth 20000 in
theorem ggX5_machineOf_X5_isMachine : GoodIn wsX5_machineOf wsX5_isMachine := goodIn_r _ [10, 11, 22, 23, 24, 25, 26, 27, 28, 29, 30, 31, 32, 33, 34, 35, 36] (by decide +kernel) (by decide +kernel)
set_option maxRecDepth 20000 in
theorem gX5_machineOf_X5_isMachine : GoodIn wsX5_machineOf (wsV RX5 77 RX5 yX5_isMachine wsX5_isMachine) := goodIn_app (goodIn_of _ (by decide +kernel)) ggX5_machineOf_X5_isMachine
set_option maxRecDepth 20000 in
theorem ggX5_machineOf_X5_heatOf : GoodIn wsX5_machineOf wsX5_heatOf := goodIn_r _ [15, 16, 17, 22, 23, 24, 25, 26, 27, 28, 29, 30, 31, 32, 33, 34, 35, 36, 41, 42, 43, 44, 45, 46, 47, 48, 49] (by decide +kernel) (by decide +kernel)
set_option maxRecDepth 20000 in
theorem gX5_machineOf_X5_heatOf : GoodIn wsX5_machineOf (wsV RX5 209 RX5 yX5_heatOf wsX5_heatOf) := goodIn_app (goodIn_of _ (by decide +kernel)) ggX5_machineOf_X5_heatOf
set_option maxRecDepth 20000 in
theorem ggX5_machineOf_X5_shardCountOn : GoodIn wsX5_machineOf wsX5_shardCountOn := goodIn_r _ [21, 16, 17, 22, 23, 24, 25, 26, 27, 28, 29, 30, 31, 32, 33, 34, 35, 36, 41, 42, 43, 44, 45, 46, 47, 48, 49] (by decide +kernel) (by decide +kernel)
set_option maxRecDepth 20000 in
theorem gX5_machineOf_X5_shardCountOn : GoodIn wsX5_machineOf (wsV RX5 213 RX5 yX5_shardCountOn wsX5_shardCountOn) := goodIn_app (goodIn_of _ (by decide +kernel)) ggX5_machineOf_X5_shardCountOn
theorem dX5_machineOf_0 : decode cX5_machineOf 0 = .ok (.aload_n 0, 1) := by decide +kernel
theorem dX5_machineOf_1 : decode cX5_machineOf 1 = .ok (.iload_n 1, 1) := by decide +kernel
theorem dX5_machineOf_2 : decode cX5_machineOf 2 = .ok (.invokevirtual 77, 3) := by decide +kernel
theorem dX5_machineOf_5 : decode cX5_machineOf 5 = .ok (.ifCond .ne 13, 3) := by decide +kernel
theorem dX5_machineOf_8 : decode cX5_machineOf 8 = .ok (.new 81, 3) := by decide +kernel
theorem dX5_machineOf_11 : decode cX5_machineOf 11 = .ok (.dup, 1) := by decide +kernel
theorem dX5_machineOf_12 : decode cX5_machineOf 12 = .ok (.ldc 83, 2) := by decide +kernel
theorem dX5_machineOf_14 : decode cX5_machineOf 14 = .ok (.invokespecial 85, 3) := by decide +kernel
theorem dX5_machineOf_17 : decode cX5_machineOf 17 = .ok (.athrow, 1) := by decide +kernel
theorem dX5_machineOf_18 : decode cX5_machineOf 18 = .ok (.aload_n 0, 1) := by decide +kernel
theorem dX5_machineOf_19 : decode cX5_machineOf 19 = .ok (.getfield 32, 3) := by decide +kernel
theorem dX5_machineOf_22 : decode cX5_machineOf 22 = .ok (.iload_n 1, 1) := by decide +kernel
theorem dX5_machineOf_23 : decode cX5_machineOf 23 = .ok (.aaload, 1) := by decide +kernel
theorem dX5_machineOf_24 : decode cX5_machineOf 24 = .ok (.astore_n 3, 1) := by decide +kernel
theorem dX5_machineOf_25 : decode cX5_machineOf 25 = .ok (.iload_n 2, 1) := by decide +kernel
theorem dX5_machineOf_26 : decode cX5_machineOf 26 = .ok (.tableswitch 60 0 3 #[30, 35, 48, 54], 30) := by decide +kernel
theorem dX5_machineOf_56 : decode cX5_machineOf 56 = .ok (.aload_n 3, 1) := by decide +kernel
theorem dX5_machineOf_57 : decode cX5_machineOf 57 = .ok (.getfield 206, 3) := by decide +kernel
theorem dX5_machineOf_60 : decode cX5_machineOf 60 = .ok (.ireturn, 1) := by decide +kernel
theorem dX5_machineOf_61 : decode cX5_machineOf 61 = .ok (.aload_n 3, 1) := by decide +kernel
theorem dX5_machineOf_62 : decode cX5_machineOf 62 = .ok (.getfield 67, 3) := by decide +kernel
theorem dX5_machineOf_65 : decode cX5_machineOf 65 = .ok (.ifCond .eq 7, 3) := by decide +kernel
theorem dX5_machineOf_68 : decode cX5_machineOf 68 = .ok (.iconst 1, 1) := by decide +kernel
theorem dX5_machineOf_69 : decode cX5_machineOf 69 = .ok (.goto 4, 3) := by decide +kernel
theorem dX5_machineOf_72 : decode cX5_machineOf 72 = .ok (.iconst 0, 1) := by decide +kernel
theorem dX5_machineOf_73 : decode cX5_machineOf 73 = .ok (.ireturn, 1) := by decide +kernel
theorem dX5_machineOf_74 : decode cX5_machineOf 74 = .ok (.aload_n 0, 1) := by decide +kernel
theorem dX5_machineOf_75 : decode cX5_machineOf 75 = .ok (.aload_n 3, 1) := by decide +kernel
theorem dX5_machineOf_76 : decode cX5_machineOf 76 = .ok (.invokevirtual 209, 3) := by decide +kernel
theorem dX5_machineOf_79 : decode cX5_machineOf 79 = .ok (.ireturn, 1) := by decide +kernel
theorem dX5_machineOf_80 : decode cX5_machineOf 80 = .ok (.aload_n 0, 1) := by decide +kernel
theorem dX5_machineOf_81 : decode cX5_machineOf 81 = .ok (.aload_n 3, 1) := by decide +kernel
theorem dX5_machineOf_82 : decode cX5_machineOf 82 = .ok (.invokevirtual 213, 3) := by decide +kernel
theorem dX5_machineOf_85 : decode cX5_machineOf 85 = .ok (.ireturn, 1) := by decide +kernel
theorem dX5_machineOf_86 : decode cX5_machineOf 86 = .ok (.new 49, 3) := by decide +kernel
theorem dX5_machineOf_89 : decode cX5_machineOf 89 = .ok (.dup, 1) := by decide +kernel
theorem dX5_machineOf_90 : decode cX5_machineOf 90 = .ok (.ldc 204, 2) := by decide +kernel
theorem dX5_machineOf_92 : decode cX5_machineOf 92 = .ok (.invokespecial 53, 3) := by decide +kernel
theorem dX5_machineOf_95 : decode cX5_machineOf 95 = .ok (.athrow, 1) := by decide +kernel
set_option maxRecDepth 20000 in
theorem ggX5_tenant_X5_isTenant : GoodIn wsX5_tenant wsX5_isTenant := goodIn_r _ [10] (by decide +kernel) (by decide +kernel)
set_option maxRecDepth 20000 in
theorem gX5_tenant_X5_isTenant : GoodIn wsX5_tenant (wsV RX5 89 RX5 yX5_isTenant wsX5_isTenant) := goodIn_app (goodIn_of _ (by decide +kernel)) ggX5_tenant_X5_isTenant
theorem dX5_tenant_0 : decode cX5_tenant 0 = .ok (.aload_n 0, 1) := by decide +kernel
theorem dX5_tenant_1 : decode cX5_tenant 1 = .ok (.iload_n 1, 1) := by decide +kernel
theorem dX5_tenant_2 : decode cX5_tenant 2 = .ok (.invokevirtual 89, 3) := by decide +kernel
theorem dX5_tenant_5 : decode cX5_tenant 5 = .ok (.ifCond .ne 13, 3) := by decide +kernel
theorem dX5_tenant_8 : decode cX5_tenant 8 = .ok (.new 81, 3) := by decide +kernel
theorem dX5_tenant_11 : decode cX5_tenant 11 = .ok (.dup, 1) := by decide +kernel
theorem dX5_tenant_12 : decode cX5_tenant 12 = .ok (.ldc 92, 2) := by decide +kernel
theorem dX5_tenant_14 : decode cX5_tenant 14 = .ok (.invokespecial 85, 3) := by decide +kernel
theorem dX5_tenant_17 : decode cX5_tenant 17 = .ok (.athrow, 1) := by decide +kernel
theorem dX5_tenant_18 : decode cX5_tenant 18 = .ok (.aload_n 0, 1) := by decide +kernel
theorem dX5_tenant_19 : decode cX5_tenant 19 = .ok (.getfield 27, 3) := by decide +kernel
theorem dX5_tenant_22 : decode cX5_tenant 22 = .ok (.iload_n 1, 1) := by decide +kernel
theorem dX5_tenant_23 : decode cX5_tenant 23 = .ok (.aaload, 1) := by decide +kernel
theorem dX5_tenant_24 : decode cX5_tenant 24 = .ok (.astore_n 3, 1) := by decide +kernel
theorem dX5_tenant_25 : decode cX5_tenant 25 = .ok (.iload_n 2, 1) := by decide +kernel
theorem dX5_tenant_26 : decode cX5_tenant 26 = .ok (.tableswitch 41 0 2 #[26, 31, 36], 26) := by decide +kernel
theorem dX5_tenant_52 : decode cX5_tenant 52 = .ok (.aload_n 3, 1) := by decide +kernel
theorem dX5_tenant_53 : decode cX5_tenant 53 = .ok (.getfield 133, 3) := by decide +kernel
theorem dX5_tenant_56 : decode cX5_tenant 56 = .ok (.ireturn, 1) := by decide +kernel
theorem dX5_tenant_57 : decode cX5_tenant 57 = .ok (.aload_n 3, 1) := by decide +kernel
theorem dX5_tenant_58 : decode cX5_tenant 58 = .ok (.getfield 96, 3) := by decide +kernel
theorem dX5_tenant_61 : decode cX5_tenant 61 = .ok (.ireturn, 1) := by decide +kernel
theorem dX5_tenant_62 : decode cX5_tenant 62 = .ok (.aload_n 3, 1) := by decide +kernel
theorem dX5_tenant_63 : decode cX5_tenant 63 = .ok (.getfield 216, 3) := by decide +kernel
theorem dX5_tenant_66 : decode cX5_tenant 66 = .ok (.ireturn, 1) := by decide +kernel
theorem dX5_tenant_67 : decode cX5_tenant 67 = .ok (.new 49, 3) := by decide +kernel
theorem dX5_tenant_70 : decode cX5_tenant 70 = .ok (.dup, 1) := by decide +kernel
theorem dX5_tenant_71 : decode cX5_tenant 71 = .ok (.ldc 204, 2) := by decide +kernel
theorem dX5_tenant_73 : decode cX5_tenant 73 = .ok (.invokespecial 53, 3) := by decide +kernel
theorem dX5_tenant_76 : decode cX5_tenant 76 = .ok (.athrow, 1) := by decide +kernel
set_option maxRecDepth 20000 in
theorem ggX5_billAnew_X5_isTenant : GoodIn wsX5_billAnew wsX5_isTenant := goodIn_r _ [9] (by decide +kernel) (by decide +kernel)
set_option maxRecDepth 20000 in
theorem gX5_billAnew_X5_isTenant : GoodIn wsX5_billAnew (wsV RX5 89 RX5 yX5_isTenant wsX5_isTenant) := goodIn_app (goodIn_of _ (by decide +kernel)) ggX5_billAnew_X5_isTenant
set_option maxRecDepth 20000 in
theorem ggX5_billAnew_X0_moreBytesOf : GoodIn wsX5_billAnew wsX0_moreBytesOf := goodIn_r _ [13, 14, 15, 16, 17, 33, 34, 35, 36, 37, 38] (by decide +kernel) (by decide +kernel)
set_option maxRecDepth 20000 in
theorem gX5_billAnew_X0_moreBytesOf_n223 : GoodIn wsX5_billAnew (wsX0_moreBytesOf) := ggX5_billAnew_X0_moreBytesOf
theorem dX5_billAnew_0 : decode cX5_billAnew 0 = .ok (.aload_n 0, 1) := by decide +kernel
theorem dX5_billAnew_1 : decode cX5_billAnew 1 = .ok (.iload_n 1, 1) := by decide +kernel
theorem dX5_billAnew_2 : decode cX5_billAnew 2 = .ok (.invokevirtual 89, 3) := by decide +kernel
theorem dX5_billAnew_5 : decode cX5_billAnew 5 = .ok (.ifCond .ne 13, 3) := by decide +kernel
theorem dX5_billAnew_8 : decode cX5_billAnew 8 = .ok (.new 81, 3) := by decide +kernel
theorem dX5_billAnew_11 : decode cX5_billAnew 11 = .ok (.dup, 1) := by decide +kernel
theorem dX5_billAnew_12 : decode cX5_billAnew 12 = .ok (.ldc 92, 2) := by decide +kernel
theorem dX5_billAnew_14 : decode cX5_billAnew 14 = .ok (.invokespecial 85, 3) := by decide +kernel
theorem dX5_billAnew_17 : decode cX5_billAnew 17 = .ok (.athrow, 1) := by decide +kernel
theorem dX5_billAnew_18 : decode cX5_billAnew 18 = .ok (.iconst 0, 1) := by decide +kernel
theorem dX5_billAnew_19 : decode cX5_billAnew 19 = .ok (.istore_n 2, 1) := by decide +kernel
theorem dX5_billAnew_20 : decode cX5_billAnew 20 = .ok (.aload_n 0, 1) := by decide +kernel
theorem dX5_billAnew_21 : decode cX5_billAnew 21 = .ok (.getfield 219, 3) := by decide +kernel
theorem dX5_billAnew_24 : decode cX5_billAnew 24 = .ok (.astore_n 3, 1) := by decide +kernel
theorem dX5_billAnew_25 : decode cX5_billAnew 25 = .ok (.aload_n 3, 1) := by decide +kernel
theorem dX5_billAnew_26 : decode cX5_billAnew 26 = .ok (.ifnull 29, 3) := by decide +kernel
theorem dX5_billAnew_29 : decode cX5_billAnew 29 = .ok (.iload_n 2, 1) := by decide +kernel
theorem dX5_billAnew_30 : decode cX5_billAnew 30 = .ok (.aload_n 3, 1) := by decide +kernel
theorem dX5_billAnew_31 : decode cX5_billAnew 31 = .ok (.iload_n 1, 1) := by decide +kernel
theorem dX5_billAnew_32 : decode cX5_billAnew 32 = .ok (.invokevirtual 223, 3) := by decide +kernel
theorem dX5_billAnew_35 : decode cX5_billAnew 35 = .ok (.aload_n 0, 1) := by decide +kernel
theorem dX5_billAnew_36 : decode cX5_billAnew 36 = .ok (.getfield 193, 3) := by decide +kernel
theorem dX5_billAnew_39 : decode cX5_billAnew 39 = .ok (.aload_n 3, 1) := by decide +kernel
theorem dX5_billAnew_40 : decode cX5_billAnew 40 = .ok (.getfield 228, 3) := by decide +kernel
theorem dX5_billAnew_43 : decode cX5_billAnew 43 = .ok (.isub, 1) := by decide +kernel
theorem dX5_billAnew_44 : decode cX5_billAnew 44 = .ok (.imul, 1) := by decide +kernel
theorem dX5_billAnew_45 : decode cX5_billAnew 45 = .ok (.iadd, 1) := by decide +kernel
theorem dX5_billAnew_46 : decode cX5_billAnew 46 = .ok (.istore_n 2, 1) := by decide +kernel
theorem dX5_billAnew_47 : decode cX5_billAnew 47 = .ok (.aload_n 3, 1) := by decide +kernel
theorem dX5_billAnew_48 : decode cX5_billAnew 48 = .ok (.getfield 229, 3) := by decide +kernel
theorem dX5_billAnew_51 : decode cX5_billAnew 51 = .ok (.astore_n 3, 1) := by decide +kernel
theorem dX5_billAnew_52 : decode cX5_billAnew 52 = .ok (.goto (-27), 3) := by decide +kernel
theorem dX5_billAnew_55 : decode cX5_billAnew 55 = .ok (.iload_n 2, 1) := by decide +kernel
theorem dX5_billAnew_56 : decode cX5_billAnew 56 = .ok (.ireturn, 1) := by decide +kernel
set_option maxRecDepth 20000 in
theorem ggX5_whereAnew_X5_isKey : GoodIn wsX5_whereAnew wsX5_isKey := goodIn_r _ [9] (by decide +kernel) (by decide +kernel)
set_option maxRecDepth 20000 in
theorem gX5_whereAnew_X5_isKey : GoodIn wsX5_whereAnew (wsV RX5 104 RX5 yX5_isKey wsX5_isKey) := goodIn_app (goodIn_of _ (by decide +kernel)) ggX5_whereAnew_X5_isKey
theorem dX5_whereAnew_0 : decode cX5_whereAnew 0 = .ok (.aload_n 0, 1) := by decide +kernel
theorem dX5_whereAnew_1 : decode cX5_whereAnew 1 = .ok (.iload_n 1, 1) := by decide +kernel
theorem dX5_whereAnew_2 : decode cX5_whereAnew 2 = .ok (.invokevirtual 104, 3) := by decide +kernel
theorem dX5_whereAnew_5 : decode cX5_whereAnew 5 = .ok (.ifCond .ne 13, 3) := by decide +kernel
theorem dX5_whereAnew_8 : decode cX5_whereAnew 8 = .ok (.new 81, 3) := by decide +kernel
theorem dX5_whereAnew_11 : decode cX5_whereAnew 11 = .ok (.dup, 1) := by decide +kernel
theorem dX5_whereAnew_12 : decode cX5_whereAnew 12 = .ok (.ldc 136, 2) := by decide +kernel
theorem dX5_whereAnew_14 : decode cX5_whereAnew 14 = .ok (.invokespecial 85, 3) := by decide +kernel
theorem dX5_whereAnew_17 : decode cX5_whereAnew 17 = .ok (.athrow, 1) := by decide +kernel
theorem dX5_whereAnew_18 : decode cX5_whereAnew 18 = .ok (.aload_n 0, 1) := by decide +kernel
theorem dX5_whereAnew_19 : decode cX5_whereAnew 19 = .ok (.getfield 232, 3) := by decide +kernel
theorem dX5_whereAnew_22 : decode cX5_whereAnew 22 = .ok (.astore_n 2, 1) := by decide +kernel
theorem dX5_whereAnew_23 : decode cX5_whereAnew 23 = .ok (.aload_n 2, 1) := by decide +kernel
theorem dX5_whereAnew_24 : decode cX5_whereAnew 24 = .ok (.ifnull 32, 3) := by decide +kernel
theorem dX5_whereAnew_27 : decode cX5_whereAnew 27 = .ok (.aload_n 2, 1) := by decide +kernel
theorem dX5_whereAnew_28 : decode cX5_whereAnew 28 = .ok (.getfield 236, 3) := by decide +kernel
theorem dX5_whereAnew_31 : decode cX5_whereAnew 31 = .ok (.iload_n 1, 1) := by decide +kernel
theorem dX5_whereAnew_32 : decode cX5_whereAnew 32 = .ok (.if_icmp .gt 16, 3) := by decide +kernel
theorem dX5_whereAnew_35 : decode cX5_whereAnew 35 = .ok (.iload_n 1, 1) := by decide +kernel
theorem dX5_whereAnew_36 : decode cX5_whereAnew 36 = .ok (.aload_n 2, 1) := by decide +kernel
theorem dX5_whereAnew_37 : decode cX5_whereAnew 37 = .ok (.getfield 239, 3) := by decide +kernel
theorem dX5_whereAnew_40 : decode cX5_whereAnew 40 = .ok (.if_icmp .gt 8, 3) := by decide +kernel
theorem dX5_whereAnew_43 : decode cX5_whereAnew 43 = .ok (.aload_n 2, 1) := by decide +kernel
theorem dX5_whereAnew_44 : decode cX5_whereAnew 44 = .ok (.getfield 240, 3) := by decide +kernel
theorem dX5_whereAnew_47 : decode cX5_whereAnew 47 = .ok (.ireturn, 1) := by decide +kernel
theorem dX5_whereAnew_48 : decode cX5_whereAnew 48 = .ok (.aload_n 2, 1) := by decide +kernel
theorem dX5_whereAnew_49 : decode cX5_whereAnew 49 = .ok (.getfield 243, 3) := by decide +kernel
theorem dX5_whereAnew_52 : decode cX5_whereAnew 52 = .ok (.astore_n 2, 1) := by decide +kernel
theorem dX5_whereAnew_53 : decode cX5_whereAnew 53 = .ok (.goto (-30), 3) := by decide +kernel
theorem dX5_whereAnew_56 : decode cX5_whereAnew 56 = .ok (.aload_n 0, 1) := by decide +kernel
theorem dX5_whereAnew_57 : decode cX5_whereAnew 57 = .ok (.getfield 56, 3) := by decide +kernel
theorem dX5_whereAnew_60 : decode cX5_whereAnew 60 = .ok (.ifCond .ne 7, 3) := by decide +kernel
theorem dX5_whereAnew_63 : decode cX5_whereAnew 63 = .ok (.iconst (-1), 1) := by decide +kernel
theorem dX5_whereAnew_64 : decode cX5_whereAnew 64 = .ok (.goto 4, 3) := by decide +kernel
theorem dX5_whereAnew_67 : decode cX5_whereAnew 67 = .ok (.iconst 0, 1) := by decide +kernel
theorem dX5_whereAnew_68 : decode cX5_whereAnew 68 = .ok (.ireturn, 1) := by decide +kernel
theorem dX5_moves_0 : decode cX5_moves 0 = .ok (.iload_n 1, 1) := by decide +kernel
theorem dX5_moves_1 : decode cX5_moves 1 = .ok (.ifCond .eq 10, 3) := by decide +kernel
theorem dX5_moves_4 : decode cX5_moves 4 = .ok (.aload_n 0, 1) := by decide +kernel
theorem dX5_moves_5 : decode cX5_moves 5 = .ok (.getfield 245, 3) := by decide +kernel
theorem dX5_moves_8 : decode cX5_moves 8 = .ok (.goto 7, 3) := by decide +kernel
theorem dX5_moves_11 : decode cX5_moves 11 = .ok (.aload_n 0, 1) := by decide +kernel
theorem dX5_moves_12 : decode cX5_moves 12 = .ok (.getfield 248, 3) := by decide +kernel
theorem dX5_moves_15 : decode cX5_moves 15 = .ok (.ireturn, 1) := by decide +kernel
theorem dX5_isKey_0 : decode cX5_isKey 0 = .ok (.iload_n 1, 1) := by decide +kernel
theorem dX5_isKey_1 : decode cX5_isKey 1 = .ok (.ifCond .lt 14, 3) := by decide +kernel
theorem dX5_isKey_4 : decode cX5_isKey 4 = .ok (.iload_n 1, 1) := by decide +kernel
theorem dX5_isKey_5 : decode cX5_isKey 5 = .ok (.sipush 1000, 3) := by decide +kernel
theorem dX5_isKey_8 : decode cX5_isKey 8 = .ok (.if_icmp .ge 7, 3) := by decide +kernel
theorem dX5_isKey_11 : decode cX5_isKey 11 = .ok (.iconst 1, 1) := by decide +kernel
theorem dX5_isKey_12 : decode cX5_isKey 12 = .ok (.goto 4, 3) := by decide +kernel
theorem dX5_isKey_15 : decode cX5_isKey 15 = .ok (.iconst 0, 1) := by decide +kernel
theorem dX5_isKey_16 : decode cX5_isKey 16 = .ok (.ireturn, 1) := by decide +kernel
theorem dX5_isTenant_0 : decode cX5_isTenant 0 = .ok (.iload_n 1, 1) := by decide +kernel
theorem dX5_isTenant_1 : decode cX5_isTenant 1 = .ok (.ifCond .lt 12, 3) := by decide +kernel
theorem dX5_isTenant_4 : decode cX5_isTenant 4 = .ok (.iload_n 1, 1) := by decide +kernel
theorem dX5_isTenant_5 : decode cX5_isTenant 5 = .ok (.iconst 4, 1) := by decide +kernel
theorem dX5_isTenant_6 : decode cX5_isTenant 6 = .ok (.if_icmp .ge 7, 3) := by decide +kernel
theorem dX5_isTenant_9 : decode cX5_isTenant 9 = .ok (.iconst 1, 1) := by decide +kernel
theorem dX5_isTenant_10 : decode cX5_isTenant 10 = .ok (.goto 4, 3) := by decide +kernel
theorem dX5_isTenant_13 : decode cX5_isTenant 13 = .ok (.iconst 0, 1) := by decide +kernel
theorem dX5_isTenant_14 : decode cX5_isTenant 14 = .ok (.ireturn, 1) := by decide +kernel
theorem dX5_isMachine_0 : decode cX5_isMachine 0 = .ok (.iload_n 1, 1) := by decide +kernel
theorem dX5_isMachine_1 : decode cX5_isMachine 1 = .ok (.ifCond .lt 15, 3) := by decide +kernel
theorem dX5_isMachine_4 : decode cX5_isMachine 4 = .ok (.iload_n 1, 1) := by decide +kernel
theorem dX5_isMachine_5 : decode cX5_isMachine 5 = .ok (.aload_n 0, 1) := by decide +kernel
theorem dX5_isMachine_6 : decode cX5_isMachine 6 = .ok (.getfield 56, 3) := by decide +kernel
theorem dX5_isMachine_9 : decode cX5_isMachine 9 = .ok (.if_icmp .ge 7, 3) := by decide +kernel
theorem dX5_isMachine_12 : decode cX5_isMachine 12 = .ok (.iconst 1, 1) := by decide +kernel
theorem dX5_isMachine_13 : decode cX5_isMachine 13 = .ok (.goto 4, 3) := by decide +kernel
theorem dX5_isMachine_16 : decode cX5_isMachine 16 = .ok (.iconst 0, 1) := by decide +kernel
theorem dX5_isMachine_17 : decode cX5_isMachine 17 = .ok (.ireturn, 1) := by decide +kernel
theorem dX5_isShard_0 : decode cX5_isShard 0 = .ok (.iload_n 1, 1) := by decide +kernel
theorem dX5_isShard_1 : decode cX5_isShard 1 = .ok (.ifCond .lt 15, 3) := by decide +kernel
theorem dX5_isShard_4 : decode cX5_isShard 4 = .ok (.iload_n 1, 1) := by decide +kernel
theorem dX5_isShard_5 : decode cX5_isShard 5 = .ok (.aload_n 0, 1) := by decide +kernel
theorem dX5_isShard_6 : decode cX5_isShard 6 = .ok (.getfield 45, 3) := by decide +kernel
theorem dX5_isShard_9 : decode cX5_isShard 9 = .ok (.if_icmp .ge 7, 3) := by decide +kernel
theorem dX5_isShard_12 : decode cX5_isShard 12 = .ok (.iconst 1, 1) := by decide +kernel
theorem dX5_isShard_13 : decode cX5_isShard 13 = .ok (.goto 4, 3) := by decide +kernel
theorem dX5_isShard_16 : decode cX5_isShard 16 = .ok (.iconst 0, 1) := by decide +kernel
theorem dX5_isShard_17 : decode cX5_isShard 17 = .ok (.ireturn, 1) := by decide +kernel
theorem dX5_numberOfShardWith_0 : decode cX5_numberOfShardWith 0 = .ok (.aload_n 0, 1) := by decide +kernel
theorem dX5_numberOfShardWith_1 : decode cX5_numberOfShardWith 1 = .ok (.getfield 45, 3) := by decide +kernel
theorem dX5_numberOfShardWith_4 : decode cX5_numberOfShardWith 4 = .ok (.iconst 1, 1) := by decide +kernel
theorem dX5_numberOfShardWith_5 : decode cX5_numberOfShardWith 5 = .ok (.isub, 1) := by decide +kernel
theorem dX5_numberOfShardWith_6 : decode cX5_numberOfShardWith 6 = .ok (.istore_n 2, 1) := by decide +kernel
theorem dX5_numberOfShardWith_7 : decode cX5_numberOfShardWith 7 = .ok (.iload_n 2, 1) := by decide +kernel
theorem dX5_numberOfShardWith_8 : decode cX5_numberOfShardWith 8 = .ok (.ifCond .le 22, 3) := by decide +kernel
theorem dX5_numberOfShardWith_11 : decode cX5_numberOfShardWith 11 = .ok (.aload_n 0, 1) := by decide +kernel
theorem dX5_numberOfShardWith_12 : decode cX5_numberOfShardWith 12 = .ok (.getfield 38, 3) := by decide +kernel
theorem dX5_numberOfShardWith_15 : decode cX5_numberOfShardWith 15 = .ok (.iload_n 2, 1) := by decide +kernel
theorem dX5_numberOfShardWith_16 : decode cX5_numberOfShardWith 16 = .ok (.aaload, 1) := by decide +kernel
theorem dX5_numberOfShardWith_17 : decode cX5_numberOfShardWith 17 = .ok (.getfield 147, 3) := by decide +kernel
theorem dX5_numberOfShardWith_20 : decode cX5_numberOfShardWith 20 = .ok (.iload_n 1, 1) := by decide +kernel
theorem dX5_numberOfShardWith_21 : decode cX5_numberOfShardWith 21 = .ok (.if_icmp .le 9, 3) := by decide +kernel
theorem dX5_numberOfShardWith_24 : decode cX5_numberOfShardWith 24 = .ok (.iinc 2 (-1), 3) := by decide +kernel
theorem dX5_numberOfShardWith_27 : decode cX5_numberOfShardWith 27 = .ok (.goto (-20), 3) := by decide +kernel
theorem dX5_numberOfShardWith_30 : decode cX5_numberOfShardWith 30 = .ok (.iload_n 2, 1) := by decide +kernel
theorem dX5_numberOfShardWith_31 : decode cX5_numberOfShardWith 31 = .ok (.ireturn, 1) := by decide +kernel
theorem dX5_bytesBetween_0 : decode cX5_bytesBetween 0 = .ok (.iconst 0, 1) := by decide +kernel
theorem dX5_bytesBetween_1 : decode cX5_bytesBetween 1 = .ok (.istore_n 3, 1) := by decide +kernel
theorem dX5_bytesBetween_2 : decode cX5_bytesBetween 2 = .ok (.iload_n 1, 1) := by decide +kernel
theorem dX5_bytesBetween_3 : decode cX5_bytesBetween 3 = .ok (.istore 4, 2) := by decide +kernel
theorem dX5_bytesBetween_5 : decode cX5_bytesBetween 5 = .ok (.iload 4, 2) := by decide +kernel
theorem dX5_bytesBetween_7 : decode cX5_bytesBetween 7 = .ok (.iload_n 2, 1) := by decide +kernel
theorem dX5_bytesBetween_8 : decode cX5_bytesBetween 8 = .ok (.if_icmp .gt 27, 3) := by decide +kernel
theorem dX5_bytesBetween_11 : decode cX5_bytesBetween 11 = .ok (.iload 4, 2) := by decide +kernel
theorem dX5_bytesBetween_13 : decode cX5_bytesBetween 13 = .ok (.sipush 1000, 3) := by decide +kernel
theorem dX5_bytesBetween_16 : decode cX5_bytesBetween 16 = .ok (.if_icmp .ge 19, 3) := by decide +kernel
theorem dX5_bytesBetween_19 : decode cX5_bytesBetween 19 = .ok (.iload_n 3, 1) := by decide +kernel
theorem dX5_bytesBetween_20 : decode cX5_bytesBetween 20 = .ok (.aload_n 0, 1) := by decide +kernel
theorem dX5_bytesBetween_21 : decode cX5_bytesBetween 21 = .ok (.getfield 18, 3) := by decide +kernel
theorem dX5_bytesBetween_24 : decode cX5_bytesBetween 24 = .ok (.iload 4, 2) := by decide +kernel
theorem dX5_bytesBetween_26 : decode cX5_bytesBetween 26 = .ok (.iaload, 1) := by decide +kernel
theorem dX5_bytesBetween_27 : decode cX5_bytesBetween 27 = .ok (.iadd, 1) := by decide +kernel
theorem dX5_bytesBetween_28 : decode cX5_bytesBetween 28 = .ok (.istore_n 3, 1) := by decide +kernel
theorem dX5_bytesBetween_29 : decode cX5_bytesBetween 29 = .ok (.iinc 4 1, 3) := by decide +kernel
theorem dX5_bytesBetween_32 : decode cX5_bytesBetween 32 = .ok (.goto (-27), 3) := by decide +kernel
theorem dX5_bytesBetween_35 : decode cX5_bytesBetween 35 = .ok (.iload_n 3, 1) := by decide +kernel
theorem dX5_bytesBetween_36 : decode cX5_bytesBetween 36 = .ok (.ireturn, 1) := by decide +kernel
theorem dX5_heatOf_0 : decode cX5_heatOf 0 = .ok (.iconst 0, 1) := by decide +kernel
theorem dX5_heatOf_1 : decode cX5_heatOf 1 = .ok (.istore_n 2, 1) := by decide +kernel
theorem dX5_heatOf_2 : decode cX5_heatOf 2 = .ok (.iconst 0, 1) := by decide +kernel
theorem dX5_heatOf_3 : decode cX5_heatOf 3 = .ok (.istore_n 3, 1) := by decide +kernel
theorem dX5_heatOf_4 : decode cX5_heatOf 4 = .ok (.iload_n 3, 1) := by decide +kernel
theorem dX5_heatOf_5 : decode cX5_heatOf 5 = .ok (.aload_n 0, 1) := by decide +kernel
theorem dX5_heatOf_6 : decode cX5_heatOf 6 = .ok (.getfield 45, 3) := by decide +kernel
theorem dX5_heatOf_9 : decode cX5_heatOf 9 = .ok (.if_icmp .ge 34, 3) := by decide +kernel
theorem dX5_heatOf_12 : decode cX5_heatOf 12 = .ok (.aload_n 0, 1) := by decide +kernel
theorem dX5_heatOf_13 : decode cX5_heatOf 13 = .ok (.getfield 38, 3) := by decide +kernel
theorem dX5_heatOf_16 : decode cX5_heatOf 16 = .ok (.iload_n 3, 1) := by decide +kernel
theorem dX5_heatOf_17 : decode cX5_heatOf 17 = .ok (.aaload, 1) := by decide +kernel
theorem dX5_heatOf_18 : decode cX5_heatOf 18 = .ok (.getfield 117, 3) := by decide +kernel
theorem dX5_heatOf_21 : decode cX5_heatOf 21 = .ok (.aload_n 1, 1) := by decide +kernel
theorem dX5_heatOf_22 : decode cX5_heatOf 22 = .ok (.if_acmp .ne 15, 3) := by decide +kernel
theorem dX5_heatOf_25 : decode cX5_heatOf 25 = .ok (.iload_n 2, 1) := by decide +kernel
theorem dX5_heatOf_26 : decode cX5_heatOf 26 = .ok (.aload_n 0, 1) := by decide +kernel
theorem dX5_heatOf_27 : decode cX5_heatOf 27 = .ok (.getfield 38, 3) := by decide +kernel
theorem dX5_heatOf_30 : decode cX5_heatOf 30 = .ok (.iload_n 3, 1) := by decide +kernel
theorem dX5_heatOf_31 : decode cX5_heatOf 31 = .ok (.aaload, 1) := by decide +kernel
theorem dX5_heatOf_32 : decode cX5_heatOf 32 = .ok (.getfield 142, 3) := by decide +kernel
theorem dX5_heatOf_35 : decode cX5_heatOf 35 = .ok (.iadd, 1) := by decide +kernel
theorem dX5_heatOf_36 : decode cX5_heatOf 36 = .ok (.istore_n 2, 1) := by decide +kernel
theorem dX5_heatOf_37 : decode cX5_heatOf 37 = .ok (.iinc 3 1, 3) := by decide +kernel
theorem dX5_heatOf_40 : decode cX5_heatOf 40 = .ok (.goto (-36), 3) := by decide +kernel
theorem dX5_heatOf_43 : decode cX5_heatOf 43 = .ok (.iload_n 2, 1) := by decide +kernel
theorem dX5_heatOf_44 : decode cX5_heatOf 44 = .ok (.ireturn, 1) := by decide +kernel
theorem dX5_shardCountOn_0 : decode cX5_shardCountOn 0 = .ok (.iconst 0, 1) := by decide +kernel
theorem dX5_shardCountOn_1 : decode cX5_shardCountOn 1 = .ok (.istore_n 2, 1) := by decide +kernel
theorem dX5_shardCountOn_2 : decode cX5_shardCountOn 2 = .ok (.iconst 0, 1) := by decide +kernel
theorem dX5_shardCountOn_3 : decode cX5_shardCountOn 3 = .ok (.istore_n 3, 1) := by decide +kernel
theorem dX5_shardCountOn_4 : decode cX5_shardCountOn 4 = .ok (.iload_n 3, 1) := by decide +kernel
theorem dX5_shardCountOn_5 : decode cX5_shardCountOn 5 = .ok (.aload_n 0, 1) := by decide +kernel
theorem dX5_shardCountOn_6 : decode cX5_shardCountOn 6 = .ok (.getfield 45, 3) := by decide +kernel
theorem dX5_shardCountOn_9 : decode cX5_shardCountOn 9 = .ok (.if_icmp .ge 25, 3) := by decide +kernel
theorem dX5_shardCountOn_12 : decode cX5_shardCountOn 12 = .ok (.aload_n 0, 1) := by decide +kernel
theorem dX5_shardCountOn_13 : decode cX5_shardCountOn 13 = .ok (.getfield 38, 3) := by decide +kernel
theorem dX5_shardCountOn_16 : decode cX5_shardCountOn 16 = .ok (.iload_n 3, 1) := by decide +kernel
theorem dX5_shardCountOn_17 : decode cX5_shardCountOn 17 = .ok (.aaload, 1) := by decide +kernel
theorem dX5_shardCountOn_18 : decode cX5_shardCountOn 18 = .ok (.getfield 117, 3) := by decide +kernel
theorem dX5_shardCountOn_21 : decode cX5_shardCountOn 21 = .ok (.aload_n 1, 1) := by decide +kernel
theorem dX5_shardCountOn_22 : decode cX5_shardCountOn 22 = .ok (.if_acmp .ne 6, 3) := by decide +kernel
theorem dX5_shardCountOn_25 : decode cX5_shardCountOn 25 = .ok (.iinc 2 1, 3) := by decide +kernel
theorem dX5_shardCountOn_28 : decode cX5_shardCountOn 28 = .ok (.iinc 3 1, 3) := by decide +kernel
theorem dX5_shardCountOn_31 : decode cX5_shardCountOn 31 = .ok (.goto (-27), 3) := by decide +kernel
theorem dX5_shardCountOn_34 : decode cX5_shardCountOn 34 = .ok (.iload_n 2, 1) := by decide +kernel
theorem dX5_shardCountOn_35 : decode cX5_shardCountOn 35 = .ok (.ireturn, 1) := by decide +kernel
theorem dX5_mayChange_0 : decode cX5_mayChange 0 = .ok (.aload_n 1, 1) := by decide +kernel
theorem dX5_mayChange_1 : decode cX5_mayChange 1 = .ok (.getfield 117, 3) := by decide +kernel
theorem dX5_mayChange_4 : decode cX5_mayChange 4 = .ok (.getfield 67, 3) := by decide +kernel
theorem dX5_mayChange_7 : decode cX5_mayChange 7 = .ok (.ifCond .eq 17, 3) := by decide +kernel
theorem dX5_mayChange_10 : decode cX5_mayChange 10 = .ok (.aload_n 0, 1) := by decide +kernel
theorem dX5_mayChange_11 : decode cX5_mayChange 11 = .ok (.getfield 251, 3) := by decide +kernel
theorem dX5_mayChange_14 : decode cX5_mayChange 14 = .ok (.sipush 600, 3) := by decide +kernel
theorem dX5_mayChange_17 : decode cX5_mayChange 17 = .ok (.if_icmp .ge 7, 3) := by decide +kernel
theorem dX5_mayChange_20 : decode cX5_mayChange 20 = .ok (.iconst 1, 1) := by decide +kernel
theorem dX5_mayChange_21 : decode cX5_mayChange 21 = .ok (.goto 4, 3) := by decide +kernel
theorem dX5_mayChange_24 : decode cX5_mayChange 24 = .ok (.iconst 0, 1) := by decide +kernel
theorem dX5_mayChange_25 : decode cX5_mayChange 25 = .ok (.ireturn, 1) := by decide +kernel
theorem dX5_hasQuotaFor_0 : decode cX5_hasQuotaFor 0 = .ok (.aload_n 0, 1) := by decide +kernel
theorem dX5_hasQuotaFor_1 : decode cX5_hasQuotaFor 1 = .ok (.getfield 22, 3) := by decide +kernel
theorem dX5_hasQuotaFor_4 : decode cX5_hasQuotaFor 4 = .ok (.iload_n 2, 1) := by decide +kernel
theorem dX5_hasQuotaFor_5 : decode cX5_hasQuotaFor 5 = .ok (.iaload, 1) := by decide +kernel
theorem dX5_hasQuotaFor_6 : decode cX5_hasQuotaFor 6 = .ok (.iload_n 1, 1) := by decide +kernel
theorem dX5_hasQuotaFor_7 : decode cX5_hasQuotaFor 7 = .ok (.if_icmp .ne 12, 3) := by decide +kernel
theorem dX5_hasQuotaFor_10 : decode cX5_hasQuotaFor 10 = .ok (.aload_n 0, 1) := by decide +kernel
theorem dX5_hasQuotaFor_11 : decode cX5_hasQuotaFor 11 = .ok (.getfield 18, 3) := by decide +kernel
theorem dX5_hasQuotaFor_14 : decode cX5_hasQuotaFor 14 = .ok (.iload_n 2, 1) := by decide +kernel
theorem dX5_hasQuotaFor_15 : decode cX5_hasQuotaFor 15 = .ok (.iaload, 1) := by decide +kernel
theorem dX5_hasQuotaFor_16 : decode cX5_hasQuotaFor 16 = .ok (.goto 4, 3) := by decide +kernel
theorem dX5_hasQuotaFor_19 : decode cX5_hasQuotaFor 19 = .ok (.iconst 0, 1) := by decide +kernel
theorem dX5_hasQuotaFor_20 : decode cX5_hasQuotaFor 20 = .ok (.istore 4, 2) := by decide +kernel
theorem dX5_hasQuotaFor_22 : decode cX5_hasQuotaFor 22 = .ok (.aload_n 0, 1) := by decide +kernel
theorem dX5_hasQuotaFor_23 : decode cX5_hasQuotaFor 23 = .ok (.getfield 27, 3) := by decide +kernel
theorem dX5_hasQuotaFor_26 : decode cX5_hasQuotaFor 26 = .ok (.iload_n 1, 1) := by decide +kernel
theorem dX5_hasQuotaFor_27 : decode cX5_hasQuotaFor 27 = .ok (.aaload, 1) := by decide +kernel
theorem dX5_hasQuotaFor_28 : decode cX5_hasQuotaFor 28 = .ok (.getfield 133, 3) := by decide +kernel
theorem dX5_hasQuotaFor_31 : decode cX5_hasQuotaFor 31 = .ok (.iload 4, 2) := by decide +kernel
theorem dX5_hasQuotaFor_33 : decode cX5_hasQuotaFor 33 = .ok (.isub, 1) := by decide +kernel
theorem dX5_hasQuotaFor_34 : decode cX5_hasQuotaFor 34 = .ok (.iload_n 3, 1) := by decide +kernel
theorem dX5_hasQuotaFor_35 : decode cX5_hasQuotaFor 35 = .ok (.iadd, 1) := by decide +kernel
theorem dX5_hasQuotaFor_36 : decode cX5_hasQuotaFor 36 = .ok (.aload_n 0, 1) := by decide +kernel
theorem dX5_hasQuotaFor_37 : decode cX5_hasQuotaFor 37 = .ok (.getfield 27, 3) := by decide +kernel
theorem dX5_hasQuotaFor_40 : decode cX5_hasQuotaFor 40 = .ok (.iload_n 1, 1) := by decide +kernel
theorem dX5_hasQuotaFor_41 : decode cX5_hasQuotaFor 41 = .ok (.aaload, 1) := by decide +kernel
theorem dX5_hasQuotaFor_42 : decode cX5_hasQuotaFor 42 = .ok (.getfield 96, 3) := by decide +kernel
theorem dX5_hasQuotaFor_45 : decode cX5_hasQuotaFor 45 = .ok (.if_icmp .gt 7, 3) := by decide +kernel
theorem dX5_hasQuotaFor_48 : decode cX5_hasQuotaFor 48 = .ok (.iconst 1, 1) := by decide +kernel
theorem dX5_hasQuotaFor_49 : decode cX5_hasQuotaFor 49 = .ok (.goto 4, 3) := by decide +kernel
theorem dX5_hasQuotaFor_52 : decode cX5_hasQuotaFor 52 = .ok (.iconst 0, 1) := by decide +kernel
theorem dX5_hasQuotaFor_53 : decode cX5_hasQuotaFor 53 = .ok (.ireturn, 1) := by decide +kernel
set_option maxRecDepth 20000 in
theorem ggX5_change_X0_init : GoodIn wsX5_change wsX0_init := goodIn_r _ [10, 11, 12, 13, 14, 15, 68, 69, 70, 71, 72, 73] (by decide +kernel) (by decide +kernel)
set_option maxRecDepth 20000 in
theorem gX5_change_X0_init_n254 : GoodIn wsX5_change (wsX0_init) := ggX5_change_X0_init
set_option maxRecDepth 20000 in
theorem ggX5_change_X0_setBefore : GoodIn wsX5_change wsX0_setBefore := goodIn_r _ [18, 19, 20, 68, 69, 70, 71, 72, 73] (by decide +kernel) (by decide +kernel)
set_option maxRecDepth 20000 in
theorem gX5_change_X0_setBefore_n257 : GoodIn wsX5_change (wsX0_setBefore) := ggX5_change_X0_setBefore
set_option maxRecDepth 20000 in
theorem ggX5_change_X0_setBehind : GoodIn wsX5_change wsX0_setBehind := goodIn_r _ [23, 24, 25, 68, 69, 70, 71, 72, 73] (by decide +kernel) (by decide +kernel)
set_option maxRecDepth 20000 in
theorem gX5_change_X0_setBehind_n261 : GoodIn wsX5_change (wsX0_setBehind) := ggX5_change_X0_setBehind
set_option maxRecDepth 20000 in
theorem ggX5_change_X5_addToTenant : GoodIn wsX5_change wsX5_addToTenant := goodIn_r _ [30, 31, 32, 33, 34, 29, 35, 74, 75, 76, 77, 78, 79, 80, 81, 82, 83, 84, 85, 86, 87, 88, 102, 103, 104] (by decide +kernel) (by decide +kernel)
set_option maxRecDepth 20000 in
theorem gX5_change_X5_addToTenant : GoodIn wsX5_change (wsV RX5 264 RX5 yX5_addToTenant wsX5_addToTenant) := goodIn_app (goodIn_of _ (by decide +kernel)) ggX5_change_X5_addToTenant
set_option maxRecDepth 20000 in
theorem ggX5_change_X3_hasCopied : GoodIn wsX5_change wsX3_hasCopied := goodIn_r _ [39, 40, 41, 42, 43, 37, 44, 45, 89, 90, 91, 92, 93, 94, 95, 96, 97, 98, 99, 100, 101] (by decide +kernel) (by decide +kernel)
set_option maxRecDepth 20000 in
theorem gX5_change_X3_hasCopied_n267 : GoodIn wsX5_change (wsX3_hasCopied) := ggX5_change_X3_hasCopied
set_option maxRecDepth 20000 in
theorem ggX5_change_X5_changeCopy : GoodIn wsX5_change wsX5_changeCopy := goodIn_r _ [49, 50, 51, 52, 53, 54, 55, 56, 57, 58, 29, 59, 60, 61, 62, 37, 63, 64, 45, 65, 40, 66, 67, 89, 90, 91, 92, 93, 94, 95, 96, 97, 98, 99, 100, 101, 74, 75, 76, 77, 78, 79, 80, 81, 82, 83, 84, 85, 86, 87, 88] (by decide +kernel) (by decide +kernel)
set_option maxRecDepth 20000 in
theorem gX5_change_X5_changeCopy : GoodIn wsX5_change (wsV RX5 270 RX5 yX5_changeCopy wsX5_changeCopy) := goodIn_app (goodIn_of _ (by decide +kernel)) ggX5_change_X5_changeCopy
theorem dX5_change_0 : decode cX5_change 0 = .ok (.new 224, 3) := by decide +kernel
theorem dX5_change_3 : decode cX5_change 3 = .ok (.dup, 1) := by decide +kernel
theorem dX5_change_4 : decode cX5_change 4 = .ok (.aload_n 0, 1) := by decide +kernel
theorem dX5_change_5 : decode cX5_change 5 = .ok (.getfield 193, 3) := by decide +kernel
theorem dX5_change_8 : decode cX5_change 8 = .ok (.aload_n 0, 1) := by decide +kernel
theorem dX5_change_9 : decode cX5_change 9 = .ok (.getfield 219, 3) := by decide +kernel
theorem dX5_change_12 : decode cX5_change 12 = .ok (.invokespecial 254, 3) := by decide +kernel
theorem dX5_change_15 : decode cX5_change 15 = .ok (.astore 5, 2) := by decide +kernel
theorem dX5_change_17 : decode cX5_change 17 = .ok (.aload 5, 2) := by decide +kernel
theorem dX5_change_19 : decode cX5_change 19 = .ok (.aload_n 0, 1) := by decide +kernel
theorem dX5_change_20 : decode cX5_change 20 = .ok (.getfield 22, 3) := by decide +kernel
theorem dX5_change_23 : decode cX5_change 23 = .ok (.iload_n 2, 1) := by decide +kernel
theorem dX5_change_24 : decode cX5_change 24 = .ok (.iaload, 1) := by decide +kernel
theorem dX5_change_25 : decode cX5_change 25 = .ok (.aload_n 0, 1) := by decide +kernel
theorem dX5_change_26 : decode cX5_change 26 = .ok (.getfield 18, 3) := by decide +kernel
theorem dX5_change_29 : decode cX5_change 29 = .ok (.iload_n 2, 1) := by decide +kernel
theorem dX5_change_30 : decode cX5_change 30 = .ok (.iaload, 1) := by decide +kernel
theorem dX5_change_31 : decode cX5_change 31 = .ok (.invokevirtual 257, 3) := by decide +kernel
theorem dX5_change_34 : decode cX5_change 34 = .ok (.aload 5, 2) := by decide +kernel
theorem dX5_change_36 : decode cX5_change 36 = .ok (.iload_n 3, 1) := by decide +kernel
theorem dX5_change_37 : decode cX5_change 37 = .ok (.iload 4, 2) := by decide +kernel
theorem dX5_change_39 : decode cX5_change 39 = .ok (.invokevirtual 261, 3) := by decide +kernel
theorem dX5_change_42 : decode cX5_change 42 = .ok (.aload_n 0, 1) := by decide +kernel
theorem dX5_change_43 : decode cX5_change 43 = .ok (.aload 5, 2) := by decide +kernel
theorem dX5_change_45 : decode cX5_change 45 = .ok (.putfield 219, 3) := by decide +kernel
theorem dX5_change_48 : decode cX5_change 48 = .ok (.aload_n 0, 1) := by decide +kernel
theorem dX5_change_49 : decode cX5_change 49 = .ok (.dup, 1) := by decide +kernel
theorem dX5_change_50 : decode cX5_change 50 = .ok (.getfield 251, 3) := by decide +kernel
theorem dX5_change_53 : decode cX5_change 53 = .ok (.iconst 1, 1) := by decide +kernel
theorem dX5_change_54 : decode cX5_change 54 = .ok (.iadd, 1) := by decide +kernel
theorem dX5_change_55 : decode cX5_change 55 = .ok (.putfield 251, 3) := by decide +kernel
theorem dX5_change_58 : decode cX5_change 58 = .ok (.iload 4, 2) := by decide +kernel
theorem dX5_change_60 : decode cX5_change 60 = .ok (.aload_n 0, 1) := by decide +kernel
theorem dX5_change_61 : decode cX5_change 61 = .ok (.getfield 18, 3) := by decide +kernel
theorem dX5_change_64 : decode cX5_change 64 = .ok (.iload_n 2, 1) := by decide +kernel
theorem dX5_change_65 : decode cX5_change 65 = .ok (.iaload, 1) := by decide +kernel
theorem dX5_change_66 : decode cX5_change 66 = .ok (.isub, 1) := by decide +kernel
theorem dX5_change_67 : decode cX5_change 67 = .ok (.istore 6, 2) := by decide +kernel
theorem dX5_change_69 : decode cX5_change 69 = .ok (.aload_n 0, 1) := by decide +kernel
theorem dX5_change_70 : decode cX5_change 70 = .ok (.aload_n 0, 1) := by decide +kernel
theorem dX5_change_71 : decode cX5_change 71 = .ok (.getfield 22, 3) := by decide +kernel
theorem dX5_change_74 : decode cX5_change 74 = .ok (.iload_n 2, 1) := by decide +kernel
theorem dX5_change_75 : decode cX5_change 75 = .ok (.iaload, 1) := by decide +kernel
theorem dX5_change_76 : decode cX5_change 76 = .ok (.aload_n 0, 1) := by decide +kernel
theorem dX5_change_77 : decode cX5_change 77 = .ok (.getfield 18, 3) := by decide +kernel
theorem dX5_change_80 : decode cX5_change 80 = .ok (.iload_n 2, 1) := by decide +kernel
theorem dX5_change_81 : decode cX5_change 81 = .ok (.iaload, 1) := by decide +kernel
theorem dX5_change_82 : decode cX5_change 82 = .ok (.ineg, 1) := by decide +kernel
theorem dX5_change_83 : decode cX5_change 83 = .ok (.invokevirtual 264, 3) := by decide +kernel
theorem dX5_change_86 : decode cX5_change 86 = .ok (.aload_n 0, 1) := by decide +kernel
theorem dX5_change_87 : decode cX5_change 87 = .ok (.iload_n 3, 1) := by decide +kernel
theorem dX5_change_88 : decode cX5_change 88 = .ok (.iload 4, 2) := by decide +kernel
theorem dX5_change_90 : decode cX5_change 90 = .ok (.invokevirtual 264, 3) := by decide +kernel
theorem dX5_change_93 : decode cX5_change 93 = .ok (.aload_n 0, 1) := by decide +kernel
theorem dX5_change_94 : decode cX5_change 94 = .ok (.getfield 22, 3) := by decide +kernel
theorem dX5_change_97 : decode cX5_change 97 = .ok (.iload_n 2, 1) := by decide +kernel
theorem dX5_change_98 : decode cX5_change 98 = .ok (.iload_n 3, 1) := by decide +kernel
theorem dX5_change_99 : decode cX5_change 99 = .ok (.iastore, 1) := by decide +kernel
theorem dX5_change_100 : decode cX5_change 100 = .ok (.aload_n 0, 1) := by decide +kernel
theorem dX5_change_101 : decode cX5_change 101 = .ok (.getfield 18, 3) := by decide +kernel
theorem dX5_change_104 : decode cX5_change 104 = .ok (.iload_n 2, 1) := by decide +kernel
theorem dX5_change_105 : decode cX5_change 105 = .ok (.iload 4, 2) := by decide +kernel
theorem dX5_change_107 : decode cX5_change 107 = .ok (.iastore, 1) := by decide +kernel
theorem dX5_change_108 : decode cX5_change 108 = .ok (.aload_n 1, 1) := by decide +kernel
theorem dX5_change_109 : decode cX5_change 109 = .ok (.dup, 1) := by decide +kernel
theorem dX5_change_110 : decode cX5_change 110 = .ok (.getfield 174, 3) := by decide +kernel
theorem dX5_change_113 : decode cX5_change 113 = .ok (.iload 6, 2) := by decide +kernel
theorem dX5_change_115 : decode cX5_change 115 = .ok (.iadd, 1) := by decide +kernel
theorem dX5_change_116 : decode cX5_change 116 = .ok (.putfield 174, 3) := by decide +kernel
theorem dX5_change_119 : decode cX5_change 119 = .ok (.aload_n 1, 1) := by decide +kernel
theorem dX5_change_120 : decode cX5_change 120 = .ok (.getfield 117, 3) := by decide +kernel
theorem dX5_change_123 : decode cX5_change 123 = .ok (.dup, 1) := by decide +kernel
theorem dX5_change_124 : decode cX5_change 124 = .ok (.getfield 206, 3) := by decide +kernel
theorem dX5_change_127 : decode cX5_change 127 = .ok (.iload 6, 2) := by decide +kernel
theorem dX5_change_129 : decode cX5_change 129 = .ok (.iadd, 1) := by decide +kernel
theorem dX5_change_130 : decode cX5_change 130 = .ok (.putfield 206, 3) := by decide +kernel
theorem dX5_change_133 : decode cX5_change 133 = .ok (.aload_n 1, 1) := by decide +kernel
theorem dX5_change_134 : decode cX5_change 134 = .ok (.dup, 1) := by decide +kernel
theorem dX5_change_135 : decode cX5_change 135 = .ok (.getfield 142, 3) := by decide +kernel
theorem dX5_change_138 : decode cX5_change 138 = .ok (.iconst 1, 1) := by decide +kernel
theorem dX5_change_139 : decode cX5_change 139 = .ok (.iadd, 1) := by decide +kernel
theorem dX5_change_140 : decode cX5_change 140 = .ok (.putfield 142, 3) := by decide +kernel
theorem dX5_change_143 : decode cX5_change 143 = .ok (.aload_n 1, 1) := by decide +kernel
theorem dX5_change_144 : decode cX5_change 144 = .ok (.iload_n 2, 1) := by decide +kernel
theorem dX5_change_145 : decode cX5_change 145 = .ok (.invokevirtual 267, 3) := by decide +kernel
theorem dX5_change_148 : decode cX5_change 148 = .ok (.ifCond .eq 10, 3) := by decide +kernel
theorem dX5_change_151 : decode cX5_change 151 = .ok (.aload_n 0, 1) := by decide +kernel
theorem dX5_change_152 : decode cX5_change 152 = .ok (.aload_n 1, 1) := by decide +kernel
theorem dX5_change_153 : decode cX5_change 153 = .ok (.iload 6, 2) := by decide +kernel
theorem dX5_change_155 : decode cX5_change 155 = .ok (.invokevirtual 270, 3) := by decide +kernel
theorem dX5_change_158 : decode cX5_change 158 = .ok (.return_, 1) := by decide +kernel
set_option maxRecDepth 20000 in
theorem ggX5_addToTenant_X5_isTenant : GoodIn wsX5_addToTenant wsX5_isTenant := goodIn_r _ [6] (by decide +kernel) (by decide +kernel)
set_option maxRecDepth 20000 in
theorem gX5_addToTenant_X5_isTenant : GoodIn wsX5_addToTenant (wsV RX5 89 RX5 yX5_isTenant wsX5_isTenant) := goodIn_app (goodIn_of _ (by decide +kernel)) ggX5_addToTenant_X5_isTenant
theorem dX5_addToTenant_0 : decode cX5_addToTenant 0 = .ok (.aload_n 0, 1) := by decide +kernel
theorem dX5_addToTenant_1 : decode cX5_addToTenant 1 = .ok (.iload_n 1, 1) := by decide +kernel
theorem dX5_addToTenant_2 : decode cX5_addToTenant 2 = .ok (.invokevirtual 89, 3) := by decide +kernel
theorem dX5_addToTenant_5 : decode cX5_addToTenant 5 = .ok (.ifCond .eq 18, 3) := by decide +kernel
theorem dX5_addToTenant_8 : decode cX5_addToTenant 8 = .ok (.aload_n 0, 1) := by decide +kernel
theorem dX5_addToTenant_9 : decode cX5_addToTenant 9 = .ok (.getfield 27, 3) := by decide +kernel
theorem dX5_addToTenant_12 : decode cX5_addToTenant 12 = .ok (.iload_n 1, 1) := by decide +kernel
theorem dX5_addToTenant_13 : decode cX5_addToTenant 13 = .ok (.aaload, 1) := by decide +kernel
theorem dX5_addToTenant_14 : decode cX5_addToTenant 14 = .ok (.dup, 1) := by decide +kernel
theorem dX5_addToTenant_15 : decode cX5_addToTenant 15 = .ok (.getfield 133, 3) := by decide +kernel
theorem dX5_addToTenant_18 : decode cX5_addToTenant 18 = .ok (.iload_n 2, 1) := by decide +kernel
theorem dX5_addToTenant_19 : decode cX5_addToTenant 19 = .ok (.iadd, 1) := by decide +kernel
theorem dX5_addToTenant_20 : decode cX5_addToTenant 20 = .ok (.putfield 133, 3) := by decide +kernel
theorem dX5_addToTenant_23 : decode cX5_addToTenant 23 = .ok (.return_, 1) := by decide +kernel
set_option maxRecDepth 20000 in
theorem ggX5_changeCopy_X2_hasRoomFor : GoodIn wsX5_changeCopy wsX2_hasRoomFor := goodIn_r _ [4, 5, 6, 32, 33, 34, 35] (by decide +kernel) (by decide +kernel)
set_option maxRecDepth 20000 in
theorem gX5_changeCopy_X2_hasRoomFor_n120 : GoodIn wsX5_changeCopy (wsX2_hasRoomFor) := ggX5_changeCopy_X2_hasRoomFor
set_option maxRecDepth 20000 in
theorem ggX5_changeCopy_X5_failMove : GoodIn wsX5_changeCopy wsX5_failMove := goodIn_r _ [11, 12, 13, 14, 15, 16, 17, 18, 19, 20, 21, 22, 23, 24, 25, 26, 27, 28, 29, 30, 31, 32, 33, 34, 35, 36, 37, 38, 39, 40, 41, 42, 43, 44, 45, 46, 47, 48, 49, 50] (by decide +kernel) (by decide +kernel)
set_option maxRecDepth 20000 in
theorem gX5_changeCopy_X5_failMove : GoodIn wsX5_changeCopy (wsV RX5 187 RX5 yX5_failMove wsX5_failMove) := goodIn_app (goodIn_of _ (by decide +kernel)) ggX5_changeCopy_X5_failMove
theorem dX5_changeCopy_0 : decode cX5_changeCopy 0 = .ok (.aload_n 1, 1) := by decide +kernel
theorem dX5_changeCopy_1 : decode cX5_changeCopy 1 = .ok (.getfield 201, 3) := by decide +kernel
theorem dX5_changeCopy_4 : decode cX5_changeCopy 4 = .ok (.iload_n 2, 1) := by decide +kernel
theorem dX5_changeCopy_5 : decode cX5_changeCopy 5 = .ok (.invokevirtual 120, 3) := by decide +kernel
theorem dX5_changeCopy_8 : decode cX5_changeCopy 8 = .ok (.ifCond .eq 29, 3) := by decide +kernel
theorem dX5_changeCopy_11 : decode cX5_changeCopy 11 = .ok (.aload_n 1, 1) := by decide +kernel
theorem dX5_changeCopy_12 : decode cX5_changeCopy 12 = .ok (.getfield 201, 3) := by decide +kernel
theorem dX5_changeCopy_15 : decode cX5_changeCopy 15 = .ok (.dup, 1) := by decide +kernel
theorem dX5_changeCopy_16 : decode cX5_changeCopy 16 = .ok (.getfield 206, 3) := by decide +kernel
theorem dX5_changeCopy_19 : decode cX5_changeCopy 19 = .ok (.iload_n 2, 1) := by decide +kernel
theorem dX5_changeCopy_20 : decode cX5_changeCopy 20 = .ok (.iadd, 1) := by decide +kernel
theorem dX5_changeCopy_21 : decode cX5_changeCopy 21 = .ok (.putfield 206, 3) := by decide +kernel
theorem dX5_changeCopy_24 : decode cX5_changeCopy 24 = .ok (.aload_n 1, 1) := by decide +kernel
theorem dX5_changeCopy_25 : decode cX5_changeCopy 25 = .ok (.dup, 1) := by decide +kernel
theorem dX5_changeCopy_26 : decode cX5_changeCopy 26 = .ok (.getfield 184, 3) := by decide +kernel
theorem dX5_changeCopy_29 : decode cX5_changeCopy 29 = .ok (.iload_n 2, 1) := by decide +kernel
theorem dX5_changeCopy_30 : decode cX5_changeCopy 30 = .ok (.iadd, 1) := by decide +kernel
theorem dX5_changeCopy_31 : decode cX5_changeCopy 31 = .ok (.putfield 184, 3) := by decide +kernel
theorem dX5_changeCopy_34 : decode cX5_changeCopy 34 = .ok (.goto 8, 3) := by decide +kernel
theorem dX5_changeCopy_37 : decode cX5_changeCopy 37 = .ok (.aload_n 0, 1) := by decide +kernel
theorem dX5_changeCopy_38 : decode cX5_changeCopy 38 = .ok (.aload_n 1, 1) := by decide +kernel
theorem dX5_changeCopy_39 : decode cX5_changeCopy 39 = .ok (.invokevirtual 187, 3) := by decide +kernel
theorem dX5_changeCopy_42 : decode cX5_changeCopy 42 = .ok (.return_, 1) := by decide +kernel
theorem dX5_settleAllShardsOn_0 : decode cX5_settleAllShardsOn 0 = .ok (.iconst 0, 1) := by decide +kernel
theorem dX5_settleAllShardsOn_1 : decode cX5_settleAllShardsOn 1 = .ok (.istore_n 2, 1) := by decide +kernel
theorem dX5_settleAllShardsOn_2 : decode cX5_settleAllShardsOn 2 = .ok (.iload_n 2, 1) := by decide +kernel
theorem dX5_settleAllShardsOn_3 : decode cX5_settleAllShardsOn 3 = .ok (.aload_n 0, 1) := by decide +kernel
theorem dX5_settleAllShardsOn_4 : decode cX5_settleAllShardsOn 4 = .ok (.getfield 45, 3) := by decide +kernel
theorem dX5_settleAllShardsOn_7 : decode cX5_settleAllShardsOn 7 = .ok (.if_icmp .ge 19, 3) := by decide +kernel
theorem dX5_settleAllShardsOn_10 : decode cX5_settleAllShardsOn 10 = .ok (.aload_n 0, 1) := by decide +kernel
theorem dX5_settleAllShardsOn_11 : decode cX5_settleAllShardsOn 11 = .ok (.getfield 38, 3) := by decide +kernel
theorem dX5_settleAllShardsOn_14 : decode cX5_settleAllShardsOn 14 = .ok (.iload_n 2, 1) := by decide +kernel
theorem dX5_settleAllShardsOn_15 : decode cX5_settleAllShardsOn 15 = .ok (.aaload, 1) := by decide +kernel
theorem dX5_settleAllShardsOn_16 : decode cX5_settleAllShardsOn 16 = .ok (.aload_n 1, 1) := by decide +kernel
theorem dX5_settleAllShardsOn_17 : decode cX5_settleAllShardsOn 17 = .ok (.putfield 117, 3) := by decide +kernel
theorem dX5_settleAllShardsOn_20 : decode cX5_settleAllShardsOn 20 = .ok (.iinc 2 1, 3) := by decide +kernel
theorem dX5_settleAllShardsOn_23 : decode cX5_settleAllShardsOn 23 = .ok (.goto (-21), 3) := by decide +kernel
theorem dX5_settleAllShardsOn_26 : decode cX5_settleAllShardsOn 26 = .ok (.return_, 1) := by decide +kernel
set_option maxRecDepth 20000 in
theorem ggX5_cutInTwo_X5_bytesBetween : GoodIn wsX5_cutInTwo wsX5_bytesBetween := goodIn_r _ [5, 6, 16, 17, 18, 19, 20, 21, 22, 23, 24, 25, 26, 27, 28, 29, 30] (by decide +kernel) (by decide +kernel)
set_option maxRecDepth 20000 in
theorem gX5_cutInTwo_X5_bytesBetween : GoodIn wsX5_cutInTwo (wsV RX5 274 RX5 yX5_bytesBetween wsX5_bytesBetween) := goodIn_app (goodIn_of _ (by decide +kernel)) ggX5_cutInTwo_X5_bytesBetween
theorem dX5_cutInTwo_0 : decode cX5_cutInTwo 0 = .ok (.aload_n 2, 1) := by decide +kernel
theorem dX5_cutInTwo_1 : decode cX5_cutInTwo 1 = .ok (.iload_n 3, 1) := by decide +kernel
theorem dX5_cutInTwo_2 : decode cX5_cutInTwo 2 = .ok (.putfield 147, 3) := by decide +kernel
theorem dX5_cutInTwo_5 : decode cX5_cutInTwo 5 = .ok (.aload_n 2, 1) := by decide +kernel
theorem dX5_cutInTwo_6 : decode cX5_cutInTwo 6 = .ok (.aload_n 1, 1) := by decide +kernel
theorem dX5_cutInTwo_7 : decode cX5_cutInTwo 7 = .ok (.getfield 171, 3) := by decide +kernel
theorem dX5_cutInTwo_10 : decode cX5_cutInTwo 10 = .ok (.putfield 171, 3) := by decide +kernel
theorem dX5_cutInTwo_13 : decode cX5_cutInTwo 13 = .ok (.aload_n 2, 1) := by decide +kernel
theorem dX5_cutInTwo_14 : decode cX5_cutInTwo 14 = .ok (.aload_n 1, 1) := by decide +kernel
theorem dX5_cutInTwo_15 : decode cX5_cutInTwo 15 = .ok (.getfield 117, 3) := by decide +kernel
theorem dX5_cutInTwo_18 : decode cX5_cutInTwo 18 = .ok (.putfield 117, 3) := by decide +kernel
theorem dX5_cutInTwo_21 : decode cX5_cutInTwo 21 = .ok (.aload_n 2, 1) := by decide +kernel
theorem dX5_cutInTwo_22 : decode cX5_cutInTwo 22 = .ok (.aload_n 0, 1) := by decide +kernel
theorem dX5_cutInTwo_23 : decode cX5_cutInTwo 23 = .ok (.aload_n 2, 1) := by decide +kernel
theorem dX5_cutInTwo_24 : decode cX5_cutInTwo 24 = .ok (.getfield 147, 3) := by decide +kernel
theorem dX5_cutInTwo_27 : decode cX5_cutInTwo 27 = .ok (.aload_n 2, 1) := by decide +kernel
theorem dX5_cutInTwo_28 : decode cX5_cutInTwo 28 = .ok (.getfield 171, 3) := by decide +kernel
theorem dX5_cutInTwo_31 : decode cX5_cutInTwo 31 = .ok (.invokevirtual 274, 3) := by decide +kernel
theorem dX5_cutInTwo_34 : decode cX5_cutInTwo 34 = .ok (.putfield 174, 3) := by decide +kernel
theorem dX5_cutInTwo_37 : decode cX5_cutInTwo 37 = .ok (.aload_n 2, 1) := by decide +kernel
theorem dX5_cutInTwo_38 : decode cX5_cutInTwo 38 = .ok (.aload_n 1, 1) := by decide +kernel
theorem dX5_cutInTwo_39 : decode cX5_cutInTwo 39 = .ok (.getfield 142, 3) := by decide +kernel
theorem dX5_cutInTwo_42 : decode cX5_cutInTwo 42 = .ok (.aload_n 1, 1) := by decide +kernel
theorem dX5_cutInTwo_43 : decode cX5_cutInTwo 43 = .ok (.getfield 142, 3) := by decide +kernel
theorem dX5_cutInTwo_46 : decode cX5_cutInTwo 46 = .ok (.iconst 2, 1) := by decide +kernel
theorem dX5_cutInTwo_47 : decode cX5_cutInTwo 47 = .ok (.idiv, 1) := by decide +kernel
theorem dX5_cutInTwo_48 : decode cX5_cutInTwo 48 = .ok (.isub, 1) := by decide +kernel
theorem dX5_cutInTwo_49 : decode cX5_cutInTwo 49 = .ok (.putfield 142, 3) := by decide +kernel
theorem dX5_cutInTwo_52 : decode cX5_cutInTwo 52 = .ok (.aload_n 1, 1) := by decide +kernel
theorem dX5_cutInTwo_53 : decode cX5_cutInTwo 53 = .ok (.iload_n 3, 1) := by decide +kernel
theorem dX5_cutInTwo_54 : decode cX5_cutInTwo 54 = .ok (.iconst 1, 1) := by decide +kernel
theorem dX5_cutInTwo_55 : decode cX5_cutInTwo 55 = .ok (.isub, 1) := by decide +kernel
theorem dX5_cutInTwo_56 : decode cX5_cutInTwo 56 = .ok (.putfield 171, 3) := by decide +kernel
theorem dX5_cutInTwo_59 : decode cX5_cutInTwo 59 = .ok (.aload_n 1, 1) := by decide +kernel
theorem dX5_cutInTwo_60 : decode cX5_cutInTwo 60 = .ok (.dup, 1) := by decide +kernel
theorem dX5_cutInTwo_61 : decode cX5_cutInTwo 61 = .ok (.getfield 174, 3) := by decide +kernel
theorem dX5_cutInTwo_64 : decode cX5_cutInTwo 64 = .ok (.aload_n 2, 1) := by decide +kernel
theorem dX5_cutInTwo_65 : decode cX5_cutInTwo 65 = .ok (.getfield 174, 3) := by decide +kernel
theorem dX5_cutInTwo_68 : decode cX5_cutInTwo 68 = .ok (.isub, 1) := by decide +kernel
theorem dX5_cutInTwo_69 : decode cX5_cutInTwo 69 = .ok (.putfield 174, 3) := by decide +kernel
theorem dX5_cutInTwo_72 : decode cX5_cutInTwo 72 = .ok (.aload_n 1, 1) := by decide +kernel
theorem dX5_cutInTwo_73 : decode cX5_cutInTwo 73 = .ok (.dup, 1) := by decide +kernel
theorem dX5_cutInTwo_74 : decode cX5_cutInTwo 74 = .ok (.getfield 142, 3) := by decide +kernel
theorem dX5_cutInTwo_77 : decode cX5_cutInTwo 77 = .ok (.iconst 2, 1) := by decide +kernel
theorem dX5_cutInTwo_78 : decode cX5_cutInTwo 78 = .ok (.idiv, 1) := by decide +kernel
theorem dX5_cutInTwo_79 : decode cX5_cutInTwo 79 = .ok (.putfield 142, 3) := by decide +kernel
theorem dX5_cutInTwo_82 : decode cX5_cutInTwo 82 = .ok (.return_, 1) := by decide +kernel
set_option maxRecDepth 20000 in
theorem ggX5_canBeJoined_X3_isMoving : GoodIn wsX5_canBeJoined wsX3_isMoving := goodIn_r _ [4, 5, 6, 7, 8, 9, 10, 11, 12, 13, 14, 15, 16, 17, 18] (by decide +kernel) (by decide +kernel)
set_option maxRecDepth 20000 in
theorem gX5_canBeJoined_X3_isMoving_n150 : GoodIn wsX5_canBeJoined (wsX3_isMoving) := ggX5_canBeJoined_X3_isMoving
theorem dX5_canBeJoined_0 : decode cX5_canBeJoined 0 = .ok (.aload_n 1, 1) := by decide +kernel
theorem dX5_canBeJoined_1 : decode cX5_canBeJoined 1 = .ok (.getfield 117, 3) := by decide +kernel
theorem dX5_canBeJoined_4 : decode cX5_canBeJoined 4 = .ok (.aload_n 2, 1) := by decide +kernel
theorem dX5_canBeJoined_5 : decode cX5_canBeJoined 5 = .ok (.getfield 117, 3) := by decide +kernel
theorem dX5_canBeJoined_8 : decode cX5_canBeJoined 8 = .ok (.if_acmp .ne 21, 3) := by decide +kernel
theorem dX5_canBeJoined_11 : decode cX5_canBeJoined 11 = .ok (.aload_n 1, 1) := by decide +kernel
theorem dX5_canBeJoined_12 : decode cX5_canBeJoined 12 = .ok (.invokevirtual 150, 3) := by decide +kernel
theorem dX5_canBeJoined_15 : decode cX5_canBeJoined 15 = .ok (.ifCond .ne 14, 3) := by decide +kernel
theorem dX5_canBeJoined_18 : decode cX5_canBeJoined 18 = .ok (.aload_n 2, 1) := by decide +kernel
theorem dX5_canBeJoined_19 : decode cX5_canBeJoined 19 = .ok (.invokevirtual 150, 3) := by decide +kernel
theorem dX5_canBeJoined_22 : decode cX5_canBeJoined 22 = .ok (.ifCond .ne 7, 3) := by decide +kernel
theorem dX5_canBeJoined_25 : decode cX5_canBeJoined 25 = .ok (.iconst 1, 1) := by decide +kernel
theorem dX5_canBeJoined_26 : decode cX5_canBeJoined 26 = .ok (.goto 4, 3) := by decide +kernel
theorem dX5_canBeJoined_29 : decode cX5_canBeJoined 29 = .ok (.iconst 0, 1) := by decide +kernel
theorem dX5_canBeJoined_30 : decode cX5_canBeJoined 30 = .ok (.ireturn, 1) := by decide +kernel
set_option maxRecDepth 20000 in
theorem ggX5_failMovesOf_X3_isMoving : GoodIn wsX5_failMovesOf wsX3_isMoving := goodIn_r _ [6, 7, 37, 38, 39, 40, 41, 42, 43, 44, 45, 46, 47, 48, 49] (by decide +kernel) (by decide +kernel)
set_option maxRecDepth 20000 in
theorem gX5_failMovesOf_X3_isMoving_n150 : GoodIn wsX5_failMovesOf (wsX3_isMoving) := ggX5_failMovesOf_X3_isMoving
set_option maxRecDepth 20000 in
theorem ggX5_failMovesOf_X5_failMove : GoodIn wsX5_failMovesOf wsX5_failMove := goodIn_r _ [12, 13, 14, 15, 4, 16, 17, 7, 18, 19, 20, 21, 37, 38, 39, 40, 41, 42, 43, 44, 45, 46, 47, 48, 49, 22, 23, 24, 25, 26, 27, 28, 29, 30, 31, 32, 33, 34, 35, 36] (by decide +kernel) (by decide +kernel)
set_option maxRecDepth 20000 in
theorem gX5_failMovesOf_X5_failMove : GoodIn wsX5_failMovesOf (wsV RX5 187 RX5 yX5_failMove wsX5_failMove) := goodIn_app (goodIn_of _ (by decide +kernel)) ggX5_failMovesOf_X5_failMove
theorem dX5_failMovesOf_0 : decode cX5_failMovesOf 0 = .ok (.iconst 0, 1) := by decide +kernel
theorem dX5_failMovesOf_1 : decode cX5_failMovesOf 1 = .ok (.istore_n 2, 1) := by decide +kernel
theorem dX5_failMovesOf_2 : decode cX5_failMovesOf 2 = .ok (.iload_n 2, 1) := by decide +kernel
theorem dX5_failMovesOf_3 : decode cX5_failMovesOf 3 = .ok (.aload_n 0, 1) := by decide +kernel
theorem dX5_failMovesOf_4 : decode cX5_failMovesOf 4 = .ok (.getfield 45, 3) := by decide +kernel
theorem dX5_failMovesOf_7 : decode cX5_failMovesOf 7 = .ok (.if_icmp .ge 44, 3) := by decide +kernel
theorem dX5_failMovesOf_10 : decode cX5_failMovesOf 10 = .ok (.aload_n 0, 1) := by decide +kernel
theorem dX5_failMovesOf_11 : decode cX5_failMovesOf 11 = .ok (.getfield 38, 3) := by decide +kernel
theorem dX5_failMovesOf_14 : decode cX5_failMovesOf 14 = .ok (.iload_n 2, 1) := by decide +kernel
theorem dX5_failMovesOf_15 : decode cX5_failMovesOf 15 = .ok (.aaload, 1) := by decide +kernel
theorem dX5_failMovesOf_16 : decode cX5_failMovesOf 16 = .ok (.astore_n 3, 1) := by decide +kernel
theorem dX5_failMovesOf_17 : decode cX5_failMovesOf 17 = .ok (.aload_n 3, 1) := by decide +kernel
theorem dX5_failMovesOf_18 : decode cX5_failMovesOf 18 = .ok (.invokevirtual 150, 3) := by decide +kernel
theorem dX5_failMovesOf_21 : decode cX5_failMovesOf 21 = .ok (.ifCond .eq 24, 3) := by decide +kernel
theorem dX5_failMovesOf_24 : decode cX5_failMovesOf 24 = .ok (.aload_n 3, 1) := by decide +kernel
theorem dX5_failMovesOf_25 : decode cX5_failMovesOf 25 = .ok (.getfield 117, 3) := by decide +kernel
theorem dX5_failMovesOf_28 : decode cX5_failMovesOf 28 = .ok (.aload_n 1, 1) := by decide +kernel
theorem dX5_failMovesOf_29 : decode cX5_failMovesOf 29 = .ok (.if_acmp .eq 11, 3) := by decide +kernel
theorem dX5_failMovesOf_32 : decode cX5_failMovesOf 32 = .ok (.aload_n 3, 1) := by decide +kernel
theorem dX5_failMovesOf_33 : decode cX5_failMovesOf 33 = .ok (.getfield 201, 3) := by decide +kernel
theorem dX5_failMovesOf_36 : decode cX5_failMovesOf 36 = .ok (.aload_n 1, 1) := by decide +kernel
theorem dX5_failMovesOf_37 : decode cX5_failMovesOf 37 = .ok (.if_acmp .ne 8, 3) := by decide +kernel
theorem dX5_failMovesOf_40 : decode cX5_failMovesOf 40 = .ok (.aload_n 0, 1) := by decide +kernel
theorem dX5_failMovesOf_41 : decode cX5_failMovesOf 41 = .ok (.aload_n 3, 1) := by decide +kernel
theorem dX5_failMovesOf_42 : decode cX5_failMovesOf 42 = .ok (.invokevirtual 187, 3) := by decide +kernel
theorem dX5_failMovesOf_45 : decode cX5_failMovesOf 45 = .ok (.iinc 2 1, 3) := by decide +kernel
theorem dX5_failMovesOf_48 : decode cX5_failMovesOf 48 = .ok (.goto (-46), 3) := by decide +kernel
theorem dX5_failMovesOf_51 : decode cX5_failMovesOf 51 = .ok (.return_, 1) := by decide +kernel
set_option maxRecDepth 20000 in
theorem ggX5_failMove_X3_aimAt : GoodIn wsX5_failMove wsX3_aimAt := goodIn_r _ [6, 7, 8, 9, 10, 11, 12, 13, 14, 15, 16, 17, 18, 19, 20] (by decide +kernel) (by decide +kernel)
set_option maxRecDepth 20000 in
theorem gX5_failMove_X3_aimAt_n179 : GoodIn wsX5_failMove (wsX3_aimAt) := ggX5_failMove_X3_aimAt
theorem dX5_failMove_0 : decode cX5_failMove 0 = .ok (.aload_n 1, 1) := by decide +kernel
theorem dX5_failMove_1 : decode cX5_failMove 1 = .ok (.getfield 201, 3) := by decide +kernel
theorem dX5_failMove_4 : decode cX5_failMove 4 = .ok (.dup, 1) := by decide +kernel
theorem dX5_failMove_5 : decode cX5_failMove 5 = .ok (.getfield 206, 3) := by decide +kernel
theorem dX5_failMove_8 : decode cX5_failMove 8 = .ok (.aload_n 1, 1) := by decide +kernel
theorem dX5_failMove_9 : decode cX5_failMove 9 = .ok (.getfield 184, 3) := by decide +kernel
theorem dX5_failMove_12 : decode cX5_failMove 12 = .ok (.isub, 1) := by decide +kernel
theorem dX5_failMove_13 : decode cX5_failMove 13 = .ok (.putfield 206, 3) := by decide +kernel
theorem dX5_failMove_16 : decode cX5_failMove 16 = .ok (.aload_n 1, 1) := by decide +kernel
theorem dX5_failMove_17 : decode cX5_failMove 17 = .ok (.aload_n 0, 1) := by decide +kernel
theorem dX5_failMove_18 : decode cX5_failMove 18 = .ok (.getfield 14, 3) := by decide +kernel
theorem dX5_failMove_21 : decode cX5_failMove 21 = .ok (.invokevirtual 179, 3) := by decide +kernel
theorem dX5_failMove_24 : decode cX5_failMove 24 = .ok (.aload_n 0, 1) := by decide +kernel
theorem dX5_failMove_25 : decode cX5_failMove 25 = .ok (.dup, 1) := by decide +kernel
theorem dX5_failMove_26 : decode cX5_failMove 26 = .ok (.getfield 248, 3) := by decide +kernel
theorem dX5_failMove_29 : decode cX5_failMove 29 = .ok (.iconst 1, 1) := by decide +kernel
theorem dX5_failMove_30 : decode cX5_failMove 30 = .ok (.iadd, 1) := by decide +kernel
theorem dX5_failMove_31 : decode cX5_failMove 31 = .ok (.putfield 248, 3) := by decide +kernel
theorem dX5_failMove_34 : decode cX5_failMove 34 = .ok (.return_, 1) := by decide +kernel
set_option maxRecDepth 20000 in
theorem ggX5_cutOver_X3_aimAt : GoodIn wsX5_cutOver wsX3_aimAt := goodIn_r _ [10, 11, 12, 13, 14, 15, 25, 26, 27, 28, 29, 30, 31, 32, 33] (by decide +kernel) (by decide +kernel)
set_option maxRecDepth 20000 in
theorem gX5_cutOver_X3_aimAt_n179 : GoodIn wsX5_cutOver (wsX3_aimAt) := ggX5_cutOver_X3_aimAt
set_option maxRecDepth 20000 in
theorem ggX5_cutOver_X1_init : GoodIn wsX5_cutOver wsX1_init := goodIn_r _ [17, 18, 19, 20, 21, 22, 23, 24, 53, 54, 55, 56] (by decide +kernel) (by decide +kernel)
set_option maxRecDepth 20000 in
theorem gX5_cutOver_X1_init_n278 : GoodIn wsX5_cutOver (wsX1_init) := ggX5_cutOver_X1_init
theorem dX5_cutOver_0 : decode cX5_cutOver 0 = .ok (.aload_n 1, 1) := by decide +kernel
theorem dX5_cutOver_1 : decode cX5_cutOver 1 = .ok (.getfield 117, 3) := by decide +kernel
theorem dX5_cutOver_4 : decode cX5_cutOver 4 = .ok (.dup, 1) := by decide +kernel
theorem dX5_cutOver_5 : decode cX5_cutOver 5 = .ok (.getfield 206, 3) := by decide +kernel
theorem dX5_cutOver_8 : decode cX5_cutOver 8 = .ok (.aload_n 1, 1) := by decide +kernel
theorem dX5_cutOver_9 : decode cX5_cutOver 9 = .ok (.getfield 174, 3) := by decide +kernel
theorem dX5_cutOver_12 : decode cX5_cutOver 12 = .ok (.isub, 1) := by decide +kernel
theorem dX5_cutOver_13 : decode cX5_cutOver 13 = .ok (.putfield 206, 3) := by decide +kernel
theorem dX5_cutOver_16 : decode cX5_cutOver 16 = .ok (.aload_n 1, 1) := by decide +kernel
theorem dX5_cutOver_17 : decode cX5_cutOver 17 = .ok (.aload_n 1, 1) := by decide +kernel
theorem dX5_cutOver_18 : decode cX5_cutOver 18 = .ok (.getfield 201, 3) := by decide +kernel
theorem dX5_cutOver_21 : decode cX5_cutOver 21 = .ok (.putfield 117, 3) := by decide +kernel
theorem dX5_cutOver_24 : decode cX5_cutOver 24 = .ok (.aload_n 1, 1) := by decide +kernel
theorem dX5_cutOver_25 : decode cX5_cutOver 25 = .ok (.aload_n 0, 1) := by decide +kernel
theorem dX5_cutOver_26 : decode cX5_cutOver 26 = .ok (.getfield 14, 3) := by decide +kernel
theorem dX5_cutOver_29 : decode cX5_cutOver 29 = .ok (.invokevirtual 179, 3) := by decide +kernel
theorem dX5_cutOver_32 : decode cX5_cutOver 32 = .ok (.aload_n 0, 1) := by decide +kernel
theorem dX5_cutOver_33 : decode cX5_cutOver 33 = .ok (.dup, 1) := by decide +kernel
theorem dX5_cutOver_34 : decode cX5_cutOver 34 = .ok (.getfield 245, 3) := by decide +kernel
theorem dX5_cutOver_37 : decode cX5_cutOver 37 = .ok (.iconst 1, 1) := by decide +kernel
theorem dX5_cutOver_38 : decode cX5_cutOver 38 = .ok (.iadd, 1) := by decide +kernel
theorem dX5_cutOver_39 : decode cX5_cutOver 39 = .ok (.putfield 245, 3) := by decide +kernel
theorem dX5_cutOver_42 : decode cX5_cutOver 42 = .ok (.aload_n 0, 1) := by decide +kernel
theorem dX5_cutOver_43 : decode cX5_cutOver 43 = .ok (.new 237, 3) := by decide +kernel
theorem dX5_cutOver_46 : decode cX5_cutOver 46 = .ok (.dup, 1) := by decide +kernel
theorem dX5_cutOver_47 : decode cX5_cutOver 47 = .ok (.aload_n 1, 1) := by decide +kernel
theorem dX5_cutOver_48 : decode cX5_cutOver 48 = .ok (.getfield 147, 3) := by decide +kernel
theorem dX5_cutOver_51 : decode cX5_cutOver 51 = .ok (.aload_n 1, 1) := by decide +kernel
theorem dX5_cutOver_52 : decode cX5_cutOver 52 = .ok (.getfield 171, 3) := by decide +kernel
theorem dX5_cutOver_55 : decode cX5_cutOver 55 = .ok (.aload_n 1, 1) := by decide +kernel
theorem dX5_cutOver_56 : decode cX5_cutOver 56 = .ok (.getfield 117, 3) := by decide +kernel
theorem dX5_cutOver_59 : decode cX5_cutOver 59 = .ok (.getfield 71, 3) := by decide +kernel
theorem dX5_cutOver_62 : decode cX5_cutOver 62 = .ok (.aload_n 0, 1) := by decide +kernel
theorem dX5_cutOver_63 : decode cX5_cutOver 63 = .ok (.getfield 232, 3) := by decide +kernel
theorem dX5_cutOver_66 : decode cX5_cutOver 66 = .ok (.invokespecial 278, 3) := by decide +kernel
theorem dX5_cutOver_69 : decode cX5_cutOver 69 = .ok (.putfield 232, 3) := by decide +kernel
theorem dX5_cutOver_72 : decode cX5_cutOver 72 = .ok (.return_, 1) := by decide +kernel
set_option maxRecDepth 20000 in
theorem ggX5_copyForOneHour_X2_hasRoomFor : GoodIn wsX5_copyForOneHour wsX2_hasRoomFor := goodIn_r _ [5, 6, 7, 69, 70, 71, 72] (by decide +kernel) (by decide +kernel)
set_option maxRecDepth 20000 in
theorem gX5_copyForOneHour_X2_hasRoomFor_n120 : GoodIn wsX5_copyForOneHour (wsX2_hasRoomFor) := ggX5_copyForOneHour_X2_hasRoomFor
set_option maxRecDepth 20000 in
theorem ggX5_copyForOneHour_X5_failMove : GoodIn wsX5_copyForOneHour wsX5_failMove := goodIn_r _ [12, 13, 14, 15, 16, 17, 18, 19, 20, 21, 22, 23, 45, 46, 47, 48, 49, 50, 51, 52, 53, 69, 70, 71, 72, 54, 55, 56, 57, 58, 59, 60, 61, 62, 63, 64, 65, 66, 67, 68] (by decide +kernel) (by decide +kernel)
set_option maxRecDepth 20000 in
theorem gX5_copyForOneHour_X5_failMove : GoodIn wsX5_copyForOneHour (wsV RX5 187 RX5 yX5_failMove wsX5_failMove) := goodIn_app (goodIn_of _ (by decide +kernel)) ggX5_copyForOneHour_X5_failMove
set_option maxRecDepth 20000 in
theorem ggX5_copyForOneHour_X3_takeCopy : GoodIn wsX5_copyForOneHour wsX3_takeCopy := goodIn_r _ [26, 21, 22, 23, 19, 45, 46, 47, 48, 49, 50, 51, 52, 53, 69, 70, 71, 72] (by decide +kernel) (by decide +kernel)
set_option maxRecDepth 20000 in
theorem gX5_copyForOneHour_X3_takeCopy_n287 : GoodIn wsX5_copyForOneHour (wsX3_takeCopy) := ggX5_copyForOneHour_X3_takeCopy
set_option maxRecDepth 20000 in
theorem ggX5_copyForOneHour_X5_cutOver : GoodIn wsX5_copyForOneHour wsX5_cutOver := goodIn_r _ [30, 13, 31, 32, 33, 34, 35, 15, 16, 17, 18, 19, 20, 21, 22, 23, 36, 37, 38, 39, 40, 41, 42, 43, 44, 45, 46, 47, 48, 49, 50, 51, 52, 53, 69, 70, 71, 72, 54, 55, 56, 57, 58, 59, 60, 61, 62, 63, 64, 65, 66, 67, 68, 73, 74, 75, 76] (by decide +kernel) (by decide +kernel)
set_option maxRecDepth 20000 in
theorem gX5_copyForOneHour_X5_cutOver : GoodIn wsX5_copyForOneHour (wsV RX5 290 RX5 yX5_cutOver wsX5_cutOver) := goodIn_app (goodIn_of _ (by decide +kernel)) ggX5_copyForOneHour_X5_cutOver
theorem dX5_copyForOneHour_0 : decode cX5_copyForOneHour 0 = .ok (.aload_n 1, 1) := by decide +kernel
theorem dX5_copyForOneHour_1 : decode cX5_copyForOneHour 1 = .ok (.dup, 1) := by decide +kernel
theorem dX5_copyForOneHour_2 : decode cX5_copyForOneHour 2 = .ok (.getfield 281, 3) := by decide +kernel
theorem dX5_copyForOneHour_5 : decode cX5_copyForOneHour 5 = .ok (.bipush 50, 2) := by decide +kernel
theorem dX5_copyForOneHour_7 : decode cX5_copyForOneHour 7 = .ok (.iadd, 1) := by decide +kernel
theorem dX5_copyForOneHour_8 : decode cX5_copyForOneHour 8 = .ok (.putfield 281, 3) := by decide +kernel
theorem dX5_copyForOneHour_11 : decode cX5_copyForOneHour 11 = .ok (.aload_n 1, 1) := by decide +kernel
theorem dX5_copyForOneHour_12 : decode cX5_copyForOneHour 12 = .ok (.getfield 284, 3) := by decide +kernel
theorem dX5_copyForOneHour_15 : decode cX5_copyForOneHour 15 = .ok (.istore_n 2, 1) := by decide +kernel
theorem dX5_copyForOneHour_16 : decode cX5_copyForOneHour 16 = .ok (.iload_n 2, 1) := by decide +kernel
theorem dX5_copyForOneHour_17 : decode cX5_copyForOneHour 17 = .ok (.aload_n 1, 1) := by decide +kernel
theorem dX5_copyForOneHour_18 : decode cX5_copyForOneHour 18 = .ok (.getfield 171, 3) := by decide +kernel
theorem dX5_copyForOneHour_21 : decode cX5_copyForOneHour 21 = .ok (.if_icmp .gt 54, 3) := by decide +kernel
theorem dX5_copyForOneHour_24 : decode cX5_copyForOneHour 24 = .ok (.iload_n 2, 1) := by decide +kernel
theorem dX5_copyForOneHour_25 : decode cX5_copyForOneHour 25 = .ok (.sipush 1000, 3) := by decide +kernel
theorem dX5_copyForOneHour_28 : decode cX5_copyForOneHour 28 = .ok (.if_icmp .ge 47, 3) := by decide +kernel
theorem dX5_copyForOneHour_31 : decode cX5_copyForOneHour 31 = .ok (.aload_n 0, 1) := by decide +kernel
theorem dX5_copyForOneHour_32 : decode cX5_copyForOneHour 32 = .ok (.getfield 18, 3) := by decide +kernel
theorem dX5_copyForOneHour_35 : decode cX5_copyForOneHour 35 = .ok (.iload_n 2, 1) := by decide +kernel
theorem dX5_copyForOneHour_36 : decode cX5_copyForOneHour 36 = .ok (.iaload, 1) := by decide +kernel
theorem dX5_copyForOneHour_37 : decode cX5_copyForOneHour 37 = .ok (.istore_n 3, 1) := by decide +kernel
theorem dX5_copyForOneHour_38 : decode cX5_copyForOneHour 38 = .ok (.iload_n 3, 1) := by decide +kernel
theorem dX5_copyForOneHour_39 : decode cX5_copyForOneHour 39 = .ok (.aload_n 1, 1) := by decide +kernel
theorem dX5_copyForOneHour_40 : decode cX5_copyForOneHour 40 = .ok (.getfield 281, 3) := by decide +kernel
theorem dX5_copyForOneHour_43 : decode cX5_copyForOneHour 43 = .ok (.if_icmp .le 4, 3) := by decide +kernel
theorem dX5_copyForOneHour_46 : decode cX5_copyForOneHour 46 = .ok (.return_, 1) := by decide +kernel
theorem dX5_copyForOneHour_47 : decode cX5_copyForOneHour 47 = .ok (.aload_n 1, 1) := by decide +kernel
theorem dX5_copyForOneHour_48 : decode cX5_copyForOneHour 48 = .ok (.getfield 201, 3) := by decide +kernel
theorem dX5_copyForOneHour_51 : decode cX5_copyForOneHour 51 = .ok (.iload_n 3, 1) := by decide +kernel
theorem dX5_copyForOneHour_52 : decode cX5_copyForOneHour 52 = .ok (.invokevirtual 120, 3) := by decide +kernel
theorem dX5_copyForOneHour_55 : decode cX5_copyForOneHour 55 = .ok (.ifCond .ne 9, 3) := by decide +kernel
theorem dX5_copyForOneHour_58 : decode cX5_copyForOneHour 58 = .ok (.aload_n 0, 1) := by decide +kernel
theorem dX5_copyForOneHour_59 : decode cX5_copyForOneHour 59 = .ok (.aload_n 1, 1) := by decide +kernel
theorem dX5_copyForOneHour_60 : decode cX5_copyForOneHour 60 = .ok (.invokevirtual 187, 3) := by decide +kernel
theorem dX5_copyForOneHour_63 : decode cX5_copyForOneHour 63 = .ok (.return_, 1) := by decide +kernel
theorem dX5_copyForOneHour_64 : decode cX5_copyForOneHour 64 = .ok (.aload_n 1, 1) := by decide +kernel
theorem dX5_copyForOneHour_65 : decode cX5_copyForOneHour 65 = .ok (.iload_n 3, 1) := by decide +kernel
theorem dX5_copyForOneHour_66 : decode cX5_copyForOneHour 66 = .ok (.invokevirtual 287, 3) := by decide +kernel
theorem dX5_copyForOneHour_69 : decode cX5_copyForOneHour 69 = .ok (.iinc 2 1, 3) := by decide +kernel
theorem dX5_copyForOneHour_72 : decode cX5_copyForOneHour 72 = .ok (.goto (-56), 3) := by decide +kernel
theorem dX5_copyForOneHour_75 : decode cX5_copyForOneHour 75 = .ok (.aload_n 0, 1) := by decide +kernel
theorem dX5_copyForOneHour_76 : decode cX5_copyForOneHour 76 = .ok (.aload_n 1, 1) := by decide +kernel
theorem dX5_copyForOneHour_77 : decode cX5_copyForOneHour 77 = .ok (.invokevirtual 290, 3) := by decide +kernel
theorem dX5_copyForOneHour_80 : decode cX5_copyForOneHour 80 = .ok (.return_, 1) := by decide +kernel
set_option maxRecDepth 20000 in
theorem ggX5_passOneHour_X3_isMoving : GoodIn wsX5_passOneHour wsX3_isMoving := goodIn_r _ [9, 10, 105, 106, 107, 108, 109, 110, 111, 112, 113, 114, 115, 116, 117] (by decide +kernel) (by decide +kernel)
set_option maxRecDepth 20000 in
theorem gX5_passOneHour_X3_isMoving_n150 : GoodIn wsX5_passOneHour (wsX3_isMoving) := ggX5_passOneHour_X3_isMoving
set_option maxRecDepth 20000 in
theorem ggX5_passOneHour_X5_copyForOneHour : GoodIn wsX5_passOneHour wsX5_copyForOneHour := goodIn_r _ [15, 16, 17, 18, 19, 20, 21, 22, 23, 24, 25, 14, 26, 27, 28, 29, 7, 30, 31, 10, 32, 33, 34, 35, 36, 37, 38, 39, 40, 41, 42, 43, 44, 45, 46, 47, 48, 49, 50, 51, 52, 53, 54, 55, 56, 105, 106, 107, 108, 109, 110, 111, 112, 113, 87, 88, 89, 90, 91, 92, 93, 94, 95, 96, 97, 98, 99, 100, 101, 114, 115, 116, 117, 118, 119, 120, 121] (by decide +kernel) (by decide +kernel)
set_option maxRecDepth 20000 in
theorem gX5_passOneHour_X5_copyForOneHour : GoodIn wsX5_passOneHour (wsV RX5 293 RX5 yX5_copyForOneHour wsX5_copyForOneHour) := goodIn_app (goodIn_of _ (by decide +kernel)) ggX5_passOneHour_X5_copyForOneHour
set_option maxRecDepth 20000 in
theorem ggX5_passOneHour_X5_drawMoveByHeat : GoodIn wsX5_passOneHour wsX5_drawMoveByHeat := goodIn_r _ [60, 5, 3, 61, 62, 63, 14, 64, 27, 65, 66, 67, 68, 69, 70, 2, 71, 72, 73, 74, 75, 76, 77, 78, 6, 7, 8, 9, 10, 79, 80, 81, 82, 83, 84, 85, 86, 29, 30, 31, 32, 33, 34, 35, 87, 88, 89, 90, 91, 92, 93, 94, 95, 96, 97, 98, 99, 100, 101, 105, 106, 107, 108, 109, 110, 111, 112, 113, 114, 115, 116, 117] (by decide +kernel) (by decide +kernel)
set_option maxRecDepth 20000 in
theorem gX5_passOneHour_X5_drawMoveByHeat : GoodIn wsX5_passOneHour (wsV RX5 296 RX5 yX5_drawMoveByHeat wsX5_drawMoveByHeat) := goodIn_app (goodIn_of _ (by decide +kernel)) ggX5_passOneHour_X5_drawMoveByHeat
theorem dX5_passOneHour_0 : decode cX5_passOneHour 0 = .ok (.aload_n 0, 1) := by decide +kernel
theorem dX5_passOneHour_1 : decode cX5_passOneHour 1 = .ok (.dup, 1) := by decide +kernel
theorem dX5_passOneHour_2 : decode cX5_passOneHour 2 = .ok (.getfield 193, 3) := by decide +kernel
theorem dX5_passOneHour_5 : decode cX5_passOneHour 5 = .ok (.iconst 1, 1) := by decide +kernel
theorem dX5_passOneHour_6 : decode cX5_passOneHour 6 = .ok (.iadd, 1) := by decide +kernel
theorem dX5_passOneHour_7 : decode cX5_passOneHour 7 = .ok (.putfield 193, 3) := by decide +kernel
theorem dX5_passOneHour_10 : decode cX5_passOneHour 10 = .ok (.iconst 0, 1) := by decide +kernel
theorem dX5_passOneHour_11 : decode cX5_passOneHour 11 = .ok (.istore_n 1, 1) := by decide +kernel
theorem dX5_passOneHour_12 : decode cX5_passOneHour 12 = .ok (.iload_n 1, 1) := by decide +kernel
theorem dX5_passOneHour_13 : decode cX5_passOneHour 13 = .ok (.aload_n 0, 1) := by decide +kernel
theorem dX5_passOneHour_14 : decode cX5_passOneHour 14 = .ok (.getfield 45, 3) := by decide +kernel
theorem dX5_passOneHour_17 : decode cX5_passOneHour 17 = .ok (.if_icmp .ge 31, 3) := by decide +kernel
theorem dX5_passOneHour_20 : decode cX5_passOneHour 20 = .ok (.aload_n 0, 1) := by decide +kernel
theorem dX5_passOneHour_21 : decode cX5_passOneHour 21 = .ok (.getfield 38, 3) := by decide +kernel
theorem dX5_passOneHour_24 : decode cX5_passOneHour 24 = .ok (.iload_n 1, 1) := by decide +kernel
theorem dX5_passOneHour_25 : decode cX5_passOneHour 25 = .ok (.aaload, 1) := by decide +kernel
theorem dX5_passOneHour_26 : decode cX5_passOneHour 26 = .ok (.invokevirtual 150, 3) := by decide +kernel
theorem dX5_passOneHour_29 : decode cX5_passOneHour 29 = .ok (.ifCond .eq 13, 3) := by decide +kernel
theorem dX5_passOneHour_32 : decode cX5_passOneHour 32 = .ok (.aload_n 0, 1) := by decide +kernel
theorem dX5_passOneHour_33 : decode cX5_passOneHour 33 = .ok (.aload_n 0, 1) := by decide +kernel
theorem dX5_passOneHour_34 : decode cX5_passOneHour 34 = .ok (.getfield 38, 3) := by decide +kernel
theorem dX5_passOneHour_37 : decode cX5_passOneHour 37 = .ok (.iload_n 1, 1) := by decide +kernel
theorem dX5_passOneHour_38 : decode cX5_passOneHour 38 = .ok (.aaload, 1) := by decide +kernel
theorem dX5_passOneHour_39 : decode cX5_passOneHour 39 = .ok (.invokevirtual 293, 3) := by decide +kernel
theorem dX5_passOneHour_42 : decode cX5_passOneHour 42 = .ok (.iinc 1 1, 3) := by decide +kernel
theorem dX5_passOneHour_45 : decode cX5_passOneHour 45 = .ok (.goto (-33), 3) := by decide +kernel
theorem dX5_passOneHour_48 : decode cX5_passOneHour 48 = .ok (.iconst 0, 1) := by decide +kernel
theorem dX5_passOneHour_49 : decode cX5_passOneHour 49 = .ok (.istore_n 1, 1) := by decide +kernel
theorem dX5_passOneHour_50 : decode cX5_passOneHour 50 = .ok (.iload_n 1, 1) := by decide +kernel
theorem dX5_passOneHour_51 : decode cX5_passOneHour 51 = .ok (.iconst 4, 1) := by decide +kernel
theorem dX5_passOneHour_52 : decode cX5_passOneHour 52 = .ok (.if_icmp .ge 32, 3) := by decide +kernel
theorem dX5_passOneHour_55 : decode cX5_passOneHour 55 = .ok (.aload_n 0, 1) := by decide +kernel
theorem dX5_passOneHour_56 : decode cX5_passOneHour 56 = .ok (.getfield 27, 3) := by decide +kernel
theorem dX5_passOneHour_59 : decode cX5_passOneHour 59 = .ok (.iload_n 1, 1) := by decide +kernel
theorem dX5_passOneHour_60 : decode cX5_passOneHour 60 = .ok (.aaload, 1) := by decide +kernel
theorem dX5_passOneHour_61 : decode cX5_passOneHour 61 = .ok (.dup, 1) := by decide +kernel
theorem dX5_passOneHour_62 : decode cX5_passOneHour 62 = .ok (.getfield 216, 3) := by decide +kernel
theorem dX5_passOneHour_65 : decode cX5_passOneHour 65 = .ok (.aload_n 0, 1) := by decide +kernel
theorem dX5_passOneHour_66 : decode cX5_passOneHour 66 = .ok (.getfield 27, 3) := by decide +kernel
theorem dX5_passOneHour_69 : decode cX5_passOneHour 69 = .ok (.iload_n 1, 1) := by decide +kernel
theorem dX5_passOneHour_70 : decode cX5_passOneHour 70 = .ok (.aaload, 1) := by decide +kernel
theorem dX5_passOneHour_71 : decode cX5_passOneHour 71 = .ok (.getfield 133, 3) := by decide +kernel
theorem dX5_passOneHour_74 : decode cX5_passOneHour 74 = .ok (.iadd, 1) := by decide +kernel
theorem dX5_passOneHour_75 : decode cX5_passOneHour 75 = .ok (.putfield 216, 3) := by decide +kernel
theorem dX5_passOneHour_78 : decode cX5_passOneHour 78 = .ok (.iinc 1 1, 3) := by decide +kernel
theorem dX5_passOneHour_81 : decode cX5_passOneHour 81 = .ok (.goto (-31), 3) := by decide +kernel
theorem dX5_passOneHour_84 : decode cX5_passOneHour 84 = .ok (.aload_n 0, 1) := by decide +kernel
theorem dX5_passOneHour_85 : decode cX5_passOneHour 85 = .ok (.getfield 101, 3) := by decide +kernel
theorem dX5_passOneHour_88 : decode cX5_passOneHour 88 = .ok (.ifCond .eq 7, 3) := by decide +kernel
theorem dX5_passOneHour_91 : decode cX5_passOneHour 91 = .ok (.aload_n 0, 1) := by decide +kernel
theorem dX5_passOneHour_92 : decode cX5_passOneHour 92 = .ok (.invokevirtual 296, 3) := by decide +kernel
theorem dX5_passOneHour_95 : decode cX5_passOneHour 95 = .ok (.iconst 0, 1) := by decide +kernel
theorem dX5_passOneHour_96 : decode cX5_passOneHour 96 = .ok (.istore_n 1, 1) := by decide +kernel
theorem dX5_passOneHour_97 : decode cX5_passOneHour 97 = .ok (.iload_n 1, 1) := by decide +kernel
theorem dX5_passOneHour_98 : decode cX5_passOneHour 98 = .ok (.aload_n 0, 1) := by decide +kernel
theorem dX5_passOneHour_99 : decode cX5_passOneHour 99 = .ok (.getfield 45, 3) := by decide +kernel
theorem dX5_passOneHour_102 : decode cX5_passOneHour 102 = .ok (.if_icmp .ge 24, 3) := by decide +kernel
theorem dX5_passOneHour_105 : decode cX5_passOneHour 105 = .ok (.aload_n 0, 1) := by decide +kernel
theorem dX5_passOneHour_106 : decode cX5_passOneHour 106 = .ok (.getfield 38, 3) := by decide +kernel
theorem dX5_passOneHour_109 : decode cX5_passOneHour 109 = .ok (.iload_n 1, 1) := by decide +kernel
theorem dX5_passOneHour_110 : decode cX5_passOneHour 110 = .ok (.aaload, 1) := by decide +kernel
theorem dX5_passOneHour_111 : decode cX5_passOneHour 111 = .ok (.dup, 1) := by decide +kernel
theorem dX5_passOneHour_112 : decode cX5_passOneHour 112 = .ok (.getfield 142, 3) := by decide +kernel
theorem dX5_passOneHour_115 : decode cX5_passOneHour 115 = .ok (.iconst 2, 1) := by decide +kernel
theorem dX5_passOneHour_116 : decode cX5_passOneHour 116 = .ok (.idiv, 1) := by decide +kernel
theorem dX5_passOneHour_117 : decode cX5_passOneHour 117 = .ok (.putfield 142, 3) := by decide +kernel
theorem dX5_passOneHour_120 : decode cX5_passOneHour 120 = .ok (.iinc 1 1, 3) := by decide +kernel
theorem dX5_passOneHour_123 : decode cX5_passOneHour 123 = .ok (.goto (-26), 3) := by decide +kernel
theorem dX5_passOneHour_126 : decode cX5_passOneHour 126 = .ok (.return_, 1) := by decide +kernel
set_option maxRecDepth 20000 in
theorem ggX5_drawMoveByHeat_X5_hottestMachineUp : GoodIn wsX5_drawMoveByHeat wsX5_hottestMachineUp := goodIn_r _ [7, 8, 9, 10, 11, 12, 13, 6, 14, 15, 2, 44, 45, 46, 47, 48, 49, 50, 51, 52, 53, 54, 55, 56, 57, 58, 68, 69, 70, 71, 59, 60, 61, 62, 63, 64, 65, 66, 67] (by decide +kernel) (by decide +kernel)
set_option maxRecDepth 20000 in
theorem gX5_drawMoveByHeat_X5_hottestMachineUp : GoodIn wsX5_drawMoveByHeat (wsV RX5 299 RX5 yX5_hottestMachineUp wsX5_hottestMachineUp) := goodIn_app (goodIn_of _ (by decide +kernel)) ggX5_drawMoveByHeat_X5_hottestMachineUp
set_option maxRecDepth 20000 in
theorem ggX5_drawMoveByHeat_X5_coldestMachineUp : GoodIn wsX5_drawMoveByHeat wsX5_coldestMachineUp := goodIn_r _ [19, 8, 9, 10, 11, 12, 13, 6, 14, 15, 2, 44, 45, 46, 47, 48, 49, 50, 51, 52, 53, 54, 55, 56, 57, 58, 68, 69, 70, 71, 59, 60, 61, 62, 63, 64, 65, 66, 67] (by decide +kernel) (by decide +kernel)
set_option maxRecDepth 20000 in
theorem gX5_drawMoveByHeat_X5_coldestMachineUp : GoodIn wsX5_drawMoveByHeat (wsV RX5 303 RX5 yX5_coldestMachineUp wsX5_coldestMachineUp) := goodIn_app (goodIn_of _ (by decide +kernel)) ggX5_drawMoveByHeat_X5_coldestMachineUp
set_option maxRecDepth 20000 in
theorem ggX5_drawMoveByHeat_X5_heatOf : GoodIn wsX5_drawMoveByHeat wsX5_heatOf := goodIn_r _ [14, 15, 2, 44, 45, 46, 47, 48, 49, 50, 51, 52, 53, 54, 55, 56, 57, 58, 59, 60, 61, 62, 63, 64, 65, 66, 67] (by decide +kernel) (by decide +kernel)
set_option maxRecDepth 20000 in
theorem gX5_drawMoveByHeat_X5_heatOf : GoodIn wsX5_drawMoveByHeat (wsV RX5 209 RX5 yX5_heatOf wsX5_heatOf) := goodIn_app (goodIn_of _ (by decide +kernel)) ggX5_drawMoveByHeat_X5_heatOf
set_option maxRecDepth 20000 in
theorem ggX5_drawMoveByHeat_X5_movesAwayFrom : GoodIn wsX5_drawMoveByHeat wsX5_movesAwayFrom := goodIn_r _ [23, 15, 2, 24, 25, 26, 27, 28, 44, 45, 46, 47, 48, 49, 50, 51, 52, 53, 54, 55, 56, 57, 58, 59, 60, 61, 62, 63, 64, 65, 66, 67, 68, 69, 70, 71] (by decide +kernel) (by decide +kernel)
set_option maxRecDepth 20000 in
theorem gX5_drawMoveByHeat_X5_movesAwayFrom : GoodIn wsX5_drawMoveByHeat (wsV RX5 306 RX5 yX5_movesAwayFrom wsX5_movesAwayFrom) := goodIn_app (goodIn_of _ (by decide +kernel)) ggX5_drawMoveByHeat_X5_movesAwayFrom
set_option maxRecDepth 20000 in
theorem ggX5_drawMoveByHeat_X5_hottestShardOn : GoodIn wsX5_drawMoveByHeat wsX5_hottestShardOn := goodIn_r _ [32, 15, 2, 44, 45, 46, 47, 48, 49, 50, 51, 52, 53, 54, 55, 56, 57, 58, 59, 60, 61, 62, 63, 64, 65, 66, 67] (by decide +kernel) (by decide +kernel)
set_option maxRecDepth 20000 in
theorem gX5_drawMoveByHeat_X5_hottestShardOn : GoodIn wsX5_drawMoveByHeat (wsV RX5 310 RX5 yX5_hottestShardOn wsX5_hottestShardOn) := goodIn_app (goodIn_of _ (by decide +kernel)) ggX5_drawMoveByHeat_X5_hottestShardOn
set_option maxRecDepth 20000 in
theorem ggX5_drawMoveByHeat_X5_isShard : GoodIn wsX5_drawMoveByHeat wsX5_isShard := goodIn_r _ [36, 15, 44, 45, 46, 47, 48, 49, 50, 51, 52, 53, 54, 55, 56, 57, 58] (by decide +kernel) (by decide +kernel)
set_option maxRecDepth 20000 in
theorem gX5_drawMoveByHeat_X5_isShard : GoodIn wsX5_drawMoveByHeat (wsV RX5 160 RX5 yX5_isShard wsX5_isShard) := goodIn_app (goodIn_of _ (by decide +kernel)) ggX5_drawMoveByHeat_X5_isShard
set_option maxRecDepth 20000 in
theorem ggX5_drawMoveByHeat_X3_aimAt : GoodIn wsX5_drawMoveByHeat wsX3_aimAt := goodIn_r _ [39, 28, 40, 41, 42, 43, 59, 60, 61, 62, 63, 64, 65, 66, 67] (by decide +kernel) (by decide +kernel)
set_option maxRecDepth 20000 in
theorem gX5_drawMoveByHeat_X3_aimAt_n179 : GoodIn wsX5_drawMoveByHeat (wsX3_aimAt) := ggX5_drawMoveByHeat_X3_aimAt
theorem dX5_drawMoveByHeat_0 : decode cX5_drawMoveByHeat 0 = .ok (.aload_n 0, 1) := by decide +kernel
theorem dX5_drawMoveByHeat_1 : decode cX5_drawMoveByHeat 1 = .ok (.invokevirtual 299, 3) := by decide +kernel
theorem dX5_drawMoveByHeat_4 : decode cX5_drawMoveByHeat 4 = .ok (.astore_n 1, 1) := by decide +kernel
theorem dX5_drawMoveByHeat_5 : decode cX5_drawMoveByHeat 5 = .ok (.aload_n 0, 1) := by decide +kernel
theorem dX5_drawMoveByHeat_6 : decode cX5_drawMoveByHeat 6 = .ok (.invokevirtual 303, 3) := by decide +kernel
theorem dX5_drawMoveByHeat_9 : decode cX5_drawMoveByHeat 9 = .ok (.astore_n 2, 1) := by decide +kernel
theorem dX5_drawMoveByHeat_10 : decode cX5_drawMoveByHeat 10 = .ok (.aload_n 0, 1) := by decide +kernel
theorem dX5_drawMoveByHeat_11 : decode cX5_drawMoveByHeat 11 = .ok (.aload_n 1, 1) := by decide +kernel
theorem dX5_drawMoveByHeat_12 : decode cX5_drawMoveByHeat 12 = .ok (.invokevirtual 209, 3) := by decide +kernel
theorem dX5_drawMoveByHeat_15 : decode cX5_drawMoveByHeat 15 = .ok (.aload_n 0, 1) := by decide +kernel
theorem dX5_drawMoveByHeat_16 : decode cX5_drawMoveByHeat 16 = .ok (.aload_n 2, 1) := by decide +kernel
theorem dX5_drawMoveByHeat_17 : decode cX5_drawMoveByHeat 17 = .ok (.invokevirtual 209, 3) := by decide +kernel
theorem dX5_drawMoveByHeat_20 : decode cX5_drawMoveByHeat 20 = .ok (.isub, 1) := by decide +kernel
theorem dX5_drawMoveByHeat_21 : decode cX5_drawMoveByHeat 21 = .ok (.aload_n 0, 1) := by decide +kernel
theorem dX5_drawMoveByHeat_22 : decode cX5_drawMoveByHeat 22 = .ok (.getfield 101, 3) := by decide +kernel
theorem dX5_drawMoveByHeat_25 : decode cX5_drawMoveByHeat 25 = .ok (.if_icmp .lt 11, 3) := by decide +kernel
theorem dX5_drawMoveByHeat_28 : decode cX5_drawMoveByHeat 28 = .ok (.aload_n 0, 1) := by decide +kernel
theorem dX5_drawMoveByHeat_29 : decode cX5_drawMoveByHeat 29 = .ok (.aload_n 1, 1) := by decide +kernel
theorem dX5_drawMoveByHeat_30 : decode cX5_drawMoveByHeat 30 = .ok (.invokevirtual 306, 3) := by decide +kernel
theorem dX5_drawMoveByHeat_33 : decode cX5_drawMoveByHeat 33 = .ok (.ifCond .eq 4, 3) := by decide +kernel
theorem dX5_drawMoveByHeat_36 : decode cX5_drawMoveByHeat 36 = .ok (.return_, 1) := by decide +kernel
theorem dX5_drawMoveByHeat_37 : decode cX5_drawMoveByHeat 37 = .ok (.aload_n 0, 1) := by decide +kernel
theorem dX5_drawMoveByHeat_38 : decode cX5_drawMoveByHeat 38 = .ok (.aload_n 1, 1) := by decide +kernel
theorem dX5_drawMoveByHeat_39 : decode cX5_drawMoveByHeat 39 = .ok (.invokevirtual 310, 3) := by decide +kernel
theorem dX5_drawMoveByHeat_42 : decode cX5_drawMoveByHeat 42 = .ok (.istore_n 3, 1) := by decide +kernel
theorem dX5_drawMoveByHeat_43 : decode cX5_drawMoveByHeat 43 = .ok (.aload_n 0, 1) := by decide +kernel
theorem dX5_drawMoveByHeat_44 : decode cX5_drawMoveByHeat 44 = .ok (.iload_n 3, 1) := by decide +kernel
theorem dX5_drawMoveByHeat_45 : decode cX5_drawMoveByHeat 45 = .ok (.invokevirtual 160, 3) := by decide +kernel
theorem dX5_drawMoveByHeat_48 : decode cX5_drawMoveByHeat 48 = .ok (.ifCond .eq 25, 3) := by decide +kernel
theorem dX5_drawMoveByHeat_51 : decode cX5_drawMoveByHeat 51 = .ok (.aload_n 0, 1) := by decide +kernel
theorem dX5_drawMoveByHeat_52 : decode cX5_drawMoveByHeat 52 = .ok (.getfield 38, 3) := by decide +kernel
theorem dX5_drawMoveByHeat_55 : decode cX5_drawMoveByHeat 55 = .ok (.iload_n 3, 1) := by decide +kernel
theorem dX5_drawMoveByHeat_56 : decode cX5_drawMoveByHeat 56 = .ok (.aaload, 1) := by decide +kernel
theorem dX5_drawMoveByHeat_57 : decode cX5_drawMoveByHeat 57 = .ok (.getfield 142, 3) := by decide +kernel
theorem dX5_drawMoveByHeat_60 : decode cX5_drawMoveByHeat 60 = .ok (.ifCond .le 13, 3) := by decide +kernel
theorem dX5_drawMoveByHeat_63 : decode cX5_drawMoveByHeat 63 = .ok (.aload_n 0, 1) := by decide +kernel
theorem dX5_drawMoveByHeat_64 : decode cX5_drawMoveByHeat 64 = .ok (.getfield 38, 3) := by decide +kernel
theorem dX5_drawMoveByHeat_67 : decode cX5_drawMoveByHeat 67 = .ok (.iload_n 3, 1) := by decide +kernel
theorem dX5_drawMoveByHeat_68 : decode cX5_drawMoveByHeat 68 = .ok (.aaload, 1) := by decide +kernel
theorem dX5_drawMoveByHeat_69 : decode cX5_drawMoveByHeat 69 = .ok (.aload_n 2, 1) := by decide +kernel
theorem dX5_drawMoveByHeat_70 : decode cX5_drawMoveByHeat 70 = .ok (.invokevirtual 179, 3) := by decide +kernel
theorem dX5_drawMoveByHeat_73 : decode cX5_drawMoveByHeat 73 = .ok (.return_, 1) := by decide +kernel
set_option maxRecDepth 20000 in
theorem ggX5_hottestMachineUp_X5_heatOf : GoodIn wsX5_hottestMachineUp wsX5_heatOf := goodIn_r _ [8, 9, 10, 11, 12, 13, 14, 15, 16, 17, 18, 19, 20, 21, 22, 23, 24, 25, 30, 31, 32, 33, 34, 35, 36, 37, 38] (by decide +kernel) (by decide +kernel)
set_option maxRecDepth 20000 in
theorem gX5_hottestMachineUp_X5_heatOf : GoodIn wsX5_hottestMachineUp (wsV RX5 209 RX5 yX5_heatOf wsX5_heatOf) := goodIn_app (goodIn_of _ (by decide +kernel)) ggX5_hottestMachineUp_X5_heatOf
theorem dX5_hottestMachineUp_0 : decode cX5_hottestMachineUp 0 = .ok (.aload_n 0, 1) := by decide +kernel
theorem dX5_hottestMachineUp_1 : decode cX5_hottestMachineUp 1 = .ok (.getfield 14, 3) := by decide +kernel
theorem dX5_hottestMachineUp_4 : decode cX5_hottestMachineUp 4 = .ok (.astore_n 1, 1) := by decide +kernel
theorem dX5_hottestMachineUp_5 : decode cX5_hottestMachineUp 5 = .ok (.iconst 0, 1) := by decide +kernel
theorem dX5_hottestMachineUp_6 : decode cX5_hottestMachineUp 6 = .ok (.istore_n 2, 1) := by decide +kernel
theorem dX5_hottestMachineUp_7 : decode cX5_hottestMachineUp 7 = .ok (.iload_n 2, 1) := by decide +kernel
theorem dX5_hottestMachineUp_8 : decode cX5_hottestMachineUp 8 = .ok (.aload_n 0, 1) := by decide +kernel
theorem dX5_hottestMachineUp_9 : decode cX5_hottestMachineUp 9 = .ok (.getfield 56, 3) := by decide +kernel
theorem dX5_hottestMachineUp_12 : decode cX5_hottestMachineUp 12 = .ok (.if_icmp .ge 46, 3) := by decide +kernel
theorem dX5_hottestMachineUp_15 : decode cX5_hottestMachineUp 15 = .ok (.aload_n 0, 1) := by decide +kernel
theorem dX5_hottestMachineUp_16 : decode cX5_hottestMachineUp 16 = .ok (.getfield 32, 3) := by decide +kernel
theorem dX5_hottestMachineUp_19 : decode cX5_hottestMachineUp 19 = .ok (.iload_n 2, 1) := by decide +kernel
theorem dX5_hottestMachineUp_20 : decode cX5_hottestMachineUp 20 = .ok (.aaload, 1) := by decide +kernel
theorem dX5_hottestMachineUp_21 : decode cX5_hottestMachineUp 21 = .ok (.astore_n 3, 1) := by decide +kernel
theorem dX5_hottestMachineUp_22 : decode cX5_hottestMachineUp 22 = .ok (.aload_n 3, 1) := by decide +kernel
theorem dX5_hottestMachineUp_23 : decode cX5_hottestMachineUp 23 = .ok (.getfield 67, 3) := by decide +kernel
theorem dX5_hottestMachineUp_26 : decode cX5_hottestMachineUp 26 = .ok (.ifCond .eq 26, 3) := by decide +kernel
theorem dX5_hottestMachineUp_29 : decode cX5_hottestMachineUp 29 = .ok (.aload_n 1, 1) := by decide +kernel
theorem dX5_hottestMachineUp_30 : decode cX5_hottestMachineUp 30 = .ok (.aload_n 0, 1) := by decide +kernel
theorem dX5_hottestMachineUp_31 : decode cX5_hottestMachineUp 31 = .ok (.getfield 14, 3) := by decide +kernel
theorem dX5_hottestMachineUp_34 : decode cX5_hottestMachineUp 34 = .ok (.if_acmp .eq 16, 3) := by decide +kernel
theorem dX5_hottestMachineUp_37 : decode cX5_hottestMachineUp 37 = .ok (.aload_n 0, 1) := by decide +kernel
theorem dX5_hottestMachineUp_38 : decode cX5_hottestMachineUp 38 = .ok (.aload_n 3, 1) := by decide +kernel
theorem dX5_hottestMachineUp_39 : decode cX5_hottestMachineUp 39 = .ok (.invokevirtual 209, 3) := by decide +kernel
theorem dX5_hottestMachineUp_42 : decode cX5_hottestMachineUp 42 = .ok (.aload_n 0, 1) := by decide +kernel
theorem dX5_hottestMachineUp_43 : decode cX5_hottestMachineUp 43 = .ok (.aload_n 1, 1) := by decide +kernel
theorem dX5_hottestMachineUp_44 : decode cX5_hottestMachineUp 44 = .ok (.invokevirtual 209, 3) := by decide +kernel
theorem dX5_hottestMachineUp_47 : decode cX5_hottestMachineUp 47 = .ok (.if_icmp .le 5, 3) := by decide +kernel
theorem dX5_hottestMachineUp_50 : decode cX5_hottestMachineUp 50 = .ok (.aload_n 3, 1) := by decide +kernel
theorem dX5_hottestMachineUp_51 : decode cX5_hottestMachineUp 51 = .ok (.astore_n 1, 1) := by decide +kernel
theorem dX5_hottestMachineUp_52 : decode cX5_hottestMachineUp 52 = .ok (.iinc 2 1, 3) := by decide +kernel
theorem dX5_hottestMachineUp_55 : decode cX5_hottestMachineUp 55 = .ok (.goto (-48), 3) := by decide +kernel
theorem dX5_hottestMachineUp_58 : decode cX5_hottestMachineUp 58 = .ok (.aload_n 1, 1) := by decide +kernel
theorem dX5_hottestMachineUp_59 : decode cX5_hottestMachineUp 59 = .ok (.areturn, 1) := by decide +kernel
set_option maxRecDepth 20000 in
theorem ggX5_coldestMachineUp_X5_heatOf : GoodIn wsX5_coldestMachineUp wsX5_heatOf := goodIn_r _ [8, 9, 10, 11, 12, 13, 14, 15, 16, 17, 18, 19, 20, 21, 22, 23, 24, 25, 30, 31, 32, 33, 34, 35, 36, 37, 38] (by decide +kernel) (by decide +kernel)
set_option maxRecDepth 20000 in
theorem gX5_coldestMachineUp_X5_heatOf : GoodIn wsX5_coldestMachineUp (wsV RX5 209 RX5 yX5_heatOf wsX5_heatOf) := goodIn_app (goodIn_of _ (by decide +kernel)) ggX5_coldestMachineUp_X5_heatOf
theorem dX5_coldestMachineUp_0 : decode cX5_coldestMachineUp 0 = .ok (.aload_n 0, 1) := by decide +kernel
theorem dX5_coldestMachineUp_1 : decode cX5_coldestMachineUp 1 = .ok (.getfield 14, 3) := by decide +kernel
theorem dX5_coldestMachineUp_4 : decode cX5_coldestMachineUp 4 = .ok (.astore_n 1, 1) := by decide +kernel
theorem dX5_coldestMachineUp_5 : decode cX5_coldestMachineUp 5 = .ok (.iconst 0, 1) := by decide +kernel
theorem dX5_coldestMachineUp_6 : decode cX5_coldestMachineUp 6 = .ok (.istore_n 2, 1) := by decide +kernel
theorem dX5_coldestMachineUp_7 : decode cX5_coldestMachineUp 7 = .ok (.iload_n 2, 1) := by decide +kernel
theorem dX5_coldestMachineUp_8 : decode cX5_coldestMachineUp 8 = .ok (.aload_n 0, 1) := by decide +kernel
theorem dX5_coldestMachineUp_9 : decode cX5_coldestMachineUp 9 = .ok (.getfield 56, 3) := by decide +kernel
theorem dX5_coldestMachineUp_12 : decode cX5_coldestMachineUp 12 = .ok (.if_icmp .ge 46, 3) := by decide +kernel
theorem dX5_coldestMachineUp_15 : decode cX5_coldestMachineUp 15 = .ok (.aload_n 0, 1) := by decide +kernel
theorem dX5_coldestMachineUp_16 : decode cX5_coldestMachineUp 16 = .ok (.getfield 32, 3) := by decide +kernel
theorem dX5_coldestMachineUp_19 : decode cX5_coldestMachineUp 19 = .ok (.iload_n 2, 1) := by decide +kernel
theorem dX5_coldestMachineUp_20 : decode cX5_coldestMachineUp 20 = .ok (.aaload, 1) := by decide +kernel
theorem dX5_coldestMachineUp_21 : decode cX5_coldestMachineUp 21 = .ok (.astore_n 3, 1) := by decide +kernel
theorem dX5_coldestMachineUp_22 : decode cX5_coldestMachineUp 22 = .ok (.aload_n 3, 1) := by decide +kernel
theorem dX5_coldestMachineUp_23 : decode cX5_coldestMachineUp 23 = .ok (.getfield 67, 3) := by decide +kernel
theorem dX5_coldestMachineUp_26 : decode cX5_coldestMachineUp 26 = .ok (.ifCond .eq 26, 3) := by decide +kernel
theorem dX5_coldestMachineUp_29 : decode cX5_coldestMachineUp 29 = .ok (.aload_n 1, 1) := by decide +kernel
theorem dX5_coldestMachineUp_30 : decode cX5_coldestMachineUp 30 = .ok (.aload_n 0, 1) := by decide +kernel
theorem dX5_coldestMachineUp_31 : decode cX5_coldestMachineUp 31 = .ok (.getfield 14, 3) := by decide +kernel
theorem dX5_coldestMachineUp_34 : decode cX5_coldestMachineUp 34 = .ok (.if_acmp .eq 16, 3) := by decide +kernel
theorem dX5_coldestMachineUp_37 : decode cX5_coldestMachineUp 37 = .ok (.aload_n 0, 1) := by decide +kernel
theorem dX5_coldestMachineUp_38 : decode cX5_coldestMachineUp 38 = .ok (.aload_n 3, 1) := by decide +kernel
theorem dX5_coldestMachineUp_39 : decode cX5_coldestMachineUp 39 = .ok (.invokevirtual 209, 3) := by decide +kernel
theorem dX5_coldestMachineUp_42 : decode cX5_coldestMachineUp 42 = .ok (.aload_n 0, 1) := by decide +kernel
theorem dX5_coldestMachineUp_43 : decode cX5_coldestMachineUp 43 = .ok (.aload_n 1, 1) := by decide +kernel
theorem dX5_coldestMachineUp_44 : decode cX5_coldestMachineUp 44 = .ok (.invokevirtual 209, 3) := by decide +kernel
theorem dX5_coldestMachineUp_47 : decode cX5_coldestMachineUp 47 = .ok (.if_icmp .ge 5, 3) := by decide +kernel
theorem dX5_coldestMachineUp_50 : decode cX5_coldestMachineUp 50 = .ok (.aload_n 3, 1) := by decide +kernel
theorem dX5_coldestMachineUp_51 : decode cX5_coldestMachineUp 51 = .ok (.astore_n 1, 1) := by decide +kernel
theorem dX5_coldestMachineUp_52 : decode cX5_coldestMachineUp 52 = .ok (.iinc 2 1, 3) := by decide +kernel
theorem dX5_coldestMachineUp_55 : decode cX5_coldestMachineUp 55 = .ok (.goto (-48), 3) := by decide +kernel
theorem dX5_coldestMachineUp_58 : decode cX5_coldestMachineUp 58 = .ok (.aload_n 1, 1) := by decide +kernel
theorem dX5_coldestMachineUp_59 : decode cX5_coldestMachineUp 59 = .ok (.areturn, 1) := by decide +kernel
set_option maxRecDepth 20000 in
theorem ggX5_movesAwayFrom_X3_isMoving : GoodIn wsX5_movesAwayFrom wsX3_isMoving := goodIn_r _ [6, 7, 23, 24, 25, 26, 27, 28, 29, 30, 31, 32, 33, 34, 35] (by decide +kernel) (by decide +kernel)
set_option maxRecDepth 20000 in
theorem gX5_movesAwayFrom_X3_isMoving_n150 : GoodIn wsX5_movesAwayFrom (wsX3_isMoving) := ggX5_movesAwayFrom_X3_isMoving
theorem dX5_movesAwayFrom_0 : decode cX5_movesAwayFrom 0 = .ok (.iconst 0, 1) := by decide +kernel
theorem dX5_movesAwayFrom_1 : decode cX5_movesAwayFrom 1 = .ok (.istore_n 2, 1) := by decide +kernel
theorem dX5_movesAwayFrom_2 : decode cX5_movesAwayFrom 2 = .ok (.iload_n 2, 1) := by decide +kernel
theorem dX5_movesAwayFrom_3 : decode cX5_movesAwayFrom 3 = .ok (.aload_n 0, 1) := by decide +kernel
theorem dX5_movesAwayFrom_4 : decode cX5_movesAwayFrom 4 = .ok (.getfield 45, 3) := by decide +kernel
theorem dX5_movesAwayFrom_7 : decode cX5_movesAwayFrom 7 = .ok (.if_icmp .ge 36, 3) := by decide +kernel
theorem dX5_movesAwayFrom_10 : decode cX5_movesAwayFrom 10 = .ok (.aload_n 0, 1) := by decide +kernel
theorem dX5_movesAwayFrom_11 : decode cX5_movesAwayFrom 11 = .ok (.getfield 38, 3) := by decide +kernel
theorem dX5_movesAwayFrom_14 : decode cX5_movesAwayFrom 14 = .ok (.iload_n 2, 1) := by decide +kernel
theorem dX5_movesAwayFrom_15 : decode cX5_movesAwayFrom 15 = .ok (.aaload, 1) := by decide +kernel
theorem dX5_movesAwayFrom_16 : decode cX5_movesAwayFrom 16 = .ok (.getfield 117, 3) := by decide +kernel
theorem dX5_movesAwayFrom_19 : decode cX5_movesAwayFrom 19 = .ok (.aload_n 1, 1) := by decide +kernel
theorem dX5_movesAwayFrom_20 : decode cX5_movesAwayFrom 20 = .ok (.if_acmp .ne 17, 3) := by decide +kernel
theorem dX5_movesAwayFrom_23 : decode cX5_movesAwayFrom 23 = .ok (.aload_n 0, 1) := by decide +kernel
theorem dX5_movesAwayFrom_24 : decode cX5_movesAwayFrom 24 = .ok (.getfield 38, 3) := by decide +kernel
theorem dX5_movesAwayFrom_27 : decode cX5_movesAwayFrom 27 = .ok (.iload_n 2, 1) := by decide +kernel
theorem dX5_movesAwayFrom_28 : decode cX5_movesAwayFrom 28 = .ok (.aaload, 1) := by decide +kernel
theorem dX5_movesAwayFrom_29 : decode cX5_movesAwayFrom 29 = .ok (.invokevirtual 150, 3) := by decide +kernel
theorem dX5_movesAwayFrom_32 : decode cX5_movesAwayFrom 32 = .ok (.ifCond .eq 5, 3) := by decide +kernel
theorem dX5_movesAwayFrom_35 : decode cX5_movesAwayFrom 35 = .ok (.iconst 1, 1) := by decide +kernel
theorem dX5_movesAwayFrom_36 : decode cX5_movesAwayFrom 36 = .ok (.ireturn, 1) := by decide +kernel
theorem dX5_movesAwayFrom_37 : decode cX5_movesAwayFrom 37 = .ok (.iinc 2 1, 3) := by decide +kernel
theorem dX5_movesAwayFrom_40 : decode cX5_movesAwayFrom 40 = .ok (.goto (-38), 3) := by decide +kernel
theorem dX5_movesAwayFrom_43 : decode cX5_movesAwayFrom 43 = .ok (.iconst 0, 1) := by decide +kernel
theorem dX5_movesAwayFrom_44 : decode cX5_movesAwayFrom 44 = .ok (.ireturn, 1) := by decide +kernel
theorem dX5_hottestShardOn_0 : decode cX5_hottestShardOn 0 = .ok (.iconst (-1), 1) := by decide +kernel
theorem dX5_hottestShardOn_1 : decode cX5_hottestShardOn 1 = .ok (.istore_n 2, 1) := by decide +kernel
theorem dX5_hottestShardOn_2 : decode cX5_hottestShardOn 2 = .ok (.iconst 0, 1) := by decide +kernel
theorem dX5_hottestShardOn_3 : decode cX5_hottestShardOn 3 = .ok (.istore_n 3, 1) := by decide +kernel
theorem dX5_hottestShardOn_4 : decode cX5_hottestShardOn 4 = .ok (.iload_n 3, 1) := by decide +kernel
theorem dX5_hottestShardOn_5 : decode cX5_hottestShardOn 5 = .ok (.aload_n 0, 1) := by decide +kernel
theorem dX5_hottestShardOn_6 : decode cX5_hottestShardOn 6 = .ok (.getfield 45, 3) := by decide +kernel
theorem dX5_hottestShardOn_9 : decode cX5_hottestShardOn 9 = .ok (.if_icmp .ge 50, 3) := by decide +kernel
theorem dX5_hottestShardOn_12 : decode cX5_hottestShardOn 12 = .ok (.aload_n 0, 1) := by decide +kernel
theorem dX5_hottestShardOn_13 : decode cX5_hottestShardOn 13 = .ok (.getfield 38, 3) := by decide +kernel
theorem dX5_hottestShardOn_16 : decode cX5_hottestShardOn 16 = .ok (.iload_n 3, 1) := by decide +kernel
theorem dX5_hottestShardOn_17 : decode cX5_hottestShardOn 17 = .ok (.aaload, 1) := by decide +kernel
theorem dX5_hottestShardOn_18 : decode cX5_hottestShardOn 18 = .ok (.getfield 117, 3) := by decide +kernel
theorem dX5_hottestShardOn_21 : decode cX5_hottestShardOn 21 = .ok (.aload_n 1, 1) := by decide +kernel
theorem dX5_hottestShardOn_22 : decode cX5_hottestShardOn 22 = .ok (.if_acmp .ne 31, 3) := by decide +kernel
theorem dX5_hottestShardOn_25 : decode cX5_hottestShardOn 25 = .ok (.iload_n 2, 1) := by decide +kernel
theorem dX5_hottestShardOn_26 : decode cX5_hottestShardOn 26 = .ok (.iconst (-1), 1) := by decide +kernel
theorem dX5_hottestShardOn_27 : decode cX5_hottestShardOn 27 = .ok (.if_icmp .eq 24, 3) := by decide +kernel
theorem dX5_hottestShardOn_30 : decode cX5_hottestShardOn 30 = .ok (.aload_n 0, 1) := by decide +kernel
theorem dX5_hottestShardOn_31 : decode cX5_hottestShardOn 31 = .ok (.getfield 38, 3) := by decide +kernel
theorem dX5_hottestShardOn_34 : decode cX5_hottestShardOn 34 = .ok (.iload_n 3, 1) := by decide +kernel
theorem dX5_hottestShardOn_35 : decode cX5_hottestShardOn 35 = .ok (.aaload, 1) := by decide +kernel
theorem dX5_hottestShardOn_36 : decode cX5_hottestShardOn 36 = .ok (.getfield 142, 3) := by decide +kernel
theorem dX5_hottestShardOn_39 : decode cX5_hottestShardOn 39 = .ok (.aload_n 0, 1) := by decide +kernel
theorem dX5_hottestShardOn_40 : decode cX5_hottestShardOn 40 = .ok (.getfield 38, 3) := by decide +kernel
theorem dX5_hottestShardOn_43 : decode cX5_hottestShardOn 43 = .ok (.iload_n 2, 1) := by decide +kernel
theorem dX5_hottestShardOn_44 : decode cX5_hottestShardOn 44 = .ok (.aaload, 1) := by decide +kernel
theorem dX5_hottestShardOn_45 : decode cX5_hottestShardOn 45 = .ok (.getfield 142, 3) := by decide +kernel
theorem dX5_hottestShardOn_48 : decode cX5_hottestShardOn 48 = .ok (.if_icmp .le 5, 3) := by decide +kernel
theorem dX5_hottestShardOn_51 : decode cX5_hottestShardOn 51 = .ok (.iload_n 3, 1) := by decide +kernel
theorem dX5_hottestShardOn_52 : decode cX5_hottestShardOn 52 = .ok (.istore_n 2, 1) := by decide +kernel
theorem dX5_hottestShardOn_53 : decode cX5_hottestShardOn 53 = .ok (.iinc 3 1, 3) := by decide +kernel
theorem dX5_hottestShardOn_56 : decode cX5_hottestShardOn 56 = .ok (.goto (-52), 3) := by decide +kernel
theorem dX5_hottestShardOn_59 : decode cX5_hottestShardOn 59 = .ok (.iload_n 2, 1) := by decide +kernel
theorem dX5_hottestShardOn_60 : decode cX5_hottestShardOn 60 = .ok (.ireturn, 1) := by decide +kernel
theorem dX6_init_0 : decode cX6_init 0 = .ok (.aload_n 0, 1) := by decide +kernel
theorem dX6_init_1 : decode cX6_init 1 = .ok (.invokespecial 1, 3) := by decide +kernel
theorem dX6_init_4 : decode cX6_init 4 = .ok (.aload_n 0, 1) := by decide +kernel
theorem dX6_init_5 : decode cX6_init 5 = .ok (.bipush 6, 2) := by decide +kernel
theorem dX6_init_7 : decode cX6_init 7 = .ok (.newarray .int, 2) := by decide +kernel
theorem dX6_init_9 : decode cX6_init 9 = .ok (.putfield 7, 3) := by decide +kernel
theorem dX6_init_12 : decode cX6_init 12 = .ok (.aload_n 0, 1) := by decide +kernel
theorem dX6_init_13 : decode cX6_init 13 = .ok (.bipush 6, 2) := by decide +kernel
theorem dX6_init_15 : decode cX6_init 15 = .ok (.newarray .boolean, 2) := by decide +kernel
theorem dX6_init_17 : decode cX6_init 17 = .ok (.putfield 13, 3) := by decide +kernel
theorem dX6_init_20 : decode cX6_init 20 = .ok (.aload_n 0, 1) := by decide +kernel
theorem dX6_init_21 : decode cX6_init 21 = .ok (.iconst 4, 1) := by decide +kernel
theorem dX6_init_22 : decode cX6_init 22 = .ok (.newarray .int, 2) := by decide +kernel
theorem dX6_init_24 : decode cX6_init 24 = .ok (.putfield 17, 3) := by decide +kernel
theorem dX6_init_27 : decode cX6_init 27 = .ok (.aload_n 0, 1) := by decide +kernel
theorem dX6_init_28 : decode cX6_init 28 = .ok (.iconst 4, 1) := by decide +kernel
theorem dX6_init_29 : decode cX6_init 29 = .ok (.newarray .int, 2) := by decide +kernel
theorem dX6_init_31 : decode cX6_init 31 = .ok (.putfield 20, 3) := by decide +kernel
theorem dX6_init_34 : decode cX6_init 34 = .ok (.aload_n 0, 1) := by decide +kernel
theorem dX6_init_35 : decode cX6_init 35 = .ok (.sipush 1000, 3) := by decide +kernel
theorem dX6_init_38 : decode cX6_init 38 = .ok (.newarray .int, 2) := by decide +kernel
theorem dX6_init_40 : decode cX6_init 40 = .ok (.putfield 23, 3) := by decide +kernel
theorem dX6_init_43 : decode cX6_init 43 = .ok (.aload_n 0, 1) := by decide +kernel
theorem dX6_init_44 : decode cX6_init 44 = .ok (.sipush 1000, 3) := by decide +kernel
theorem dX6_init_47 : decode cX6_init 47 = .ok (.newarray .int, 2) := by decide +kernel
theorem dX6_init_49 : decode cX6_init 49 = .ok (.putfield 26, 3) := by decide +kernel
theorem dX6_init_52 : decode cX6_init 52 = .ok (.aload_n 0, 1) := by decide +kernel
theorem dX6_init_53 : decode cX6_init 53 = .ok (.iconst 1, 1) := by decide +kernel
theorem dX6_init_54 : decode cX6_init 54 = .ok (.putfield 29, 3) := by decide +kernel
theorem dX6_init_57 : decode cX6_init 57 = .ok (.aload_n 0, 1) := by decide +kernel
theorem dX6_init_58 : decode cX6_init 58 = .ok (.bipush 18, 2) := by decide +kernel
theorem dX6_init_60 : decode cX6_init 60 = .ok (.newarray .int, 2) := by decide +kernel
theorem dX6_init_62 : decode cX6_init 62 = .ok (.putfield 33, 3) := by decide +kernel
theorem dX6_init_65 : decode cX6_init 65 = .ok (.aload_n 0, 1) := by decide +kernel
theorem dX6_init_66 : decode cX6_init 66 = .ok (.bipush 18, 2) := by decide +kernel
theorem dX6_init_68 : decode cX6_init 68 = .ok (.newarray .int, 2) := by decide +kernel
theorem dX6_init_70 : decode cX6_init 70 = .ok (.putfield 36, 3) := by decide +kernel
theorem dX6_init_73 : decode cX6_init 73 = .ok (.aload_n 0, 1) := by decide +kernel
theorem dX6_init_74 : decode cX6_init 74 = .ok (.bipush 18, 2) := by decide +kernel
theorem dX6_init_76 : decode cX6_init 76 = .ok (.newarray .int, 2) := by decide +kernel
theorem dX6_init_78 : decode cX6_init 78 = .ok (.putfield 39, 3) := by decide +kernel
theorem dX6_init_81 : decode cX6_init 81 = .ok (.aload_n 0, 1) := by decide +kernel
theorem dX6_init_82 : decode cX6_init 82 = .ok (.bipush 18, 2) := by decide +kernel
theorem dX6_init_84 : decode cX6_init 84 = .ok (.newarray .int, 2) := by decide +kernel
theorem dX6_init_86 : decode cX6_init 86 = .ok (.putfield 42, 3) := by decide +kernel
theorem dX6_init_89 : decode cX6_init 89 = .ok (.aload_n 0, 1) := by decide +kernel
theorem dX6_init_90 : decode cX6_init 90 = .ok (.bipush 18, 2) := by decide +kernel
theorem dX6_init_92 : decode cX6_init 92 = .ok (.newarray .int, 2) := by decide +kernel
theorem dX6_init_94 : decode cX6_init 94 = .ok (.putfield 45, 3) := by decide +kernel
theorem dX6_init_97 : decode cX6_init 97 = .ok (.aload_n 0, 1) := by decide +kernel
theorem dX6_init_98 : decode cX6_init 98 = .ok (.bipush 18, 2) := by decide +kernel
theorem dX6_init_100 : decode cX6_init 100 = .ok (.newarray .int, 2) := by decide +kernel
theorem dX6_init_102 : decode cX6_init 102 = .ok (.putfield 48, 3) := by decide +kernel
theorem dX6_init_105 : decode cX6_init 105 = .ok (.iconst 0, 1) := by decide +kernel
theorem dX6_init_106 : decode cX6_init 106 = .ok (.istore_n 1, 1) := by decide +kernel
theorem dX6_init_107 : decode cX6_init 107 = .ok (.iload_n 1, 1) := by decide +kernel
theorem dX6_init_108 : decode cX6_init 108 = .ok (.iconst 4, 1) := by decide +kernel
theorem dX6_init_109 : decode cX6_init 109 = .ok (.if_icmp .ge 18, 3) := by decide +kernel
theorem dX6_init_112 : decode cX6_init 112 = .ok (.aload_n 0, 1) := by decide +kernel
theorem dX6_init_113 : decode cX6_init 113 = .ok (.getfield 17, 3) := by decide +kernel
theorem dX6_init_116 : decode cX6_init 116 = .ok (.iload_n 1, 1) := by decide +kernel
theorem dX6_init_117 : decode cX6_init 117 = .ok (.sipush 1000, 3) := by decide +kernel
theorem dX6_init_120 : decode cX6_init 120 = .ok (.iastore, 1) := by decide +kernel
theorem dX6_init_121 : decode cX6_init 121 = .ok (.iinc 1 1, 3) := by decide +kernel
theorem dX6_init_124 : decode cX6_init 124 = .ok (.goto (-17), 3) := by decide +kernel
theorem dX6_init_127 : decode cX6_init 127 = .ok (.aload_n 0, 1) := by decide +kernel
theorem dX6_init_128 : decode cX6_init 128 = .ok (.getfield 36, 3) := by decide +kernel
theorem dX6_init_131 : decode cX6_init 131 = .ok (.iconst 0, 1) := by decide +kernel
theorem dX6_init_132 : decode cX6_init 132 = .ok (.iconst (-1), 1) := by decide +kernel
theorem dX6_init_133 : decode cX6_init 133 = .ok (.iastore, 1) := by decide +kernel
theorem dX6_init_134 : decode cX6_init 134 = .ok (.aload_n 0, 1) := by decide +kernel
theorem dX6_init_135 : decode cX6_init 135 = .ok (.getfield 39, 3) := by decide +kernel
theorem dX6_init_138 : decode cX6_init 138 = .ok (.iconst 0, 1) := by decide +kernel
theorem dX6_init_139 : decode cX6_init 139 = .ok (.iconst (-1), 1) := by decide +kernel
theorem dX6_init_140 : decode cX6_init 140 = .ok (.iastore, 1) := by decide +kernel
theorem dX6_init_141 : decode cX6_init 141 = .ok (.aload_n 0, 1) := by decide +kernel
theorem dX6_init_142 : decode cX6_init 142 = .ok (.getfield 33, 3) := by decide +kernel
theorem dX6_init_145 : decode cX6_init 145 = .ok (.iconst 1, 1) := by decide +kernel
theorem dX6_init_146 : decode cX6_init 146 = .ok (.sipush 1000, 3) := by decide +kernel
theorem dX6_init_149 : decode cX6_init 149 = .ok (.iastore, 1) := by decide +kernel
theorem dX6_init_150 : decode cX6_init 150 = .ok (.return_, 1) := by decide +kernel
theorem dX6_thrown_0 : decode cX6_thrown 0 = .ok (.aload_n 0, 1) := by decide +kernel
theorem dX6_thrown_1 : decode cX6_thrown 1 = .ok (.getfield 51, 3) := by decide +kernel
theorem dX6_thrown_4 : decode cX6_thrown 4 = .ok (.ireturn, 1) := by decide +kernel
theorem dX6_in_0 : decode cX6_in 0 = .ok (.iload_n 0, 1) := by decide +kernel
theorem dX6_in_1 : decode cX6_in 1 = .ok (.iload_n 1, 1) := by decide +kernel
theorem dX6_in_2 : decode cX6_in 2 = .ok (.if_icmp .lt 12, 3) := by decide +kernel
theorem dX6_in_5 : decode cX6_in 5 = .ok (.iload_n 0, 1) := by decide +kernel
theorem dX6_in_6 : decode cX6_in 6 = .ok (.iload_n 2, 1) := by decide +kernel
theorem dX6_in_7 : decode cX6_in 7 = .ok (.if_icmp .gt 7, 3) := by decide +kernel
theorem dX6_in_10 : decode cX6_in 10 = .ok (.iconst 1, 1) := by decide +kernel
theorem dX6_in_11 : decode cX6_in 11 = .ok (.goto 4, 3) := by decide +kernel
theorem dX6_in_14 : decode cX6_in 14 = .ok (.iconst 0, 1) := by decide +kernel
theorem dX6_in_15 : decode cX6_in 15 = .ok (.ireturn, 1) := by decide +kernel
theorem dX6_refused_0 : decode cX6_refused 0 = .ok (.aload_n 0, 1) := by decide +kernel
theorem dX6_refused_1 : decode cX6_refused 1 = .ok (.iload_n 1, 1) := by decide +kernel
theorem dX6_refused_2 : decode cX6_refused 2 = .ok (.putfield 51, 3) := by decide +kernel
theorem dX6_refused_5 : decode cX6_refused 5 = .ok (.iload_n 1, 1) := by decide +kernel
theorem dX6_refused_6 : decode cX6_refused 6 = .ok (.ifCond .eq 7, 3) := by decide +kernel
theorem dX6_refused_9 : decode cX6_refused 9 = .ok (.iconst 1, 1) := by decide +kernel
theorem dX6_refused_10 : decode cX6_refused 10 = .ok (.goto 4, 3) := by decide +kernel
theorem dX6_refused_13 : decode cX6_refused 13 = .ok (.iconst 0, 1) := by decide +kernel
theorem dX6_refused_14 : decode cX6_refused 14 = .ok (.ireturn, 1) := by decide +kernel
set_option maxRecDepth 20000 in
theorem ggX6_isKey_X6_in : GoodIn wsX6_isKey wsX6_in := goodIn_r _ [4] (by decide +kernel) (by decide +kernel)
set_option maxRecDepth 20000 in
theorem gX6_isKey_X6_in : GoodIn wsX6_isKey (va_wsS RX6 54 yX6_in wsX6_in) := goodIn_app (goodIn_of _ (by decide +kernel)) ggX6_isKey_X6_in
theorem dX6_isKey_0 : decode cX6_isKey 0 = .ok (.iload_n 0, 1) := by decide +kernel
theorem dX6_isKey_1 : decode cX6_isKey 1 = .ok (.iconst 0, 1) := by decide +kernel
theorem dX6_isKey_2 : decode cX6_isKey 2 = .ok (.sipush 999, 3) := by decide +kernel
theorem dX6_isKey_5 : decode cX6_isKey 5 = .ok (.invokestatic 54, 3) := by decide +kernel
theorem dX6_isKey_8 : decode cX6_isKey 8 = .ok (.ireturn, 1) := by decide +kernel
set_option maxRecDepth 20000 in
theorem ggX6_isTenant_X6_in : GoodIn wsX6_isTenant wsX6_in := goodIn_r _ [4] (by decide +kernel) (by decide +kernel)
set_option maxRecDepth 20000 in
theorem gX6_isTenant_X6_in : GoodIn wsX6_isTenant (va_wsS RX6 54 yX6_in wsX6_in) := goodIn_app (goodIn_of _ (by decide +kernel)) ggX6_isTenant_X6_in
theorem dX6_isTenant_0 : decode cX6_isTenant 0 = .ok (.iload_n 0, 1) := by decide +kernel
theorem dX6_isTenant_1 : decode cX6_isTenant 1 = .ok (.iconst 0, 1) := by decide +kernel
theorem dX6_isTenant_2 : decode cX6_isTenant 2 = .ok (.iconst 3, 1) := by decide +kernel
theorem dX6_isTenant_3 : decode cX6_isTenant 3 = .ok (.invokestatic 54, 3) := by decide +kernel
theorem dX6_isTenant_6 : decode cX6_isTenant 6 = .ok (.ireturn, 1) := by decide +kernel
set_option maxRecDepth 20000 in
theorem ggX6_isMachine_X6_in : GoodIn wsX6_isMachine wsX6_in := goodIn_r _ [5] (by decide +kernel) (by decide +kernel)
set_option maxRecDepth 20000 in
theorem gX6_isMachine_X6_in : GoodIn wsX6_isMachine (va_wsS RX6 54 yX6_in wsX6_in) := goodIn_app (goodIn_of _ (by decide +kernel)) ggX6_isMachine_X6_in
theorem dX6_isMachine_0 : decode cX6_isMachine 0 = .ok (.iload_n 1, 1) := by decide +kernel
theorem dX6_isMachine_1 : decode cX6_isMachine 1 = .ok (.iconst 0, 1) := by decide +kernel
theorem dX6_isMachine_2 : decode cX6_isMachine 2 = .ok (.aload_n 0, 1) := by decide +kernel
theorem dX6_isMachine_3 : decode cX6_isMachine 3 = .ok (.getfield 58, 3) := by decide +kernel
theorem dX6_isMachine_6 : decode cX6_isMachine 6 = .ok (.iconst 1, 1) := by decide +kernel
theorem dX6_isMachine_7 : decode cX6_isMachine 7 = .ok (.isub, 1) := by decide +kernel
theorem dX6_isMachine_8 : decode cX6_isMachine 8 = .ok (.invokestatic 54, 3) := by decide +kernel
theorem dX6_isMachine_11 : decode cX6_isMachine 11 = .ok (.ireturn, 1) := by decide +kernel
set_option maxRecDepth 20000 in
theorem ggX6_isShard_X6_in : GoodIn wsX6_isShard wsX6_in := goodIn_r _ [5] (by decide +kernel) (by decide +kernel)
set_option maxRecDepth 20000 in
theorem gX6_isShard_X6_in : GoodIn wsX6_isShard (va_wsS RX6 54 yX6_in wsX6_in) := goodIn_app (goodIn_of _ (by decide +kernel)) ggX6_isShard_X6_in
theorem dX6_isShard_0 : decode cX6_isShard 0 = .ok (.iload_n 1, 1) := by decide +kernel
theorem dX6_isShard_1 : decode cX6_isShard 1 = .ok (.iconst 0, 1) := by decide +kernel
theorem dX6_isShard_2 : decode cX6_isShard 2 = .ok (.aload_n 0, 1) := by decide +kernel
theorem dX6_isShard_3 : decode cX6_isShard 3 = .ok (.getfield 29, 3) := by decide +kernel
theorem dX6_isShard_6 : decode cX6_isShard 6 = .ok (.iconst 1, 1) := by decide +kernel
theorem dX6_isShard_7 : decode cX6_isShard 7 = .ok (.isub, 1) := by decide +kernel
theorem dX6_isShard_8 : decode cX6_isShard 8 = .ok (.invokestatic 54, 3) := by decide +kernel
theorem dX6_isShard_11 : decode cX6_isShard 11 = .ok (.ireturn, 1) := by decide +kernel
theorem dX6_shardAt_0 : decode cX6_shardAt 0 = .ok (.iconst 0, 1) := by decide +kernel
theorem dX6_shardAt_1 : decode cX6_shardAt 1 = .ok (.istore_n 2, 1) := by decide +kernel
theorem dX6_shardAt_2 : decode cX6_shardAt 2 = .ok (.aload_n 0, 1) := by decide +kernel
theorem dX6_shardAt_3 : decode cX6_shardAt 3 = .ok (.getfield 33, 3) := by decide +kernel
theorem dX6_shardAt_6 : decode cX6_shardAt 6 = .ok (.iload_n 2, 1) := by decide +kernel
theorem dX6_shardAt_7 : decode cX6_shardAt 7 = .ok (.iconst 1, 1) := by decide +kernel
theorem dX6_shardAt_8 : decode cX6_shardAt 8 = .ok (.iadd, 1) := by decide +kernel
theorem dX6_shardAt_9 : decode cX6_shardAt 9 = .ok (.iaload, 1) := by decide +kernel
theorem dX6_shardAt_10 : decode cX6_shardAt 10 = .ok (.iload_n 1, 1) := by decide +kernel
theorem dX6_shardAt_11 : decode cX6_shardAt 11 = .ok (.if_icmp .gt 9, 3) := by decide +kernel
theorem dX6_shardAt_14 : decode cX6_shardAt 14 = .ok (.iinc 2 1, 3) := by decide +kernel
theorem dX6_shardAt_17 : decode cX6_shardAt 17 = .ok (.goto (-15), 3) := by decide +kernel
theorem dX6_shardAt_20 : decode cX6_shardAt 20 = .ok (.iload_n 2, 1) := by decide +kernel
theorem dX6_shardAt_21 : decode cX6_shardAt 21 = .ok (.ireturn, 1) := by decide +kernel
theorem dX6_sum_0 : decode cX6_sum 0 = .ok (.iconst 0, 1) := by decide +kernel
theorem dX6_sum_1 : decode cX6_sum 1 = .ok (.istore_n 3, 1) := by decide +kernel
theorem dX6_sum_2 : decode cX6_sum 2 = .ok (.iload_n 1, 1) := by decide +kernel
theorem dX6_sum_3 : decode cX6_sum 3 = .ok (.istore 4, 2) := by decide +kernel
theorem dX6_sum_5 : decode cX6_sum 5 = .ok (.iload 4, 2) := by decide +kernel
theorem dX6_sum_7 : decode cX6_sum 7 = .ok (.iload_n 2, 1) := by decide +kernel
theorem dX6_sum_8 : decode cX6_sum 8 = .ok (.if_icmp .ge 19, 3) := by decide +kernel
theorem dX6_sum_11 : decode cX6_sum 11 = .ok (.iload_n 3, 1) := by decide +kernel
theorem dX6_sum_12 : decode cX6_sum 12 = .ok (.aload_n 0, 1) := by decide +kernel
theorem dX6_sum_13 : decode cX6_sum 13 = .ok (.getfield 26, 3) := by decide +kernel
theorem dX6_sum_16 : decode cX6_sum 16 = .ok (.iload 4, 2) := by decide +kernel
theorem dX6_sum_18 : decode cX6_sum 18 = .ok (.iaload, 1) := by decide +kernel
theorem dX6_sum_19 : decode cX6_sum 19 = .ok (.iadd, 1) := by decide +kernel
theorem dX6_sum_20 : decode cX6_sum 20 = .ok (.istore_n 3, 1) := by decide +kernel
theorem dX6_sum_21 : decode cX6_sum 21 = .ok (.iinc 4 1, 3) := by decide +kernel
theorem dX6_sum_24 : decode cX6_sum 24 = .ok (.goto (-19), 3) := by decide +kernel
theorem dX6_sum_27 : decode cX6_sum 27 = .ok (.iload_n 3, 1) := by decide +kernel
theorem dX6_sum_28 : decode cX6_sum 28 = .ok (.ireturn, 1) := by decide +kernel
set_option maxRecDepth 20000 in
theorem ggX6_sizeOf_X6_sum : GoodIn wsX6_sizeOf wsX6_sum := goodIn_r _ [6, 7, 8, 9, 10, 11, 12, 13, 14, 15, 16, 17, 18, 19, 20, 21, 22, 23, 24, 25, 26, 27] (by decide +kernel) (by decide +kernel)
set_option maxRecDepth 20000 in
theorem gX6_sizeOf_X6_sum : GoodIn wsX6_sizeOf (wsV RX6 61 RX6 yX6_sum wsX6_sum) := goodIn_app (goodIn_of _ (by decide +kernel)) ggX6_sizeOf_X6_sum
theorem dX6_sizeOf_0 : decode cX6_sizeOf 0 = .ok (.aload_n 0, 1) := by decide +kernel
theorem dX6_sizeOf_1 : decode cX6_sizeOf 1 = .ok (.aload_n 0, 1) := by decide +kernel
theorem dX6_sizeOf_2 : decode cX6_sizeOf 2 = .ok (.getfield 33, 3) := by decide +kernel
theorem dX6_sizeOf_5 : decode cX6_sizeOf 5 = .ok (.iload_n 1, 1) := by decide +kernel
theorem dX6_sizeOf_6 : decode cX6_sizeOf 6 = .ok (.iaload, 1) := by decide +kernel
theorem dX6_sizeOf_7 : decode cX6_sizeOf 7 = .ok (.aload_n 0, 1) := by decide +kernel
theorem dX6_sizeOf_8 : decode cX6_sizeOf 8 = .ok (.getfield 33, 3) := by decide +kernel
theorem dX6_sizeOf_11 : decode cX6_sizeOf 11 = .ok (.iload_n 1, 1) := by decide +kernel
theorem dX6_sizeOf_12 : decode cX6_sizeOf 12 = .ok (.iconst 1, 1) := by decide +kernel
theorem dX6_sizeOf_13 : decode cX6_sizeOf 13 = .ok (.iadd, 1) := by decide +kernel
theorem dX6_sizeOf_14 : decode cX6_sizeOf 14 = .ok (.iaload, 1) := by decide +kernel
theorem dX6_sizeOf_15 : decode cX6_sizeOf 15 = .ok (.invokevirtual 61, 3) := by decide +kernel
theorem dX6_sizeOf_18 : decode cX6_sizeOf 18 = .ok (.ireturn, 1) := by decide +kernel
set_option maxRecDepth 20000 in
theorem ggX6_copied_X6_sum : GoodIn wsX6_copied wsX6_sum := goodIn_r _ [8, 9, 10, 11, 12, 13, 14, 15, 16, 17, 18, 19, 20, 21, 22, 23, 24, 25, 26, 27, 28, 29] (by decide +kernel) (by decide +kernel)
set_option maxRecDepth 20000 in
theorem gX6_copied_X6_sum : GoodIn wsX6_copied (wsV RX6 61 RX6 yX6_sum wsX6_sum) := goodIn_app (goodIn_of _ (by decide +kernel)) ggX6_copied_X6_sum
theorem dX6_copied_0 : decode cX6_copied 0 = .ok (.aload_n 0, 1) := by decide +kernel
theorem dX6_copied_1 : decode cX6_copied 1 = .ok (.getfield 39, 3) := by decide +kernel
theorem dX6_copied_4 : decode cX6_copied 4 = .ok (.iload_n 1, 1) := by decide +kernel
theorem dX6_copied_5 : decode cX6_copied 5 = .ok (.iaload, 1) := by decide +kernel
theorem dX6_copied_6 : decode cX6_copied 6 = .ok (.iconst (-1), 1) := by decide +kernel
theorem dX6_copied_7 : decode cX6_copied 7 = .ok (.if_icmp .ne 7, 3) := by decide +kernel
theorem dX6_copied_10 : decode cX6_copied 10 = .ok (.iconst 0, 1) := by decide +kernel
theorem dX6_copied_11 : decode cX6_copied 11 = .ok (.goto 19, 3) := by decide +kernel
theorem dX6_copied_14 : decode cX6_copied 14 = .ok (.aload_n 0, 1) := by decide +kernel
theorem dX6_copied_15 : decode cX6_copied 15 = .ok (.aload_n 0, 1) := by decide +kernel
theorem dX6_copied_16 : decode cX6_copied 16 = .ok (.getfield 33, 3) := by decide +kernel
theorem dX6_copied_19 : decode cX6_copied 19 = .ok (.iload_n 1, 1) := by decide +kernel
theorem dX6_copied_20 : decode cX6_copied 20 = .ok (.iaload, 1) := by decide +kernel
theorem dX6_copied_21 : decode cX6_copied 21 = .ok (.aload_n 0, 1) := by decide +kernel
theorem dX6_copied_22 : decode cX6_copied 22 = .ok (.getfield 42, 3) := by decide +kernel
theorem dX6_copied_25 : decode cX6_copied 25 = .ok (.iload_n 1, 1) := by decide +kernel
theorem dX6_copied_26 : decode cX6_copied 26 = .ok (.iaload, 1) := by decide +kernel
theorem dX6_copied_27 : decode cX6_copied 27 = .ok (.invokevirtual 61, 3) := by decide +kernel
theorem dX6_copied_30 : decode cX6_copied 30 = .ok (.ireturn, 1) := by decide +kernel
set_option maxRecDepth 20000 in
theorem ggX6_held_X6_sizeOf : GoodIn wsX6_held wsX6_sizeOf := goodIn_r _ [8, 9, 10, 11, 12, 7, 13, 14, 20, 21, 22, 23, 24, 25, 26, 27, 28, 29, 30, 31, 32, 33, 34, 35, 36, 37, 38, 39] (by decide +kernel) (by decide +kernel)
set_option maxRecDepth 20000 in
theorem gX6_held_X6_sizeOf : GoodIn wsX6_held (wsV RX6 65 RX6 yX6_sizeOf wsX6_sizeOf) := goodIn_app (goodIn_of _ (by decide +kernel)) ggX6_held_X6_sizeOf
set_option maxRecDepth 20000 in
theorem ggX6_held_X6_copied : GoodIn wsX6_held wsX6_copied := goodIn_r _ [18, 3, 9, 19, 10, 11, 12, 7, 13, 14, 20, 21, 22, 23, 24, 25, 26, 27, 28, 29, 30, 31, 32, 33, 34, 35, 36, 37, 38, 39] (by decide +kernel) (by decide +kernel)
set_option maxRecDepth 20000 in
theorem gX6_held_X6_copied : GoodIn wsX6_held (wsV RX6 69 RX6 yX6_copied wsX6_copied) := goodIn_app (goodIn_of _ (by decide +kernel)) ggX6_held_X6_copied
theorem dX6_held_0 : decode cX6_held 0 = .ok (.iconst 0, 1) := by decide +kernel
theorem dX6_held_1 : decode cX6_held 1 = .ok (.istore_n 2, 1) := by decide +kernel
theorem dX6_held_2 : decode cX6_held 2 = .ok (.iconst 0, 1) := by decide +kernel
theorem dX6_held_3 : decode cX6_held 3 = .ok (.istore_n 3, 1) := by decide +kernel
theorem dX6_held_4 : decode cX6_held 4 = .ok (.iload_n 3, 1) := by decide +kernel
theorem dX6_held_5 : decode cX6_held 5 = .ok (.aload_n 0, 1) := by decide +kernel
theorem dX6_held_6 : decode cX6_held 6 = .ok (.getfield 29, 3) := by decide +kernel
theorem dX6_held_9 : decode cX6_held 9 = .ok (.if_icmp .ge 51, 3) := by decide +kernel
theorem dX6_held_12 : decode cX6_held 12 = .ok (.iload_n 2, 1) := by decide +kernel
theorem dX6_held_13 : decode cX6_held 13 = .ok (.aload_n 0, 1) := by decide +kernel
theorem dX6_held_14 : decode cX6_held 14 = .ok (.getfield 36, 3) := by decide +kernel
theorem dX6_held_17 : decode cX6_held 17 = .ok (.iload_n 3, 1) := by decide +kernel
theorem dX6_held_18 : decode cX6_held 18 = .ok (.iaload, 1) := by decide +kernel
theorem dX6_held_19 : decode cX6_held 19 = .ok (.iload_n 1, 1) := by decide +kernel
theorem dX6_held_20 : decode cX6_held 20 = .ok (.if_icmp .ne 11, 3) := by decide +kernel
theorem dX6_held_23 : decode cX6_held 23 = .ok (.aload_n 0, 1) := by decide +kernel
theorem dX6_held_24 : decode cX6_held 24 = .ok (.iload_n 3, 1) := by decide +kernel
theorem dX6_held_25 : decode cX6_held 25 = .ok (.invokevirtual 65, 3) := by decide +kernel
theorem dX6_held_28 : decode cX6_held 28 = .ok (.goto 4, 3) := by decide +kernel
theorem dX6_held_31 : decode cX6_held 31 = .ok (.iconst 0, 1) := by decide +kernel
theorem dX6_held_32 : decode cX6_held 32 = .ok (.aload_n 0, 1) := by decide +kernel
theorem dX6_held_33 : decode cX6_held 33 = .ok (.getfield 39, 3) := by decide +kernel
theorem dX6_held_36 : decode cX6_held 36 = .ok (.iload_n 3, 1) := by decide +kernel
theorem dX6_held_37 : decode cX6_held 37 = .ok (.iaload, 1) := by decide +kernel
theorem dX6_held_38 : decode cX6_held 38 = .ok (.iload_n 1, 1) := by decide +kernel
theorem dX6_held_39 : decode cX6_held 39 = .ok (.if_icmp .ne 11, 3) := by decide +kernel
theorem dX6_held_42 : decode cX6_held 42 = .ok (.aload_n 0, 1) := by decide +kernel
theorem dX6_held_43 : decode cX6_held 43 = .ok (.iload_n 3, 1) := by decide +kernel
theorem dX6_held_44 : decode cX6_held 44 = .ok (.invokevirtual 69, 3) := by decide +kernel
theorem dX6_held_47 : decode cX6_held 47 = .ok (.goto 4, 3) := by decide +kernel
theorem dX6_held_50 : decode cX6_held 50 = .ok (.iconst 0, 1) := by decide +kernel
theorem dX6_held_51 : decode cX6_held 51 = .ok (.iadd, 1) := by decide +kernel
theorem dX6_held_52 : decode cX6_held 52 = .ok (.iadd, 1) := by decide +kernel
theorem dX6_held_53 : decode cX6_held 53 = .ok (.istore_n 2, 1) := by decide +kernel
theorem dX6_held_54 : decode cX6_held 54 = .ok (.iinc 3 1, 3) := by decide +kernel
theorem dX6_held_57 : decode cX6_held 57 = .ok (.goto (-53), 3) := by decide +kernel
theorem dX6_held_60 : decode cX6_held 60 = .ok (.iload_n 2, 1) := by decide +kernel
theorem dX6_held_61 : decode cX6_held 61 = .ok (.ireturn, 1) := by decide +kernel
theorem dX6_bytesOf_0 : decode cX6_bytesOf 0 = .ok (.iconst 0, 1) := by decide +kernel
theorem dX6_bytesOf_1 : decode cX6_bytesOf 1 = .ok (.istore_n 2, 1) := by decide +kernel
theorem dX6_bytesOf_2 : decode cX6_bytesOf 2 = .ok (.iconst 0, 1) := by decide +kernel
theorem dX6_bytesOf_3 : decode cX6_bytesOf 3 = .ok (.istore_n 3, 1) := by decide +kernel
theorem dX6_bytesOf_4 : decode cX6_bytesOf 4 = .ok (.iload_n 3, 1) := by decide +kernel
theorem dX6_bytesOf_5 : decode cX6_bytesOf 5 = .ok (.sipush 1000, 3) := by decide +kernel
theorem dX6_bytesOf_8 : decode cX6_bytesOf 8 = .ok (.if_icmp .ge 32, 3) := by decide +kernel
theorem dX6_bytesOf_11 : decode cX6_bytesOf 11 = .ok (.iload_n 2, 1) := by decide +kernel
theorem dX6_bytesOf_12 : decode cX6_bytesOf 12 = .ok (.aload_n 0, 1) := by decide +kernel
theorem dX6_bytesOf_13 : decode cX6_bytesOf 13 = .ok (.getfield 23, 3) := by decide +kernel
theorem dX6_bytesOf_16 : decode cX6_bytesOf 16 = .ok (.iload_n 3, 1) := by decide +kernel
theorem dX6_bytesOf_17 : decode cX6_bytesOf 17 = .ok (.iaload, 1) := by decide +kernel
theorem dX6_bytesOf_18 : decode cX6_bytesOf 18 = .ok (.iload_n 1, 1) := by decide +kernel
theorem dX6_bytesOf_19 : decode cX6_bytesOf 19 = .ok (.if_icmp .ne 12, 3) := by decide +kernel
theorem dX6_bytesOf_22 : decode cX6_bytesOf 22 = .ok (.aload_n 0, 1) := by decide +kernel
theorem dX6_bytesOf_23 : decode cX6_bytesOf 23 = .ok (.getfield 26, 3) := by decide +kernel
theorem dX6_bytesOf_26 : decode cX6_bytesOf 26 = .ok (.iload_n 3, 1) := by decide +kernel
theorem dX6_bytesOf_27 : decode cX6_bytesOf 27 = .ok (.iaload, 1) := by decide +kernel
theorem dX6_bytesOf_28 : decode cX6_bytesOf 28 = .ok (.goto 4, 3) := by decide +kernel
theorem dX6_bytesOf_31 : decode cX6_bytesOf 31 = .ok (.iconst 0, 1) := by decide +kernel
theorem dX6_bytesOf_32 : decode cX6_bytesOf 32 = .ok (.iadd, 1) := by decide +kernel
theorem dX6_bytesOf_33 : decode cX6_bytesOf 33 = .ok (.istore_n 2, 1) := by decide +kernel
theorem dX6_bytesOf_34 : decode cX6_bytesOf 34 = .ok (.iinc 3 1, 3) := by decide +kernel
theorem dX6_bytesOf_37 : decode cX6_bytesOf 37 = .ok (.goto (-33), 3) := by decide +kernel
theorem dX6_bytesOf_40 : decode cX6_bytesOf 40 = .ok (.iload_n 2, 1) := by decide +kernel
theorem dX6_bytesOf_41 : decode cX6_bytesOf 41 = .ok (.ireturn, 1) := by decide +kernel
theorem dX6_rollBack_0 : decode cX6_rollBack 0 = .ok (.aload_n 0, 1) := by decide +kernel
theorem dX6_rollBack_1 : decode cX6_rollBack 1 = .ok (.getfield 39, 3) := by decide +kernel
theorem dX6_rollBack_4 : decode cX6_rollBack 4 = .ok (.iload_n 1, 1) := by decide +kernel
theorem dX6_rollBack_5 : decode cX6_rollBack 5 = .ok (.iconst (-1), 1) := by decide +kernel
theorem dX6_rollBack_6 : decode cX6_rollBack 6 = .ok (.iastore, 1) := by decide +kernel
theorem dX6_rollBack_7 : decode cX6_rollBack 7 = .ok (.aload_n 0, 1) := by decide +kernel
theorem dX6_rollBack_8 : decode cX6_rollBack 8 = .ok (.dup, 1) := by decide +kernel
theorem dX6_rollBack_9 : decode cX6_rollBack 9 = .ok (.getfield 72, 3) := by decide +kernel
theorem dX6_rollBack_12 : decode cX6_rollBack 12 = .ok (.iconst 1, 1) := by decide +kernel
theorem dX6_rollBack_13 : decode cX6_rollBack 13 = .ok (.iadd, 1) := by decide +kernel
theorem dX6_rollBack_14 : decode cX6_rollBack 14 = .ok (.putfield 72, 3) := by decide +kernel
theorem dX6_rollBack_17 : decode cX6_rollBack 17 = .ok (.return_, 1) := by decide +kernel
set_option maxRecDepth 20000 in
theorem ggX6_machine_X6_in : GoodIn wsX6_machine wsX6_in := goodIn_r _ [8] (by decide +kernel) (by decide +kernel)
set_option maxRecDepth 20000 in
theorem gX6_machine_X6_in : GoodIn wsX6_machine (va_wsS RX6 54 yX6_in wsX6_in) := goodIn_app (goodIn_of _ (by decide +kernel)) ggX6_machine_X6_in
set_option maxRecDepth 20000 in
theorem ggX6_machine_X6_refused : GoodIn wsX6_machine wsX6_refused := goodIn_r _ [12, 13, 14, 15, 16, 17, 18, 19, 20, 21, 22, 23, 24, 25, 26, 27, 28, 29, 30, 31, 32, 33] (by decide +kernel) (by decide +kernel)
set_option maxRecDepth 20000 in
theorem gX6_machine_X6_refused : GoodIn wsX6_machine (wsV RX6 75 RX6 yX6_refused wsX6_refused) := goodIn_app (goodIn_of _ (by decide +kernel)) ggX6_machine_X6_refused
theorem dX6_machine_0 : decode cX6_machine 0 = .ok (.aload_n 0, 1) := by decide +kernel
theorem dX6_machine_1 : decode cX6_machine 1 = .ok (.iload_n 1, 1) := by decide +kernel
theorem dX6_machine_2 : decode cX6_machine 2 = .ok (.bipush 100, 2) := by decide +kernel
theorem dX6_machine_4 : decode cX6_machine 4 = .ok (.sipush 10000, 3) := by decide +kernel
theorem dX6_machine_7 : decode cX6_machine 7 = .ok (.invokestatic 54, 3) := by decide +kernel
theorem dX6_machine_10 : decode cX6_machine 10 = .ok (.ifCond .ne 7, 3) := by decide +kernel
theorem dX6_machine_13 : decode cX6_machine 13 = .ok (.iconst 1, 1) := by decide +kernel
theorem dX6_machine_14 : decode cX6_machine 14 = .ok (.goto 17, 3) := by decide +kernel
theorem dX6_machine_17 : decode cX6_machine 17 = .ok (.aload_n 0, 1) := by decide +kernel
theorem dX6_machine_18 : decode cX6_machine 18 = .ok (.getfield 58, 3) := by decide +kernel
theorem dX6_machine_21 : decode cX6_machine 21 = .ok (.bipush 6, 2) := by decide +kernel
theorem dX6_machine_23 : decode cX6_machine 23 = .ok (.if_icmp .ne 7, 3) := by decide +kernel
theorem dX6_machine_26 : decode cX6_machine 26 = .ok (.iconst 2, 1) := by decide +kernel
theorem dX6_machine_27 : decode cX6_machine 27 = .ok (.goto 4, 3) := by decide +kernel
theorem dX6_machine_30 : decode cX6_machine 30 = .ok (.iconst 0, 1) := by decide +kernel
theorem dX6_machine_31 : decode cX6_machine 31 = .ok (.invokevirtual 75, 3) := by decide +kernel
theorem dX6_machine_34 : decode cX6_machine 34 = .ok (.ifCond .eq 5, 3) := by decide +kernel
theorem dX6_machine_37 : decode cX6_machine 37 = .ok (.iconst 0, 1) := by decide +kernel
theorem dX6_machine_38 : decode cX6_machine 38 = .ok (.ireturn, 1) := by decide +kernel
theorem dX6_machine_39 : decode cX6_machine 39 = .ok (.aload_n 0, 1) := by decide +kernel
theorem dX6_machine_40 : decode cX6_machine 40 = .ok (.getfield 7, 3) := by decide +kernel
theorem dX6_machine_43 : decode cX6_machine 43 = .ok (.aload_n 0, 1) := by decide +kernel
theorem dX6_machine_44 : decode cX6_machine 44 = .ok (.getfield 58, 3) := by decide +kernel
theorem dX6_machine_47 : decode cX6_machine 47 = .ok (.iload_n 1, 1) := by decide +kernel
theorem dX6_machine_48 : decode cX6_machine 48 = .ok (.iastore, 1) := by decide +kernel
theorem dX6_machine_49 : decode cX6_machine 49 = .ok (.iconst 0, 1) := by decide +kernel
theorem dX6_machine_50 : decode cX6_machine 50 = .ok (.istore_n 2, 1) := by decide +kernel
theorem dX6_machine_51 : decode cX6_machine 51 = .ok (.iload_n 2, 1) := by decide +kernel
theorem dX6_machine_52 : decode cX6_machine 52 = .ok (.aload_n 0, 1) := by decide +kernel
theorem dX6_machine_53 : decode cX6_machine 53 = .ok (.getfield 29, 3) := by decide +kernel
theorem dX6_machine_56 : decode cX6_machine 56 = .ok (.if_icmp .ge 23, 3) := by decide +kernel
theorem dX6_machine_59 : decode cX6_machine 59 = .ok (.aload_n 0, 1) := by decide +kernel
theorem dX6_machine_60 : decode cX6_machine 60 = .ok (.getfield 58, 3) := by decide +kernel
theorem dX6_machine_63 : decode cX6_machine 63 = .ok (.ifCond .ne 16, 3) := by decide +kernel
theorem dX6_machine_66 : decode cX6_machine 66 = .ok (.aload_n 0, 1) := by decide +kernel
theorem dX6_machine_67 : decode cX6_machine 67 = .ok (.getfield 36, 3) := by decide +kernel
theorem dX6_machine_70 : decode cX6_machine 70 = .ok (.iload_n 2, 1) := by decide +kernel
theorem dX6_machine_71 : decode cX6_machine 71 = .ok (.iconst 0, 1) := by decide +kernel
theorem dX6_machine_72 : decode cX6_machine 72 = .ok (.iastore, 1) := by decide +kernel
theorem dX6_machine_73 : decode cX6_machine 73 = .ok (.iinc 2 1, 3) := by decide +kernel
theorem dX6_machine_76 : decode cX6_machine 76 = .ok (.goto (-25), 3) := by decide +kernel
theorem dX6_machine_79 : decode cX6_machine 79 = .ok (.aload_n 0, 1) := by decide +kernel
theorem dX6_machine_80 : decode cX6_machine 80 = .ok (.dup, 1) := by decide +kernel
theorem dX6_machine_81 : decode cX6_machine 81 = .ok (.getfield 58, 3) := by decide +kernel
theorem dX6_machine_84 : decode cX6_machine 84 = .ok (.iconst 1, 1) := by decide +kernel
theorem dX6_machine_85 : decode cX6_machine 85 = .ok (.iadd, 1) := by decide +kernel
theorem dX6_machine_86 : decode cX6_machine 86 = .ok (.putfield 58, 3) := by decide +kernel
theorem dX6_machine_89 : decode cX6_machine 89 = .ok (.aload_n 0, 1) := by decide +kernel
theorem dX6_machine_90 : decode cX6_machine 90 = .ok (.getfield 58, 3) := by decide +kernel
theorem dX6_machine_93 : decode cX6_machine 93 = .ok (.iconst 1, 1) := by decide +kernel
theorem dX6_machine_94 : decode cX6_machine 94 = .ok (.isub, 1) := by decide +kernel
theorem dX6_machine_95 : decode cX6_machine 95 = .ok (.ireturn, 1) := by decide +kernel
set_option maxRecDepth 20000 in
theorem ggX6_down_X6_isMachine : GoodIn wsX6_down wsX6_isMachine := goodIn_r _ [9, 10, 11, 12, 8, 13, 24, 25, 26, 27, 28, 29, 30, 31, 32, 33, 34, 35, 36, 37, 38, 39, 40, 41, 42, 43] (by decide +kernel) (by decide +kernel)
set_option maxRecDepth 20000 in
theorem gX6_down_X6_isMachine : GoodIn wsX6_down (wsV RX6 79 RX6 yX6_isMachine wsX6_isMachine) := goodIn_app (goodIn_of _ (by decide +kernel)) ggX6_down_X6_isMachine
set_option maxRecDepth 20000 in
theorem ggX6_down_X6_refused : GoodIn wsX6_down wsX6_refused := goodIn_r _ [17, 18, 24, 25, 26, 27, 28, 29, 30, 31, 32, 33, 34, 35, 36, 37, 38, 39, 40, 41, 42, 43] (by decide +kernel) (by decide +kernel)
set_option maxRecDepth 20000 in
theorem gX6_down_X6_refused : GoodIn wsX6_down (wsV RX6 75 RX6 yX6_refused wsX6_refused) := goodIn_app (goodIn_of _ (by decide +kernel)) ggX6_down_X6_refused
set_option maxRecDepth 20000 in
theorem ggX6_down_X6_rollBack : GoodIn wsX6_down wsX6_rollBack := goodIn_r _ [22, 3, 23, 24, 25, 26, 27, 28, 29, 30, 31, 32, 33, 34, 35, 36, 37, 38, 39, 40, 41, 42, 43] (by decide +kernel) (by decide +kernel)
set_option maxRecDepth 20000 in
theorem gX6_down_X6_rollBack : GoodIn wsX6_down (wsV RX6 82 RX6 yX6_rollBack wsX6_rollBack) := goodIn_app (goodIn_of _ (by decide +kernel)) ggX6_down_X6_rollBack
theorem dX6_down_0 : decode cX6_down 0 = .ok (.aload_n 0, 1) := by decide +kernel
theorem dX6_down_1 : decode cX6_down 1 = .ok (.aload_n 0, 1) := by decide +kernel
theorem dX6_down_2 : decode cX6_down 2 = .ok (.iload_n 1, 1) := by decide +kernel
theorem dX6_down_3 : decode cX6_down 3 = .ok (.invokevirtual 79, 3) := by decide +kernel
theorem dX6_down_6 : decode cX6_down 6 = .ok (.ifCond .eq 7, 3) := by decide +kernel
theorem dX6_down_9 : decode cX6_down 9 = .ok (.iconst 0, 1) := by decide +kernel
theorem dX6_down_10 : decode cX6_down 10 = .ok (.goto 4, 3) := by decide +kernel
theorem dX6_down_13 : decode cX6_down 13 = .ok (.iconst 1, 1) := by decide +kernel
theorem dX6_down_14 : decode cX6_down 14 = .ok (.invokevirtual 75, 3) := by decide +kernel
theorem dX6_down_17 : decode cX6_down 17 = .ok (.ifCond .eq 5, 3) := by decide +kernel
theorem dX6_down_20 : decode cX6_down 20 = .ok (.iconst 0, 1) := by decide +kernel
theorem dX6_down_21 : decode cX6_down 21 = .ok (.ireturn, 1) := by decide +kernel
theorem dX6_down_22 : decode cX6_down 22 = .ok (.aload_n 0, 1) := by decide +kernel
theorem dX6_down_23 : decode cX6_down 23 = .ok (.getfield 13, 3) := by decide +kernel
theorem dX6_down_26 : decode cX6_down 26 = .ok (.iload_n 1, 1) := by decide +kernel
theorem dX6_down_27 : decode cX6_down 27 = .ok (.baload, 1) := by decide +kernel
theorem dX6_down_28 : decode cX6_down 28 = .ok (.istore_n 3, 1) := by decide +kernel
theorem dX6_down_29 : decode cX6_down 29 = .ok (.aload_n 0, 1) := by decide +kernel
theorem dX6_down_30 : decode cX6_down 30 = .ok (.getfield 13, 3) := by decide +kernel
theorem dX6_down_33 : decode cX6_down 33 = .ok (.iload_n 1, 1) := by decide +kernel
theorem dX6_down_34 : decode cX6_down 34 = .ok (.iload_n 2, 1) := by decide +kernel
theorem dX6_down_35 : decode cX6_down 35 = .ok (.bastore, 1) := by decide +kernel
theorem dX6_down_36 : decode cX6_down 36 = .ok (.iconst 0, 1) := by decide +kernel
theorem dX6_down_37 : decode cX6_down 37 = .ok (.istore 4, 2) := by decide +kernel
theorem dX6_down_39 : decode cX6_down 39 = .ok (.iload 4, 2) := by decide +kernel
theorem dX6_down_41 : decode cX6_down 41 = .ok (.aload_n 0, 1) := by decide +kernel
theorem dX6_down_42 : decode cX6_down 42 = .ok (.getfield 29, 3) := by decide +kernel
theorem dX6_down_45 : decode cX6_down 45 = .ok (.if_icmp .ge 52, 3) := by decide +kernel
theorem dX6_down_48 : decode cX6_down 48 = .ok (.iload_n 2, 1) := by decide +kernel
theorem dX6_down_49 : decode cX6_down 49 = .ok (.ifCond .eq 48, 3) := by decide +kernel
theorem dX6_down_52 : decode cX6_down 52 = .ok (.aload_n 0, 1) := by decide +kernel
theorem dX6_down_53 : decode cX6_down 53 = .ok (.getfield 39, 3) := by decide +kernel
theorem dX6_down_56 : decode cX6_down 56 = .ok (.iload 4, 2) := by decide +kernel
theorem dX6_down_58 : decode cX6_down 58 = .ok (.iaload, 1) := by decide +kernel
theorem dX6_down_59 : decode cX6_down 59 = .ok (.iconst (-1), 1) := by decide +kernel
theorem dX6_down_60 : decode cX6_down 60 = .ok (.if_icmp .eq 31, 3) := by decide +kernel
theorem dX6_down_63 : decode cX6_down 63 = .ok (.aload_n 0, 1) := by decide +kernel
theorem dX6_down_64 : decode cX6_down 64 = .ok (.getfield 36, 3) := by decide +kernel
theorem dX6_down_67 : decode cX6_down 67 = .ok (.iload 4, 2) := by decide +kernel
theorem dX6_down_69 : decode cX6_down 69 = .ok (.iaload, 1) := by decide +kernel
theorem dX6_down_70 : decode cX6_down 70 = .ok (.iload_n 1, 1) := by decide +kernel
theorem dX6_down_71 : decode cX6_down 71 = .ok (.if_icmp .eq 14, 3) := by decide +kernel
theorem dX6_down_74 : decode cX6_down 74 = .ok (.aload_n 0, 1) := by decide +kernel
theorem dX6_down_75 : decode cX6_down 75 = .ok (.getfield 39, 3) := by decide +kernel
theorem dX6_down_78 : decode cX6_down 78 = .ok (.iload 4, 2) := by decide +kernel
theorem dX6_down_80 : decode cX6_down 80 = .ok (.iaload, 1) := by decide +kernel
theorem dX6_down_81 : decode cX6_down 81 = .ok (.iload_n 1, 1) := by decide +kernel
theorem dX6_down_82 : decode cX6_down 82 = .ok (.if_icmp .ne 9, 3) := by decide +kernel
theorem dX6_down_85 : decode cX6_down 85 = .ok (.aload_n 0, 1) := by decide +kernel
theorem dX6_down_86 : decode cX6_down 86 = .ok (.iload 4, 2) := by decide +kernel
theorem dX6_down_88 : decode cX6_down 88 = .ok (.invokevirtual 82, 3) := by decide +kernel
theorem dX6_down_91 : decode cX6_down 91 = .ok (.iinc 4 1, 3) := by decide +kernel
theorem dX6_down_94 : decode cX6_down 94 = .ok (.goto (-55), 3) := by decide +kernel
theorem dX6_down_97 : decode cX6_down 97 = .ok (.iload_n 3, 1) := by decide +kernel
theorem dX6_down_98 : decode cX6_down 98 = .ok (.ireturn, 1) := by decide +kernel
set_option maxRecDepth 20000 in
theorem ggX6_quota_X6_isTenant : GoodIn wsX6_quota wsX6_isTenant := goodIn_r _ [5, 6, 7, 4, 8] (by decide +kernel) (by decide +kernel)
set_option maxRecDepth 20000 in
theorem gX6_quota_X6_isTenant : GoodIn wsX6_quota (va_wsS RX6 86 yX6_isTenant wsX6_isTenant) := goodIn_app (goodIn_of _ (by decide +kernel)) ggX6_quota_X6_isTenant
set_option maxRecDepth 20000 in
theorem ggX6_quota_X6_in : GoodIn wsX6_quota wsX6_in := goodIn_r _ [8] (by decide +kernel) (by decide +kernel)
set_option maxRecDepth 20000 in
theorem gX6_quota_X6_in : GoodIn wsX6_quota (va_wsS RX6 54 yX6_in wsX6_in) := goodIn_app (goodIn_of _ (by decide +kernel)) ggX6_quota_X6_in
set_option maxRecDepth 20000 in
theorem ggX6_quota_X6_refused : GoodIn wsX6_quota wsX6_refused := goodIn_r _ [12, 13, 14, 15, 16, 17, 18, 19, 20, 21, 22, 23, 24, 25, 26, 27, 28, 29, 30, 31, 32, 33] (by decide +kernel) (by decide +kernel)
set_option maxRecDepth 20000 in
theorem gX6_quota_X6_refused : GoodIn wsX6_quota (wsV RX6 75 RX6 yX6_refused wsX6_refused) := goodIn_app (goodIn_of _ (by decide +kernel)) ggX6_quota_X6_refused
theorem dX6_quota_0 : decode cX6_quota 0 = .ok (.aload_n 0, 1) := by decide +kernel
theorem dX6_quota_1 : decode cX6_quota 1 = .ok (.iload_n 1, 1) := by decide +kernel
theorem dX6_quota_2 : decode cX6_quota 2 = .ok (.invokestatic 86, 3) := by decide +kernel
theorem dX6_quota_5 : decode cX6_quota 5 = .ok (.ifCond .ne 7, 3) := by decide +kernel
theorem dX6_quota_8 : decode cX6_quota 8 = .ok (.iconst 1, 1) := by decide +kernel
theorem dX6_quota_9 : decode cX6_quota 9 = .ok (.goto 19, 3) := by decide +kernel
theorem dX6_quota_12 : decode cX6_quota 12 = .ok (.iload_n 2, 1) := by decide +kernel
theorem dX6_quota_13 : decode cX6_quota 13 = .ok (.iconst 0, 1) := by decide +kernel
theorem dX6_quota_14 : decode cX6_quota 14 = .ok (.sipush 20000, 3) := by decide +kernel
theorem dX6_quota_17 : decode cX6_quota 17 = .ok (.invokestatic 54, 3) := by decide +kernel
theorem dX6_quota_20 : decode cX6_quota 20 = .ok (.ifCond .ne 7, 3) := by decide +kernel
theorem dX6_quota_23 : decode cX6_quota 23 = .ok (.iconst 2, 1) := by decide +kernel
theorem dX6_quota_24 : decode cX6_quota 24 = .ok (.goto 4, 3) := by decide +kernel
theorem dX6_quota_27 : decode cX6_quota 27 = .ok (.iconst 0, 1) := by decide +kernel
theorem dX6_quota_28 : decode cX6_quota 28 = .ok (.invokevirtual 75, 3) := by decide +kernel
theorem dX6_quota_31 : decode cX6_quota 31 = .ok (.ifCond .eq 5, 3) := by decide +kernel
theorem dX6_quota_34 : decode cX6_quota 34 = .ok (.iconst 0, 1) := by decide +kernel
theorem dX6_quota_35 : decode cX6_quota 35 = .ok (.ireturn, 1) := by decide +kernel
theorem dX6_quota_36 : decode cX6_quota 36 = .ok (.aload_n 0, 1) := by decide +kernel
theorem dX6_quota_37 : decode cX6_quota 37 = .ok (.getfield 17, 3) := by decide +kernel
theorem dX6_quota_40 : decode cX6_quota 40 = .ok (.iload_n 1, 1) := by decide +kernel
theorem dX6_quota_41 : decode cX6_quota 41 = .ok (.iaload, 1) := by decide +kernel
theorem dX6_quota_42 : decode cX6_quota 42 = .ok (.istore_n 3, 1) := by decide +kernel
theorem dX6_quota_43 : decode cX6_quota 43 = .ok (.aload_n 0, 1) := by decide +kernel
theorem dX6_quota_44 : decode cX6_quota 44 = .ok (.getfield 17, 3) := by decide +kernel
theorem dX6_quota_47 : decode cX6_quota 47 = .ok (.iload_n 1, 1) := by decide +kernel
theorem dX6_quota_48 : decode cX6_quota 48 = .ok (.iload_n 2, 1) := by decide +kernel
theorem dX6_quota_49 : decode cX6_quota 49 = .ok (.iastore, 1) := by decide +kernel
theorem dX6_quota_50 : decode cX6_quota 50 = .ok (.iload_n 3, 1) := by decide +kernel
theorem dX6_quota_51 : decode cX6_quota 51 = .ok (.ireturn, 1) := by decide +kernel
set_option maxRecDepth 20000 in
theorem ggX6_limit_X6_in : GoodIn wsX6_limit wsX6_in := goodIn_r _ [5] (by decide +kernel) (by decide +kernel)
set_option maxRecDepth 20000 in
theorem gX6_limit_X6_in : GoodIn wsX6_limit (va_wsS RX6 54 yX6_in wsX6_in) := goodIn_app (goodIn_of _ (by decide +kernel)) ggX6_limit_X6_in
set_option maxRecDepth 20000 in
theorem ggX6_limit_X6_refused : GoodIn wsX6_limit wsX6_refused := goodIn_r _ [9, 10, 11, 12, 13, 14, 15, 16, 17, 18, 19, 20, 21, 22, 23, 24, 25, 26, 27, 28, 29, 30] (by decide +kernel) (by decide +kernel)
set_option maxRecDepth 20000 in
theorem gX6_limit_X6_refused : GoodIn wsX6_limit (wsV RX6 75 RX6 yX6_refused wsX6_refused) := goodIn_app (goodIn_of _ (by decide +kernel)) ggX6_limit_X6_refused
theorem dX6_limit_0 : decode cX6_limit 0 = .ok (.aload_n 0, 1) := by decide +kernel
theorem dX6_limit_1 : decode cX6_limit 1 = .ok (.iload_n 1, 1) := by decide +kernel
theorem dX6_limit_2 : decode cX6_limit 2 = .ok (.iconst 0, 1) := by decide +kernel
theorem dX6_limit_3 : decode cX6_limit 3 = .ok (.sipush 1000, 3) := by decide +kernel
theorem dX6_limit_6 : decode cX6_limit 6 = .ok (.invokestatic 54, 3) := by decide +kernel
theorem dX6_limit_9 : decode cX6_limit 9 = .ok (.ifCond .eq 7, 3) := by decide +kernel
theorem dX6_limit_12 : decode cX6_limit 12 = .ok (.iconst 0, 1) := by decide +kernel
theorem dX6_limit_13 : decode cX6_limit 13 = .ok (.goto 4, 3) := by decide +kernel
theorem dX6_limit_16 : decode cX6_limit 16 = .ok (.iconst 1, 1) := by decide +kernel
theorem dX6_limit_17 : decode cX6_limit 17 = .ok (.invokevirtual 75, 3) := by decide +kernel
theorem dX6_limit_20 : decode cX6_limit 20 = .ok (.ifCond .eq 5, 3) := by decide +kernel
theorem dX6_limit_23 : decode cX6_limit 23 = .ok (.iconst 0, 1) := by decide +kernel
theorem dX6_limit_24 : decode cX6_limit 24 = .ok (.ireturn, 1) := by decide +kernel
theorem dX6_limit_25 : decode cX6_limit 25 = .ok (.aload_n 0, 1) := by decide +kernel
theorem dX6_limit_26 : decode cX6_limit 26 = .ok (.getfield 89, 3) := by decide +kernel
theorem dX6_limit_29 : decode cX6_limit 29 = .ok (.istore_n 2, 1) := by decide +kernel
theorem dX6_limit_30 : decode cX6_limit 30 = .ok (.aload_n 0, 1) := by decide +kernel
theorem dX6_limit_31 : decode cX6_limit 31 = .ok (.iload_n 1, 1) := by decide +kernel
theorem dX6_limit_32 : decode cX6_limit 32 = .ok (.putfield 89, 3) := by decide +kernel
theorem dX6_limit_35 : decode cX6_limit 35 = .ok (.iload_n 2, 1) := by decide +kernel
theorem dX6_limit_36 : decode cX6_limit 36 = .ok (.ireturn, 1) := by decide +kernel
theorem dX6_isCopied_0 : decode cX6_isCopied 0 = .ok (.aload_n 0, 1) := by decide +kernel
theorem dX6_isCopied_1 : decode cX6_isCopied 1 = .ok (.getfield 39, 3) := by decide +kernel
theorem dX6_isCopied_4 : decode cX6_isCopied 4 = .ok (.iload_n 1, 1) := by decide +kernel
theorem dX6_isCopied_5 : decode cX6_isCopied 5 = .ok (.iaload, 1) := by decide +kernel
theorem dX6_isCopied_6 : decode cX6_isCopied 6 = .ok (.iconst (-1), 1) := by decide +kernel
theorem dX6_isCopied_7 : decode cX6_isCopied 7 = .ok (.if_icmp .eq 17, 3) := by decide +kernel
theorem dX6_isCopied_10 : decode cX6_isCopied 10 = .ok (.iload_n 2, 1) := by decide +kernel
theorem dX6_isCopied_11 : decode cX6_isCopied 11 = .ok (.aload_n 0, 1) := by decide +kernel
theorem dX6_isCopied_12 : decode cX6_isCopied 12 = .ok (.getfield 42, 3) := by decide +kernel
theorem dX6_isCopied_15 : decode cX6_isCopied 15 = .ok (.iload_n 1, 1) := by decide +kernel
theorem dX6_isCopied_16 : decode cX6_isCopied 16 = .ok (.iaload, 1) := by decide +kernel
theorem dX6_isCopied_17 : decode cX6_isCopied 17 = .ok (.if_icmp .ge 7, 3) := by decide +kernel
theorem dX6_isCopied_20 : decode cX6_isCopied 20 = .ok (.iconst 1, 1) := by decide +kernel
theorem dX6_isCopied_21 : decode cX6_isCopied 21 = .ok (.goto 4, 3) := by decide +kernel
theorem dX6_isCopied_24 : decode cX6_isCopied 24 = .ok (.iconst 0, 1) := by decide +kernel
theorem dX6_isCopied_25 : decode cX6_isCopied 25 = .ok (.ireturn, 1) := by decide +kernel
set_option maxRecDepth 20000 in
theorem ggX6_write_X6_isKey : GoodIn wsX6_write wsX6_isKey := goodIn_r _ [14, 15, 16, 13, 17] (by decide +kernel) (by decide +kernel)
set_option maxRecDepth 20000 in
theorem gX6_write_X6_isKey : GoodIn wsX6_write (va_wsS RX6 92 yX6_isKey wsX6_isKey) := goodIn_app (goodIn_of _ (by decide +kernel)) ggX6_write_X6_isKey
set_option maxRecDepth 20000 in
theorem ggX6_write_X6_isTenant : GoodIn wsX6_write wsX6_isTenant := goodIn_r _ [20, 15, 16, 13, 17] (by decide +kernel) (by decide +kernel)
set_option maxRecDepth 20000 in
theorem gX6_write_X6_isTenant : GoodIn wsX6_write (va_wsS RX6 86 yX6_isTenant wsX6_isTenant) := goodIn_app (goodIn_of _ (by decide +kernel)) ggX6_write_X6_isTenant
set_option maxRecDepth 20000 in
theorem ggX6_write_X6_in : GoodIn wsX6_write wsX6_in := goodIn_r _ [17] (by decide +kernel) (by decide +kernel)
set_option maxRecDepth 20000 in
theorem gX6_write_X6_in : GoodIn wsX6_write (va_wsS RX6 54 yX6_in wsX6_in) := goodIn_app (goodIn_of _ (by decide +kernel)) ggX6_write_X6_in
set_option maxRecDepth 20000 in
theorem ggX6_write_X6_shardAt : GoodIn wsX6_write wsX6_shardAt := goodIn_r _ [24, 25, 62, 63, 64, 65, 66, 67, 68, 69, 70, 71, 72, 73, 74, 75, 76, 77, 78, 79, 80, 81] (by decide +kernel) (by decide +kernel)
set_option maxRecDepth 20000 in
theorem gX6_write_X6_shardAt : GoodIn wsX6_write (wsV RX6 95 RX6 yX6_shardAt wsX6_shardAt) := goodIn_app (goodIn_of _ (by decide +kernel)) ggX6_write_X6_shardAt
set_option maxRecDepth 20000 in
theorem ggX6_write_X6_held : GoodIn wsX6_write wsX6_held := goodIn_r _ [29, 30, 3, 10, 31, 32, 33, 13, 34, 25, 35, 36, 37, 38, 4, 39, 40, 41, 42, 43, 62, 63, 64, 65, 66, 67, 68, 69, 70, 71, 72, 73, 74, 75, 76, 77, 78, 79, 80, 81] (by decide +kernel) (by decide +kernel)
set_option maxRecDepth 20000 in
theorem gX6_write_X6_held : GoodIn wsX6_write (wsV RX6 98 RX6 yX6_held wsX6_held) := goodIn_app (goodIn_of _ (by decide +kernel)) ggX6_write_X6_held
set_option maxRecDepth 20000 in
theorem ggX6_write_X6_bytesOf : GoodIn wsX6_write wsX6_bytesOf := goodIn_r _ [47, 6, 4, 62, 63, 64, 65, 66, 67, 68, 69, 70, 71, 72, 73, 74, 75, 76, 77, 78, 79, 80, 81] (by decide +kernel) (by decide +kernel)
set_option maxRecDepth 20000 in
theorem gX6_write_X6_bytesOf : GoodIn wsX6_write (wsV RX6 101 RX6 yX6_bytesOf wsX6_bytesOf) := goodIn_app (goodIn_of _ (by decide +kernel)) ggX6_write_X6_bytesOf
set_option maxRecDepth 20000 in
theorem ggX6_write_X6_refused : GoodIn wsX6_write wsX6_refused := goodIn_r _ [51, 52, 62, 63, 64, 65, 66, 67, 68, 69, 70, 71, 72, 73, 74, 75, 76, 77, 78, 79, 80, 81] (by decide +kernel) (by decide +kernel)
set_option maxRecDepth 20000 in
theorem gX6_write_X6_refused : GoodIn wsX6_write (wsV RX6 75 RX6 yX6_refused wsX6_refused) := goodIn_app (goodIn_of _ (by decide +kernel)) ggX6_write_X6_refused
set_option maxRecDepth 20000 in
theorem ggX6_write_X6_isCopied : GoodIn wsX6_write wsX6_isCopied := goodIn_r _ [56, 10, 43, 62, 63, 64, 65, 66, 67, 68, 69, 70, 71, 72, 73, 74, 75, 76, 77, 78, 79, 80, 81] (by decide +kernel) (by decide +kernel)
set_option maxRecDepth 20000 in
theorem gX6_write_X6_isCopied : GoodIn wsX6_write (wsV RX6 107 RX6 yX6_isCopied wsX6_isCopied) := goodIn_app (goodIn_of _ (by decide +kernel)) ggX6_write_X6_isCopied
set_option maxRecDepth 20000 in
theorem ggX6_write_X6_rollBack : GoodIn wsX6_write wsX6_rollBack := goodIn_r _ [60, 10, 61, 62, 63, 64, 65, 66, 67, 68, 69, 70, 71, 72, 73, 74, 75, 76, 77, 78, 79, 80, 81] (by decide +kernel) (by decide +kernel)
set_option maxRecDepth 20000 in
theorem gX6_write_X6_rollBack : GoodIn wsX6_write (wsV RX6 82 RX6 yX6_rollBack wsX6_rollBack) := goodIn_app (goodIn_of _ (by decide +kernel)) ggX6_write_X6_rollBack
theorem dX6_write_0 : decode cX6_write 0 = .ok (.iload_n 1, 1) := by decide +kernel
theorem dX6_write_1 : decode cX6_write 1 = .ok (.invokestatic 92, 3) := by decide +kernel
theorem dX6_write_4 : decode cX6_write 4 = .ok (.ifCond .eq 14, 3) := by decide +kernel
theorem dX6_write_7 : decode cX6_write 7 = .ok (.iload_n 2, 1) := by decide +kernel
theorem dX6_write_8 : decode cX6_write 8 = .ok (.invokestatic 86, 3) := by decide +kernel
theorem dX6_write_11 : decode cX6_write 11 = .ok (.ifCond .eq 7, 3) := by decide +kernel
theorem dX6_write_14 : decode cX6_write 14 = .ok (.iconst 1, 1) := by decide +kernel
theorem dX6_write_15 : decode cX6_write 15 = .ok (.goto 4, 3) := by decide +kernel
theorem dX6_write_18 : decode cX6_write 18 = .ok (.iconst 0, 1) := by decide +kernel
theorem dX6_write_19 : decode cX6_write 19 = .ok (.istore 4, 2) := by decide +kernel
theorem dX6_write_21 : decode cX6_write 21 = .ok (.iload_n 3, 1) := by decide +kernel
theorem dX6_write_22 : decode cX6_write 22 = .ok (.iconst 1, 1) := by decide +kernel
theorem dX6_write_23 : decode cX6_write 23 = .ok (.bipush 100, 2) := by decide +kernel
theorem dX6_write_25 : decode cX6_write 25 = .ok (.invokestatic 54, 3) := by decide +kernel
theorem dX6_write_28 : decode cX6_write 28 = .ok (.istore 5, 2) := by decide +kernel
theorem dX6_write_30 : decode cX6_write 30 = .ok (.iload 4, 2) := by decide +kernel
theorem dX6_write_32 : decode cX6_write 32 = .ok (.ifCond .eq 11, 3) := by decide +kernel
theorem dX6_write_35 : decode cX6_write 35 = .ok (.aload_n 0, 1) := by decide +kernel
theorem dX6_write_36 : decode cX6_write 36 = .ok (.iload_n 1, 1) := by decide +kernel
theorem dX6_write_37 : decode cX6_write 37 = .ok (.invokevirtual 95, 3) := by decide +kernel
theorem dX6_write_40 : decode cX6_write 40 = .ok (.goto 4, 3) := by decide +kernel
theorem dX6_write_43 : decode cX6_write 43 = .ok (.iconst 0, 1) := by decide +kernel
theorem dX6_write_44 : decode cX6_write 44 = .ok (.istore 6, 2) := by decide +kernel
theorem dX6_write_46 : decode cX6_write 46 = .ok (.iload 4, 2) := by decide +kernel
theorem dX6_write_48 : decode cX6_write 48 = .ok (.ifCond .eq 34, 3) := by decide +kernel
theorem dX6_write_51 : decode cX6_write 51 = .ok (.iload 5, 2) := by decide +kernel
theorem dX6_write_53 : decode cX6_write 53 = .ok (.ifCond .eq 29, 3) := by decide +kernel
theorem dX6_write_56 : decode cX6_write 56 = .ok (.aload_n 0, 1) := by decide +kernel
theorem dX6_write_57 : decode cX6_write 57 = .ok (.getfield 58, 3) := by decide +kernel
theorem dX6_write_60 : decode cX6_write 60 = .ok (.ifCond .le 22, 3) := by decide +kernel
theorem dX6_write_63 : decode cX6_write 63 = .ok (.aload_n 0, 1) := by decide +kernel
theorem dX6_write_64 : decode cX6_write 64 = .ok (.getfield 13, 3) := by decide +kernel
theorem dX6_write_67 : decode cX6_write 67 = .ok (.aload_n 0, 1) := by decide +kernel
theorem dX6_write_68 : decode cX6_write 68 = .ok (.getfield 36, 3) := by decide +kernel
theorem dX6_write_71 : decode cX6_write 71 = .ok (.iload 6, 2) := by decide +kernel
theorem dX6_write_73 : decode cX6_write 73 = .ok (.iaload, 1) := by decide +kernel
theorem dX6_write_74 : decode cX6_write 74 = .ok (.baload, 1) := by decide +kernel
theorem dX6_write_75 : decode cX6_write 75 = .ok (.ifCond .ne 7, 3) := by decide +kernel
theorem dX6_write_78 : decode cX6_write 78 = .ok (.iconst 1, 1) := by decide +kernel
theorem dX6_write_79 : decode cX6_write 79 = .ok (.goto 4, 3) := by decide +kernel
theorem dX6_write_82 : decode cX6_write 82 = .ok (.iconst 0, 1) := by decide +kernel
theorem dX6_write_83 : decode cX6_write 83 = .ok (.istore 7, 2) := by decide +kernel
theorem dX6_write_85 : decode cX6_write 85 = .ok (.iload 7, 2) := by decide +kernel
theorem dX6_write_87 : decode cX6_write 87 = .ok (.ifCond .eq 42, 3) := by decide +kernel
theorem dX6_write_90 : decode cX6_write 90 = .ok (.aload_n 0, 1) := by decide +kernel
theorem dX6_write_91 : decode cX6_write 91 = .ok (.aload_n 0, 1) := by decide +kernel
theorem dX6_write_92 : decode cX6_write 92 = .ok (.getfield 36, 3) := by decide +kernel
theorem dX6_write_95 : decode cX6_write 95 = .ok (.iload 6, 2) := by decide +kernel
theorem dX6_write_97 : decode cX6_write 97 = .ok (.iaload, 1) := by decide +kernel
theorem dX6_write_98 : decode cX6_write 98 = .ok (.invokevirtual 98, 3) := by decide +kernel
theorem dX6_write_101 : decode cX6_write 101 = .ok (.aload_n 0, 1) := by decide +kernel
theorem dX6_write_102 : decode cX6_write 102 = .ok (.getfield 26, 3) := by decide +kernel
theorem dX6_write_105 : decode cX6_write 105 = .ok (.iload_n 1, 1) := by decide +kernel
theorem dX6_write_106 : decode cX6_write 106 = .ok (.iaload, 1) := by decide +kernel
theorem dX6_write_107 : decode cX6_write 107 = .ok (.isub, 1) := by decide +kernel
theorem dX6_write_108 : decode cX6_write 108 = .ok (.iload_n 3, 1) := by decide +kernel
theorem dX6_write_109 : decode cX6_write 109 = .ok (.iadd, 1) := by decide +kernel
theorem dX6_write_110 : decode cX6_write 110 = .ok (.aload_n 0, 1) := by decide +kernel
theorem dX6_write_111 : decode cX6_write 111 = .ok (.getfield 7, 3) := by decide +kernel
theorem dX6_write_114 : decode cX6_write 114 = .ok (.aload_n 0, 1) := by decide +kernel
theorem dX6_write_115 : decode cX6_write 115 = .ok (.getfield 36, 3) := by decide +kernel
theorem dX6_write_118 : decode cX6_write 118 = .ok (.iload 6, 2) := by decide +kernel
theorem dX6_write_120 : decode cX6_write 120 = .ok (.iaload, 1) := by decide +kernel
theorem dX6_write_121 : decode cX6_write 121 = .ok (.iaload, 1) := by decide +kernel
theorem dX6_write_122 : decode cX6_write 122 = .ok (.if_icmp .gt 7, 3) := by decide +kernel
theorem dX6_write_125 : decode cX6_write 125 = .ok (.iconst 1, 1) := by decide +kernel
theorem dX6_write_126 : decode cX6_write 126 = .ok (.goto 4, 3) := by decide +kernel
theorem dX6_write_129 : decode cX6_write 129 = .ok (.iconst 0, 1) := by decide +kernel
theorem dX6_write_130 : decode cX6_write 130 = .ok (.istore 7, 2) := by decide +kernel
theorem dX6_write_132 : decode cX6_write 132 = .ok (.iload 7, 2) := by decide +kernel
theorem dX6_write_134 : decode cX6_write 134 = .ok (.ifCond .eq 54, 3) := by decide +kernel
theorem dX6_write_137 : decode cX6_write 137 = .ok (.aload_n 0, 1) := by decide +kernel
theorem dX6_write_138 : decode cX6_write 138 = .ok (.iload_n 2, 1) := by decide +kernel
theorem dX6_write_139 : decode cX6_write 139 = .ok (.invokevirtual 101, 3) := by decide +kernel
theorem dX6_write_142 : decode cX6_write 142 = .ok (.aload_n 0, 1) := by decide +kernel
theorem dX6_write_143 : decode cX6_write 143 = .ok (.getfield 23, 3) := by decide +kernel
theorem dX6_write_146 : decode cX6_write 146 = .ok (.iload_n 1, 1) := by decide +kernel
theorem dX6_write_147 : decode cX6_write 147 = .ok (.iaload, 1) := by decide +kernel
theorem dX6_write_148 : decode cX6_write 148 = .ok (.iload_n 2, 1) := by decide +kernel
theorem dX6_write_149 : decode cX6_write 149 = .ok (.if_icmp .ne 12, 3) := by decide +kernel
theorem dX6_write_152 : decode cX6_write 152 = .ok (.aload_n 0, 1) := by decide +kernel
theorem dX6_write_153 : decode cX6_write 153 = .ok (.getfield 26, 3) := by decide +kernel
theorem dX6_write_156 : decode cX6_write 156 = .ok (.iload_n 1, 1) := by decide +kernel
theorem dX6_write_157 : decode cX6_write 157 = .ok (.iaload, 1) := by decide +kernel
theorem dX6_write_158 : decode cX6_write 158 = .ok (.goto 4, 3) := by decide +kernel
theorem dX6_write_161 : decode cX6_write 161 = .ok (.iconst 0, 1) := by decide +kernel
theorem dX6_write_162 : decode cX6_write 162 = .ok (.isub, 1) := by decide +kernel
theorem dX6_write_163 : decode cX6_write 163 = .ok (.iload_n 3, 1) := by decide +kernel
theorem dX6_write_164 : decode cX6_write 164 = .ok (.iadd, 1) := by decide +kernel
theorem dX6_write_165 : decode cX6_write 165 = .ok (.aload_n 0, 1) := by decide +kernel
theorem dX6_write_166 : decode cX6_write 166 = .ok (.getfield 17, 3) := by decide +kernel
theorem dX6_write_169 : decode cX6_write 169 = .ok (.iload_n 2, 1) := by decide +kernel
theorem dX6_write_170 : decode cX6_write 170 = .ok (.iaload, 1) := by decide +kernel
theorem dX6_write_171 : decode cX6_write 171 = .ok (.if_icmp .gt 17, 3) := by decide +kernel
theorem dX6_write_174 : decode cX6_write 174 = .ok (.aload_n 0, 1) := by decide +kernel
theorem dX6_write_175 : decode cX6_write 175 = .ok (.getfield 104, 3) := by decide +kernel
theorem dX6_write_178 : decode cX6_write 178 = .ok (.sipush 600, 3) := by decide +kernel
theorem dX6_write_181 : decode cX6_write 181 = .ok (.if_icmp .ge 7, 3) := by decide +kernel
theorem dX6_write_184 : decode cX6_write 184 = .ok (.iconst 1, 1) := by decide +kernel
theorem dX6_write_185 : decode cX6_write 185 = .ok (.goto 4, 3) := by decide +kernel
theorem dX6_write_188 : decode cX6_write 188 = .ok (.iconst 0, 1) := by decide +kernel
theorem dX6_write_189 : decode cX6_write 189 = .ok (.istore 7, 2) := by decide +kernel
theorem dX6_write_191 : decode cX6_write 191 = .ok (.aload_n 0, 1) := by decide +kernel
theorem dX6_write_192 : decode cX6_write 192 = .ok (.iload 4, 2) := by decide +kernel
theorem dX6_write_194 : decode cX6_write 194 = .ok (.ifCond .ne 7, 3) := by decide +kernel
theorem dX6_write_197 : decode cX6_write 197 = .ok (.iconst 1, 1) := by decide +kernel
theorem dX6_write_198 : decode cX6_write 198 = .ok (.goto 22, 3) := by decide +kernel
theorem dX6_write_201 : decode cX6_write 201 = .ok (.iload 5, 2) := by decide +kernel
theorem dX6_write_203 : decode cX6_write 203 = .ok (.ifCond .ne 7, 3) := by decide +kernel
theorem dX6_write_206 : decode cX6_write 206 = .ok (.iconst 2, 1) := by decide +kernel
theorem dX6_write_207 : decode cX6_write 207 = .ok (.goto 13, 3) := by decide +kernel
theorem dX6_write_210 : decode cX6_write 210 = .ok (.iload 7, 2) := by decide +kernel
theorem dX6_write_212 : decode cX6_write 212 = .ok (.ifCond .eq 7, 3) := by decide +kernel
theorem dX6_write_215 : decode cX6_write 215 = .ok (.iconst 0, 1) := by decide +kernel
theorem dX6_write_216 : decode cX6_write 216 = .ok (.goto 4, 3) := by decide +kernel
theorem dX6_write_219 : decode cX6_write 219 = .ok (.iconst 3, 1) := by decide +kernel
theorem dX6_write_220 : decode cX6_write 220 = .ok (.invokevirtual 75, 3) := by decide +kernel
theorem dX6_write_223 : decode cX6_write 223 = .ok (.ifCond .eq 5, 3) := by decide +kernel
theorem dX6_write_226 : decode cX6_write 226 = .ok (.iconst 0, 1) := by decide +kernel
theorem dX6_write_227 : decode cX6_write 227 = .ok (.ireturn, 1) := by decide +kernel
theorem dX6_write_228 : decode cX6_write 228 = .ok (.aload_n 0, 1) := by decide +kernel
theorem dX6_write_229 : decode cX6_write 229 = .ok (.getfield 23, 3) := by decide +kernel
theorem dX6_write_232 : decode cX6_write 232 = .ok (.iload_n 1, 1) := by decide +kernel
theorem dX6_write_233 : decode cX6_write 233 = .ok (.iload_n 2, 1) := by decide +kernel
theorem dX6_write_234 : decode cX6_write 234 = .ok (.iastore, 1) := by decide +kernel
theorem dX6_write_235 : decode cX6_write 235 = .ok (.aload_n 0, 1) := by decide +kernel
theorem dX6_write_236 : decode cX6_write 236 = .ok (.getfield 26, 3) := by decide +kernel
theorem dX6_write_239 : decode cX6_write 239 = .ok (.iload_n 1, 1) := by decide +kernel
theorem dX6_write_240 : decode cX6_write 240 = .ok (.iload_n 3, 1) := by decide +kernel
theorem dX6_write_241 : decode cX6_write 241 = .ok (.iastore, 1) := by decide +kernel
theorem dX6_write_242 : decode cX6_write 242 = .ok (.aload_n 0, 1) := by decide +kernel
theorem dX6_write_243 : decode cX6_write 243 = .ok (.dup, 1) := by decide +kernel
theorem dX6_write_244 : decode cX6_write 244 = .ok (.getfield 104, 3) := by decide +kernel
theorem dX6_write_247 : decode cX6_write 247 = .ok (.iconst 1, 1) := by decide +kernel
theorem dX6_write_248 : decode cX6_write 248 = .ok (.iadd, 1) := by decide +kernel
theorem dX6_write_249 : decode cX6_write 249 = .ok (.putfield 104, 3) := by decide +kernel
theorem dX6_write_252 : decode cX6_write 252 = .ok (.aload_n 0, 1) := by decide +kernel
theorem dX6_write_253 : decode cX6_write 253 = .ok (.getfield 48, 3) := by decide +kernel
theorem dX6_write_256 : decode cX6_write 256 = .ok (.iload 6, 2) := by decide +kernel
theorem dX6_write_258 : decode cX6_write 258 = .ok (.dup2, 1) := by decide +kernel
theorem dX6_write_259 : decode cX6_write 259 = .ok (.iaload, 1) := by decide +kernel
theorem dX6_write_260 : decode cX6_write 260 = .ok (.iconst 1, 1) := by decide +kernel
theorem dX6_write_261 : decode cX6_write 261 = .ok (.iadd, 1) := by decide +kernel
theorem dX6_write_262 : decode cX6_write 262 = .ok (.iastore, 1) := by decide +kernel
theorem dX6_write_263 : decode cX6_write 263 = .ok (.aload_n 0, 1) := by decide +kernel
theorem dX6_write_264 : decode cX6_write 264 = .ok (.iload 6, 2) := by decide +kernel
theorem dX6_write_266 : decode cX6_write 266 = .ok (.iload_n 1, 1) := by decide +kernel
theorem dX6_write_267 : decode cX6_write 267 = .ok (.invokevirtual 107, 3) := by decide +kernel
theorem dX6_write_270 : decode cX6_write 270 = .ok (.ifCond .eq 35, 3) := by decide +kernel
theorem dX6_write_273 : decode cX6_write 273 = .ok (.aload_n 0, 1) := by decide +kernel
theorem dX6_write_274 : decode cX6_write 274 = .ok (.aload_n 0, 1) := by decide +kernel
theorem dX6_write_275 : decode cX6_write 275 = .ok (.getfield 39, 3) := by decide +kernel
theorem dX6_write_278 : decode cX6_write 278 = .ok (.iload 6, 2) := by decide +kernel
theorem dX6_write_280 : decode cX6_write 280 = .ok (.iaload, 1) := by decide +kernel
theorem dX6_write_281 : decode cX6_write 281 = .ok (.invokevirtual 98, 3) := by decide +kernel
theorem dX6_write_284 : decode cX6_write 284 = .ok (.aload_n 0, 1) := by decide +kernel
theorem dX6_write_285 : decode cX6_write 285 = .ok (.getfield 7, 3) := by decide +kernel
theorem dX6_write_288 : decode cX6_write 288 = .ok (.aload_n 0, 1) := by decide +kernel
theorem dX6_write_289 : decode cX6_write 289 = .ok (.getfield 39, 3) := by decide +kernel
theorem dX6_write_292 : decode cX6_write 292 = .ok (.iload 6, 2) := by decide +kernel
theorem dX6_write_294 : decode cX6_write 294 = .ok (.iaload, 1) := by decide +kernel
theorem dX6_write_295 : decode cX6_write 295 = .ok (.iaload, 1) := by decide +kernel
theorem dX6_write_296 : decode cX6_write 296 = .ok (.if_icmp .le 9, 3) := by decide +kernel
theorem dX6_write_299 : decode cX6_write 299 = .ok (.aload_n 0, 1) := by decide +kernel
theorem dX6_write_300 : decode cX6_write 300 = .ok (.iload 6, 2) := by decide +kernel
theorem dX6_write_302 : decode cX6_write 302 = .ok (.invokevirtual 82, 3) := by decide +kernel
theorem dX6_write_305 : decode cX6_write 305 = .ok (.aload_n 0, 1) := by decide +kernel
theorem dX6_write_306 : decode cX6_write 306 = .ok (.iload_n 2, 1) := by decide +kernel
theorem dX6_write_307 : decode cX6_write 307 = .ok (.invokevirtual 101, 3) := by decide +kernel
theorem dX6_write_310 : decode cX6_write 310 = .ok (.ireturn, 1) := by decide +kernel
set_option maxRecDepth 20000 in
theorem ggX6_take_X6_isKey : GoodIn wsX6_take wsX6_isKey := goodIn_r _ [9, 10, 11, 8, 12] (by decide +kernel) (by decide +kernel)
set_option maxRecDepth 20000 in
theorem gX6_take_X6_isKey : GoodIn wsX6_take (va_wsS RX6 92 yX6_isKey wsX6_isKey) := goodIn_app (goodIn_of _ (by decide +kernel)) ggX6_take_X6_isKey
set_option maxRecDepth 20000 in
theorem ggX6_take_X6_shardAt : GoodIn wsX6_take wsX6_shardAt := goodIn_r _ [16, 17, 23, 24, 25, 26, 27, 28, 29, 30, 31, 32, 33, 34, 35, 36, 37, 38, 39, 40, 41, 42] (by decide +kernel) (by decide +kernel)
set_option maxRecDepth 20000 in
theorem gX6_take_X6_shardAt : GoodIn wsX6_take (wsV RX6 95 RX6 yX6_shardAt wsX6_shardAt) := goodIn_app (goodIn_of _ (by decide +kernel)) ggX6_take_X6_shardAt
set_option maxRecDepth 20000 in
theorem ggX6_take_X6_refused : GoodIn wsX6_take wsX6_refused := goodIn_r _ [21, 22, 23, 24, 25, 26, 27, 28, 29, 30, 31, 32, 33, 34, 35, 36, 37, 38, 39, 40, 41, 42] (by decide +kernel) (by decide +kernel)
set_option maxRecDepth 20000 in
theorem gX6_take_X6_refused : GoodIn wsX6_take (wsV RX6 75 RX6 yX6_refused wsX6_refused) := goodIn_app (goodIn_of _ (by decide +kernel)) ggX6_take_X6_refused
theorem dX6_take_0 : decode cX6_take 0 = .ok (.iload_n 1, 1) := by decide +kernel
theorem dX6_take_1 : decode cX6_take 1 = .ok (.invokestatic 92, 3) := by decide +kernel
theorem dX6_take_4 : decode cX6_take 4 = .ok (.istore_n 2, 1) := by decide +kernel
theorem dX6_take_5 : decode cX6_take 5 = .ok (.iload_n 2, 1) := by decide +kernel
theorem dX6_take_6 : decode cX6_take 6 = .ok (.ifCond .eq 11, 3) := by decide +kernel
theorem dX6_take_9 : decode cX6_take 9 = .ok (.aload_n 0, 1) := by decide +kernel
theorem dX6_take_10 : decode cX6_take 10 = .ok (.iload_n 1, 1) := by decide +kernel
theorem dX6_take_11 : decode cX6_take 11 = .ok (.invokevirtual 95, 3) := by decide +kernel
theorem dX6_take_14 : decode cX6_take 14 = .ok (.goto 4, 3) := by decide +kernel
theorem dX6_take_17 : decode cX6_take 17 = .ok (.iconst 0, 1) := by decide +kernel
theorem dX6_take_18 : decode cX6_take 18 = .ok (.istore_n 3, 1) := by decide +kernel
theorem dX6_take_19 : decode cX6_take 19 = .ok (.iload_n 2, 1) := by decide +kernel
theorem dX6_take_20 : decode cX6_take 20 = .ok (.ifCond .eq 40, 3) := by decide +kernel
theorem dX6_take_23 : decode cX6_take 23 = .ok (.aload_n 0, 1) := by decide +kernel
theorem dX6_take_24 : decode cX6_take 24 = .ok (.getfield 26, 3) := by decide +kernel
theorem dX6_take_27 : decode cX6_take 27 = .ok (.iload_n 1, 1) := by decide +kernel
theorem dX6_take_28 : decode cX6_take 28 = .ok (.iaload, 1) := by decide +kernel
theorem dX6_take_29 : decode cX6_take 29 = .ok (.ifCond .le 31, 3) := by decide +kernel
theorem dX6_take_32 : decode cX6_take 32 = .ok (.aload_n 0, 1) := by decide +kernel
theorem dX6_take_33 : decode cX6_take 33 = .ok (.getfield 13, 3) := by decide +kernel
theorem dX6_take_36 : decode cX6_take 36 = .ok (.aload_n 0, 1) := by decide +kernel
theorem dX6_take_37 : decode cX6_take 37 = .ok (.getfield 36, 3) := by decide +kernel
theorem dX6_take_40 : decode cX6_take 40 = .ok (.iload_n 3, 1) := by decide +kernel
theorem dX6_take_41 : decode cX6_take 41 = .ok (.iaload, 1) := by decide +kernel
theorem dX6_take_42 : decode cX6_take 42 = .ok (.baload, 1) := by decide +kernel
theorem dX6_take_43 : decode cX6_take 43 = .ok (.ifCond .ne 17, 3) := by decide +kernel
theorem dX6_take_46 : decode cX6_take 46 = .ok (.aload_n 0, 1) := by decide +kernel
theorem dX6_take_47 : decode cX6_take 47 = .ok (.getfield 104, 3) := by decide +kernel
theorem dX6_take_50 : decode cX6_take 50 = .ok (.sipush 600, 3) := by decide +kernel
theorem dX6_take_53 : decode cX6_take 53 = .ok (.if_icmp .ge 7, 3) := by decide +kernel
theorem dX6_take_56 : decode cX6_take 56 = .ok (.iconst 1, 1) := by decide +kernel
theorem dX6_take_57 : decode cX6_take 57 = .ok (.goto 4, 3) := by decide +kernel
theorem dX6_take_60 : decode cX6_take 60 = .ok (.iconst 0, 1) := by decide +kernel
theorem dX6_take_61 : decode cX6_take 61 = .ok (.istore 4, 2) := by decide +kernel
theorem dX6_take_63 : decode cX6_take 63 = .ok (.aload_n 0, 1) := by decide +kernel
theorem dX6_take_64 : decode cX6_take 64 = .ok (.iload_n 2, 1) := by decide +kernel
theorem dX6_take_65 : decode cX6_take 65 = .ok (.ifCond .ne 7, 3) := by decide +kernel
theorem dX6_take_68 : decode cX6_take 68 = .ok (.iconst 1, 1) := by decide +kernel
theorem dX6_take_69 : decode cX6_take 69 = .ok (.goto 13, 3) := by decide +kernel
theorem dX6_take_72 : decode cX6_take 72 = .ok (.iload 4, 2) := by decide +kernel
theorem dX6_take_74 : decode cX6_take 74 = .ok (.ifCond .eq 7, 3) := by decide +kernel
theorem dX6_take_77 : decode cX6_take 77 = .ok (.iconst 0, 1) := by decide +kernel
theorem dX6_take_78 : decode cX6_take 78 = .ok (.goto 4, 3) := by decide +kernel
theorem dX6_take_81 : decode cX6_take 81 = .ok (.iconst 2, 1) := by decide +kernel
theorem dX6_take_82 : decode cX6_take 82 = .ok (.invokevirtual 75, 3) := by decide +kernel
theorem dX6_take_85 : decode cX6_take 85 = .ok (.ifCond .eq 5, 3) := by decide +kernel
theorem dX6_take_88 : decode cX6_take 88 = .ok (.iconst 0, 1) := by decide +kernel
theorem dX6_take_89 : decode cX6_take 89 = .ok (.ireturn, 1) := by decide +kernel
theorem dX6_take_90 : decode cX6_take 90 = .ok (.aload_n 0, 1) := by decide +kernel
theorem dX6_take_91 : decode cX6_take 91 = .ok (.getfield 26, 3) := by decide +kernel
theorem dX6_take_94 : decode cX6_take 94 = .ok (.iload_n 1, 1) := by decide +kernel
theorem dX6_take_95 : decode cX6_take 95 = .ok (.iaload, 1) := by decide +kernel
theorem dX6_take_96 : decode cX6_take 96 = .ok (.istore 5, 2) := by decide +kernel
theorem dX6_take_98 : decode cX6_take 98 = .ok (.aload_n 0, 1) := by decide +kernel
theorem dX6_take_99 : decode cX6_take 99 = .ok (.getfield 26, 3) := by decide +kernel
theorem dX6_take_102 : decode cX6_take 102 = .ok (.iload_n 1, 1) := by decide +kernel
theorem dX6_take_103 : decode cX6_take 103 = .ok (.iconst 0, 1) := by decide +kernel
theorem dX6_take_104 : decode cX6_take 104 = .ok (.iastore, 1) := by decide +kernel
theorem dX6_take_105 : decode cX6_take 105 = .ok (.aload_n 0, 1) := by decide +kernel
theorem dX6_take_106 : decode cX6_take 106 = .ok (.dup, 1) := by decide +kernel
theorem dX6_take_107 : decode cX6_take 107 = .ok (.getfield 104, 3) := by decide +kernel
theorem dX6_take_110 : decode cX6_take 110 = .ok (.iconst 1, 1) := by decide +kernel
theorem dX6_take_111 : decode cX6_take 111 = .ok (.iadd, 1) := by decide +kernel
theorem dX6_take_112 : decode cX6_take 112 = .ok (.putfield 104, 3) := by decide +kernel
theorem dX6_take_115 : decode cX6_take 115 = .ok (.aload_n 0, 1) := by decide +kernel
theorem dX6_take_116 : decode cX6_take 116 = .ok (.getfield 48, 3) := by decide +kernel
theorem dX6_take_119 : decode cX6_take 119 = .ok (.iload_n 3, 1) := by decide +kernel
theorem dX6_take_120 : decode cX6_take 120 = .ok (.dup2, 1) := by decide +kernel
theorem dX6_take_121 : decode cX6_take 121 = .ok (.iaload, 1) := by decide +kernel
theorem dX6_take_122 : decode cX6_take 122 = .ok (.iconst 1, 1) := by decide +kernel
theorem dX6_take_123 : decode cX6_take 123 = .ok (.iadd, 1) := by decide +kernel
theorem dX6_take_124 : decode cX6_take 124 = .ok (.iastore, 1) := by decide +kernel
theorem dX6_take_125 : decode cX6_take 125 = .ok (.iload 5, 2) := by decide +kernel
theorem dX6_take_127 : decode cX6_take 127 = .ok (.ireturn, 1) := by decide +kernel
set_option maxRecDepth 20000 in
theorem ggX6_read_X6_isKey : GoodIn wsX6_read wsX6_isKey := goodIn_r _ [9, 10, 11, 8, 12] (by decide +kernel) (by decide +kernel)
set_option maxRecDepth 20000 in
theorem gX6_read_X6_isKey : GoodIn wsX6_read (va_wsS RX6 92 yX6_isKey wsX6_isKey) := goodIn_app (goodIn_of _ (by decide +kernel)) ggX6_read_X6_isKey
set_option maxRecDepth 20000 in
theorem ggX6_read_X6_shardAt : GoodIn wsX6_read wsX6_shardAt := goodIn_r _ [16, 17, 23, 24, 25, 26, 27, 28, 29, 30, 31, 32, 33, 34, 35, 36, 37, 38, 39, 40, 41, 42] (by decide +kernel) (by decide +kernel)
set_option maxRecDepth 20000 in
theorem gX6_read_X6_shardAt : GoodIn wsX6_read (wsV RX6 95 RX6 yX6_shardAt wsX6_shardAt) := goodIn_app (goodIn_of _ (by decide +kernel)) ggX6_read_X6_shardAt
set_option maxRecDepth 20000 in
theorem ggX6_read_X6_refused : GoodIn wsX6_read wsX6_refused := goodIn_r _ [21, 22, 23, 24, 25, 26, 27, 28, 29, 30, 31, 32, 33, 34, 35, 36, 37, 38, 39, 40, 41, 42] (by decide +kernel) (by decide +kernel)
set_option maxRecDepth 20000 in
theorem gX6_read_X6_refused : GoodIn wsX6_read (wsV RX6 75 RX6 yX6_refused wsX6_refused) := goodIn_app (goodIn_of _ (by decide +kernel)) ggX6_read_X6_refused
theorem dX6_read_0 : decode cX6_read 0 = .ok (.iload_n 1, 1) := by decide +kernel
theorem dX6_read_1 : decode cX6_read 1 = .ok (.invokestatic 92, 3) := by decide +kernel
theorem dX6_read_4 : decode cX6_read 4 = .ok (.istore_n 2, 1) := by decide +kernel
theorem dX6_read_5 : decode cX6_read 5 = .ok (.iload_n 2, 1) := by decide +kernel
theorem dX6_read_6 : decode cX6_read 6 = .ok (.ifCond .eq 11, 3) := by decide +kernel
theorem dX6_read_9 : decode cX6_read 9 = .ok (.aload_n 0, 1) := by decide +kernel
theorem dX6_read_10 : decode cX6_read 10 = .ok (.iload_n 1, 1) := by decide +kernel
theorem dX6_read_11 : decode cX6_read 11 = .ok (.invokevirtual 95, 3) := by decide +kernel
theorem dX6_read_14 : decode cX6_read 14 = .ok (.goto 4, 3) := by decide +kernel
theorem dX6_read_17 : decode cX6_read 17 = .ok (.iconst 0, 1) := by decide +kernel
theorem dX6_read_18 : decode cX6_read 18 = .ok (.istore_n 3, 1) := by decide +kernel
theorem dX6_read_19 : decode cX6_read 19 = .ok (.aload_n 0, 1) := by decide +kernel
theorem dX6_read_20 : decode cX6_read 20 = .ok (.iload_n 2, 1) := by decide +kernel
theorem dX6_read_21 : decode cX6_read 21 = .ok (.ifCond .ne 7, 3) := by decide +kernel
theorem dX6_read_24 : decode cX6_read 24 = .ok (.iconst 1, 1) := by decide +kernel
theorem dX6_read_25 : decode cX6_read 25 = .ok (.goto 29, 3) := by decide +kernel
theorem dX6_read_28 : decode cX6_read 28 = .ok (.aload_n 0, 1) := by decide +kernel
theorem dX6_read_29 : decode cX6_read 29 = .ok (.getfield 58, 3) := by decide +kernel
theorem dX6_read_32 : decode cX6_read 32 = .ok (.ifCond .eq 17, 3) := by decide +kernel
theorem dX6_read_35 : decode cX6_read 35 = .ok (.aload_n 0, 1) := by decide +kernel
theorem dX6_read_36 : decode cX6_read 36 = .ok (.getfield 13, 3) := by decide +kernel
theorem dX6_read_39 : decode cX6_read 39 = .ok (.aload_n 0, 1) := by decide +kernel
theorem dX6_read_40 : decode cX6_read 40 = .ok (.getfield 36, 3) := by decide +kernel
theorem dX6_read_43 : decode cX6_read 43 = .ok (.iload_n 3, 1) := by decide +kernel
theorem dX6_read_44 : decode cX6_read 44 = .ok (.iaload, 1) := by decide +kernel
theorem dX6_read_45 : decode cX6_read 45 = .ok (.baload, 1) := by decide +kernel
theorem dX6_read_46 : decode cX6_read 46 = .ok (.ifCond .eq 7, 3) := by decide +kernel
theorem dX6_read_49 : decode cX6_read 49 = .ok (.iconst 2, 1) := by decide +kernel
theorem dX6_read_50 : decode cX6_read 50 = .ok (.goto 4, 3) := by decide +kernel
theorem dX6_read_53 : decode cX6_read 53 = .ok (.iconst 0, 1) := by decide +kernel
theorem dX6_read_54 : decode cX6_read 54 = .ok (.invokevirtual 75, 3) := by decide +kernel
theorem dX6_read_57 : decode cX6_read 57 = .ok (.ifCond .eq 5, 3) := by decide +kernel
theorem dX6_read_60 : decode cX6_read 60 = .ok (.iconst 0, 1) := by decide +kernel
theorem dX6_read_61 : decode cX6_read 61 = .ok (.ireturn, 1) := by decide +kernel
theorem dX6_read_62 : decode cX6_read 62 = .ok (.aload_n 0, 1) := by decide +kernel
theorem dX6_read_63 : decode cX6_read 63 = .ok (.getfield 48, 3) := by decide +kernel
theorem dX6_read_66 : decode cX6_read 66 = .ok (.iload_n 3, 1) := by decide +kernel
theorem dX6_read_67 : decode cX6_read 67 = .ok (.dup2, 1) := by decide +kernel
theorem dX6_read_68 : decode cX6_read 68 = .ok (.iaload, 1) := by decide +kernel
theorem dX6_read_69 : decode cX6_read 69 = .ok (.iconst 1, 1) := by decide +kernel
theorem dX6_read_70 : decode cX6_read 70 = .ok (.iadd, 1) := by decide +kernel
theorem dX6_read_71 : decode cX6_read 71 = .ok (.iastore, 1) := by decide +kernel
theorem dX6_read_72 : decode cX6_read 72 = .ok (.aload_n 0, 1) := by decide +kernel
theorem dX6_read_73 : decode cX6_read 73 = .ok (.getfield 26, 3) := by decide +kernel
theorem dX6_read_76 : decode cX6_read 76 = .ok (.iload_n 1, 1) := by decide +kernel
theorem dX6_read_77 : decode cX6_read 77 = .ok (.iaload, 1) := by decide +kernel
theorem dX6_read_78 : decode cX6_read 78 = .ok (.ireturn, 1) := by decide +kernel
theorem dX6_lay_0 : decode cX6_lay 0 = .ok (.aload_n 0, 1) := by decide +kernel
theorem dX6_lay_1 : decode cX6_lay 1 = .ok (.getfield 33, 3) := by decide +kernel
theorem dX6_lay_4 : decode cX6_lay 4 = .ok (.iload_n 1, 1) := by decide +kernel
theorem dX6_lay_5 : decode cX6_lay 5 = .ok (.aload_n 0, 1) := by decide +kernel
theorem dX6_lay_6 : decode cX6_lay 6 = .ok (.getfield 33, 3) := by decide +kernel
theorem dX6_lay_9 : decode cX6_lay 9 = .ok (.iload_n 2, 1) := by decide +kernel
theorem dX6_lay_10 : decode cX6_lay 10 = .ok (.iaload, 1) := by decide +kernel
theorem dX6_lay_11 : decode cX6_lay 11 = .ok (.iastore, 1) := by decide +kernel
theorem dX6_lay_12 : decode cX6_lay 12 = .ok (.aload_n 0, 1) := by decide +kernel
theorem dX6_lay_13 : decode cX6_lay 13 = .ok (.getfield 36, 3) := by decide +kernel
theorem dX6_lay_16 : decode cX6_lay 16 = .ok (.iload_n 1, 1) := by decide +kernel
theorem dX6_lay_17 : decode cX6_lay 17 = .ok (.aload_n 0, 1) := by decide +kernel
theorem dX6_lay_18 : decode cX6_lay 18 = .ok (.getfield 36, 3) := by decide +kernel
theorem dX6_lay_21 : decode cX6_lay 21 = .ok (.iload_n 2, 1) := by decide +kernel
theorem dX6_lay_22 : decode cX6_lay 22 = .ok (.iaload, 1) := by decide +kernel
theorem dX6_lay_23 : decode cX6_lay 23 = .ok (.iastore, 1) := by decide +kernel
theorem dX6_lay_24 : decode cX6_lay 24 = .ok (.aload_n 0, 1) := by decide +kernel
theorem dX6_lay_25 : decode cX6_lay 25 = .ok (.getfield 39, 3) := by decide +kernel
theorem dX6_lay_28 : decode cX6_lay 28 = .ok (.iload_n 1, 1) := by decide +kernel
theorem dX6_lay_29 : decode cX6_lay 29 = .ok (.aload_n 0, 1) := by decide +kernel
theorem dX6_lay_30 : decode cX6_lay 30 = .ok (.getfield 39, 3) := by decide +kernel
theorem dX6_lay_33 : decode cX6_lay 33 = .ok (.iload_n 2, 1) := by decide +kernel
theorem dX6_lay_34 : decode cX6_lay 34 = .ok (.iaload, 1) := by decide +kernel
theorem dX6_lay_35 : decode cX6_lay 35 = .ok (.iastore, 1) := by decide +kernel
theorem dX6_lay_36 : decode cX6_lay 36 = .ok (.aload_n 0, 1) := by decide +kernel
theorem dX6_lay_37 : decode cX6_lay 37 = .ok (.getfield 42, 3) := by decide +kernel
theorem dX6_lay_40 : decode cX6_lay 40 = .ok (.iload_n 1, 1) := by decide +kernel
theorem dX6_lay_41 : decode cX6_lay 41 = .ok (.aload_n 0, 1) := by decide +kernel
theorem dX6_lay_42 : decode cX6_lay 42 = .ok (.getfield 42, 3) := by decide +kernel
theorem dX6_lay_45 : decode cX6_lay 45 = .ok (.iload_n 2, 1) := by decide +kernel
theorem dX6_lay_46 : decode cX6_lay 46 = .ok (.iaload, 1) := by decide +kernel
theorem dX6_lay_47 : decode cX6_lay 47 = .ok (.iastore, 1) := by decide +kernel
theorem dX6_lay_48 : decode cX6_lay 48 = .ok (.aload_n 0, 1) := by decide +kernel
theorem dX6_lay_49 : decode cX6_lay 49 = .ok (.getfield 45, 3) := by decide +kernel
theorem dX6_lay_52 : decode cX6_lay 52 = .ok (.iload_n 1, 1) := by decide +kernel
theorem dX6_lay_53 : decode cX6_lay 53 = .ok (.aload_n 0, 1) := by decide +kernel
theorem dX6_lay_54 : decode cX6_lay 54 = .ok (.getfield 45, 3) := by decide +kernel
theorem dX6_lay_57 : decode cX6_lay 57 = .ok (.iload_n 2, 1) := by decide +kernel
theorem dX6_lay_58 : decode cX6_lay 58 = .ok (.iaload, 1) := by decide +kernel
theorem dX6_lay_59 : decode cX6_lay 59 = .ok (.iastore, 1) := by decide +kernel
theorem dX6_lay_60 : decode cX6_lay 60 = .ok (.aload_n 0, 1) := by decide +kernel
theorem dX6_lay_61 : decode cX6_lay 61 = .ok (.getfield 48, 3) := by decide +kernel
theorem dX6_lay_64 : decode cX6_lay 64 = .ok (.iload_n 1, 1) := by decide +kernel
theorem dX6_lay_65 : decode cX6_lay 65 = .ok (.aload_n 0, 1) := by decide +kernel
theorem dX6_lay_66 : decode cX6_lay 66 = .ok (.getfield 48, 3) := by decide +kernel
theorem dX6_lay_69 : decode cX6_lay 69 = .ok (.iload_n 2, 1) := by decide +kernel
theorem dX6_lay_70 : decode cX6_lay 70 = .ok (.iaload, 1) := by decide +kernel
theorem dX6_lay_71 : decode cX6_lay 71 = .ok (.iastore, 1) := by decide +kernel
theorem dX6_lay_72 : decode cX6_lay 72 = .ok (.return_, 1) := by decide +kernel
set_option maxRecDepth 20000 in
theorem ggX6_split_X6_in : GoodIn wsX6_split wsX6_in := goodIn_r _ [8] (by decide +kernel) (by decide +kernel)
set_option maxRecDepth 20000 in
theorem gX6_split_X6_in : GoodIn wsX6_split (va_wsS RX6 54 yX6_in wsX6_in) := goodIn_app (goodIn_of _ (by decide +kernel)) ggX6_split_X6_in
set_option maxRecDepth 20000 in
theorem ggX6_split_X6_shardAt : GoodIn wsX6_split wsX6_shardAt := goodIn_r _ [12, 1, 25, 26, 27, 28, 29, 30, 31, 32, 33, 34, 35, 36, 37, 38, 39, 40, 41, 42, 43, 44] (by decide +kernel) (by decide +kernel)
set_option maxRecDepth 20000 in
theorem gX6_split_X6_shardAt : GoodIn wsX6_split (wsV RX6 95 RX6 yX6_shardAt wsX6_shardAt) := goodIn_app (goodIn_of _ (by decide +kernel)) ggX6_split_X6_shardAt
set_option maxRecDepth 20000 in
theorem ggX6_split_X6_refused : GoodIn wsX6_split wsX6_refused := goodIn_r _ [16, 17, 25, 26, 27, 28, 29, 30, 31, 32, 33, 34, 35, 36, 37, 38, 39, 40, 41, 42, 43, 44] (by decide +kernel) (by decide +kernel)
set_option maxRecDepth 20000 in
theorem gX6_split_X6_refused : GoodIn wsX6_split (wsV RX6 75 RX6 yX6_refused wsX6_refused) := goodIn_app (goodIn_of _ (by decide +kernel)) ggX6_split_X6_refused
set_option maxRecDepth 20000 in
theorem ggX6_split_X6_lay : GoodIn wsX6_split wsX6_lay := goodIn_r _ [21, 1, 22, 2, 23, 24, 4, 25, 26, 27, 28, 29, 30, 31, 32, 33, 34, 35, 36, 37, 38, 39, 40, 41, 42, 43, 44] (by decide +kernel) (by decide +kernel)
set_option maxRecDepth 20000 in
theorem gX6_split_X6_lay : GoodIn wsX6_split (wsV RX6 111 RX6 yX6_lay wsX6_lay) := goodIn_app (goodIn_of _ (by decide +kernel)) ggX6_split_X6_lay
theorem dX6_split_0 : decode cX6_split 0 = .ok (.iload_n 1, 1) := by decide +kernel
theorem dX6_split_1 : decode cX6_split 1 = .ok (.iconst 1, 1) := by decide +kernel
theorem dX6_split_2 : decode cX6_split 2 = .ok (.sipush 999, 3) := by decide +kernel
theorem dX6_split_5 : decode cX6_split 5 = .ok (.invokestatic 54, 3) := by decide +kernel
theorem dX6_split_8 : decode cX6_split 8 = .ok (.istore_n 2, 1) := by decide +kernel
theorem dX6_split_9 : decode cX6_split 9 = .ok (.iload_n 2, 1) := by decide +kernel
theorem dX6_split_10 : decode cX6_split 10 = .ok (.ifCond .eq 11, 3) := by decide +kernel
theorem dX6_split_13 : decode cX6_split 13 = .ok (.aload_n 0, 1) := by decide +kernel
theorem dX6_split_14 : decode cX6_split 14 = .ok (.iload_n 1, 1) := by decide +kernel
theorem dX6_split_15 : decode cX6_split 15 = .ok (.invokevirtual 95, 3) := by decide +kernel
theorem dX6_split_18 : decode cX6_split 18 = .ok (.goto 4, 3) := by decide +kernel
theorem dX6_split_21 : decode cX6_split 21 = .ok (.iconst 0, 1) := by decide +kernel
theorem dX6_split_22 : decode cX6_split 22 = .ok (.istore_n 3, 1) := by decide +kernel
theorem dX6_split_23 : decode cX6_split 23 = .ok (.aload_n 0, 1) := by decide +kernel
theorem dX6_split_24 : decode cX6_split 24 = .ok (.iload_n 2, 1) := by decide +kernel
theorem dX6_split_25 : decode cX6_split 25 = .ok (.ifCond .ne 7, 3) := by decide +kernel
theorem dX6_split_28 : decode cX6_split 28 = .ok (.iconst 1, 1) := by decide +kernel
theorem dX6_split_29 : decode cX6_split 29 = .ok (.goto 37, 3) := by decide +kernel
theorem dX6_split_32 : decode cX6_split 32 = .ok (.aload_n 0, 1) := by decide +kernel
theorem dX6_split_33 : decode cX6_split 33 = .ok (.getfield 33, 3) := by decide +kernel
theorem dX6_split_36 : decode cX6_split 36 = .ok (.iload_n 3, 1) := by decide +kernel
theorem dX6_split_37 : decode cX6_split 37 = .ok (.iaload, 1) := by decide +kernel
theorem dX6_split_38 : decode cX6_split 38 = .ok (.iload_n 1, 1) := by decide +kernel
theorem dX6_split_39 : decode cX6_split 39 = .ok (.if_icmp .eq 22, 3) := by decide +kernel
theorem dX6_split_42 : decode cX6_split 42 = .ok (.aload_n 0, 1) := by decide +kernel
theorem dX6_split_43 : decode cX6_split 43 = .ok (.getfield 39, 3) := by decide +kernel
theorem dX6_split_46 : decode cX6_split 46 = .ok (.iload_n 3, 1) := by decide +kernel
theorem dX6_split_47 : decode cX6_split 47 = .ok (.iaload, 1) := by decide +kernel
theorem dX6_split_48 : decode cX6_split 48 = .ok (.iconst (-1), 1) := by decide +kernel
theorem dX6_split_49 : decode cX6_split 49 = .ok (.if_icmp .ne 12, 3) := by decide +kernel
theorem dX6_split_52 : decode cX6_split 52 = .ok (.aload_n 0, 1) := by decide +kernel
theorem dX6_split_53 : decode cX6_split 53 = .ok (.getfield 29, 3) := by decide +kernel
theorem dX6_split_56 : decode cX6_split 56 = .ok (.bipush 16, 2) := by decide +kernel
theorem dX6_split_58 : decode cX6_split 58 = .ok (.if_icmp .ne 7, 3) := by decide +kernel
theorem dX6_split_61 : decode cX6_split 61 = .ok (.iconst 2, 1) := by decide +kernel
theorem dX6_split_62 : decode cX6_split 62 = .ok (.goto 4, 3) := by decide +kernel
theorem dX6_split_65 : decode cX6_split 65 = .ok (.iconst 0, 1) := by decide +kernel
theorem dX6_split_66 : decode cX6_split 66 = .ok (.invokevirtual 75, 3) := by decide +kernel
theorem dX6_split_69 : decode cX6_split 69 = .ok (.ifCond .eq 5, 3) := by decide +kernel
theorem dX6_split_72 : decode cX6_split 72 = .ok (.iconst 0, 1) := by decide +kernel
theorem dX6_split_73 : decode cX6_split 73 = .ok (.ireturn, 1) := by decide +kernel
theorem dX6_split_74 : decode cX6_split 74 = .ok (.aload_n 0, 1) := by decide +kernel
theorem dX6_split_75 : decode cX6_split 75 = .ok (.getfield 29, 3) := by decide +kernel
theorem dX6_split_78 : decode cX6_split 78 = .ok (.istore 4, 2) := by decide +kernel
theorem dX6_split_80 : decode cX6_split 80 = .ok (.iload 4, 2) := by decide +kernel
theorem dX6_split_82 : decode cX6_split 82 = .ok (.iload_n 3, 1) := by decide +kernel
theorem dX6_split_83 : decode cX6_split 83 = .ok (.if_icmp .le 19, 3) := by decide +kernel
theorem dX6_split_86 : decode cX6_split 86 = .ok (.aload_n 0, 1) := by decide +kernel
theorem dX6_split_87 : decode cX6_split 87 = .ok (.iload 4, 2) := by decide +kernel
theorem dX6_split_89 : decode cX6_split 89 = .ok (.iconst 1, 1) := by decide +kernel
theorem dX6_split_90 : decode cX6_split 90 = .ok (.iadd, 1) := by decide +kernel
theorem dX6_split_91 : decode cX6_split 91 = .ok (.iload 4, 2) := by decide +kernel
theorem dX6_split_93 : decode cX6_split 93 = .ok (.invokevirtual 111, 3) := by decide +kernel
theorem dX6_split_96 : decode cX6_split 96 = .ok (.iinc 4 (-1), 3) := by decide +kernel
theorem dX6_split_99 : decode cX6_split 99 = .ok (.goto (-19), 3) := by decide +kernel
theorem dX6_split_102 : decode cX6_split 102 = .ok (.aload_n 0, 1) := by decide +kernel
theorem dX6_split_103 : decode cX6_split 103 = .ok (.iload_n 3, 1) := by decide +kernel
theorem dX6_split_104 : decode cX6_split 104 = .ok (.iconst 1, 1) := by decide +kernel
theorem dX6_split_105 : decode cX6_split 105 = .ok (.iadd, 1) := by decide +kernel
theorem dX6_split_106 : decode cX6_split 106 = .ok (.iload_n 3, 1) := by decide +kernel
theorem dX6_split_107 : decode cX6_split 107 = .ok (.invokevirtual 111, 3) := by decide +kernel
theorem dX6_split_110 : decode cX6_split 110 = .ok (.aload_n 0, 1) := by decide +kernel
theorem dX6_split_111 : decode cX6_split 111 = .ok (.getfield 33, 3) := by decide +kernel
theorem dX6_split_114 : decode cX6_split 114 = .ok (.iload_n 3, 1) := by decide +kernel
theorem dX6_split_115 : decode cX6_split 115 = .ok (.iconst 1, 1) := by decide +kernel
theorem dX6_split_116 : decode cX6_split 116 = .ok (.iadd, 1) := by decide +kernel
theorem dX6_split_117 : decode cX6_split 117 = .ok (.iload_n 1, 1) := by decide +kernel
theorem dX6_split_118 : decode cX6_split 118 = .ok (.iastore, 1) := by decide +kernel
theorem dX6_split_119 : decode cX6_split 119 = .ok (.aload_n 0, 1) := by decide +kernel
theorem dX6_split_120 : decode cX6_split 120 = .ok (.getfield 48, 3) := by decide +kernel
theorem dX6_split_123 : decode cX6_split 123 = .ok (.iload_n 3, 1) := by decide +kernel
theorem dX6_split_124 : decode cX6_split 124 = .ok (.iaload, 1) := by decide +kernel
theorem dX6_split_125 : decode cX6_split 125 = .ok (.iconst 2, 1) := by decide +kernel
theorem dX6_split_126 : decode cX6_split 126 = .ok (.idiv, 1) := by decide +kernel
theorem dX6_split_127 : decode cX6_split 127 = .ok (.istore 4, 2) := by decide +kernel
theorem dX6_split_129 : decode cX6_split 129 = .ok (.aload_n 0, 1) := by decide +kernel
theorem dX6_split_130 : decode cX6_split 130 = .ok (.getfield 48, 3) := by decide +kernel
theorem dX6_split_133 : decode cX6_split 133 = .ok (.iload_n 3, 1) := by decide +kernel
theorem dX6_split_134 : decode cX6_split 134 = .ok (.iconst 1, 1) := by decide +kernel
theorem dX6_split_135 : decode cX6_split 135 = .ok (.iadd, 1) := by decide +kernel
theorem dX6_split_136 : decode cX6_split 136 = .ok (.aload_n 0, 1) := by decide +kernel
theorem dX6_split_137 : decode cX6_split 137 = .ok (.getfield 48, 3) := by decide +kernel
theorem dX6_split_140 : decode cX6_split 140 = .ok (.iload_n 3, 1) := by decide +kernel
theorem dX6_split_141 : decode cX6_split 141 = .ok (.iaload, 1) := by decide +kernel
theorem dX6_split_142 : decode cX6_split 142 = .ok (.iload 4, 2) := by decide +kernel
theorem dX6_split_144 : decode cX6_split 144 = .ok (.isub, 1) := by decide +kernel
theorem dX6_split_145 : decode cX6_split 145 = .ok (.iastore, 1) := by decide +kernel
theorem dX6_split_146 : decode cX6_split 146 = .ok (.aload_n 0, 1) := by decide +kernel
theorem dX6_split_147 : decode cX6_split 147 = .ok (.getfield 48, 3) := by decide +kernel
theorem dX6_split_150 : decode cX6_split 150 = .ok (.iload_n 3, 1) := by decide +kernel
theorem dX6_split_151 : decode cX6_split 151 = .ok (.iload 4, 2) := by decide +kernel
theorem dX6_split_153 : decode cX6_split 153 = .ok (.iastore, 1) := by decide +kernel
theorem dX6_split_154 : decode cX6_split 154 = .ok (.aload_n 0, 1) := by decide +kernel
theorem dX6_split_155 : decode cX6_split 155 = .ok (.dup, 1) := by decide +kernel
theorem dX6_split_156 : decode cX6_split 156 = .ok (.getfield 29, 3) := by decide +kernel
theorem dX6_split_159 : decode cX6_split 159 = .ok (.iconst 1, 1) := by decide +kernel
theorem dX6_split_160 : decode cX6_split 160 = .ok (.iadd, 1) := by decide +kernel
theorem dX6_split_161 : decode cX6_split 161 = .ok (.putfield 29, 3) := by decide +kernel
theorem dX6_split_164 : decode cX6_split 164 = .ok (.iload_n 3, 1) := by decide +kernel
theorem dX6_split_165 : decode cX6_split 165 = .ok (.iconst 1, 1) := by decide +kernel
theorem dX6_split_166 : decode cX6_split 166 = .ok (.iadd, 1) := by decide +kernel
theorem dX6_split_167 : decode cX6_split 167 = .ok (.ireturn, 1) := by decide +kernel
set_option maxRecDepth 20000 in
theorem ggX6_join_X6_isShard : GoodIn wsX6_join wsX6_isShard := goodIn_r _ [9, 1, 10, 11, 8, 12, 25, 26, 27, 28, 29, 30, 31, 32, 33, 34, 35, 36, 37, 38, 39, 40, 41, 42, 43, 44] (by decide +kernel) (by decide +kernel)
set_option maxRecDepth 20000 in
theorem gX6_join_X6_isShard : GoodIn wsX6_join (wsV RX6 115 RX6 yX6_isShard wsX6_isShard) := goodIn_app (goodIn_of _ (by decide +kernel)) ggX6_join_X6_isShard
set_option maxRecDepth 20000 in
theorem ggX6_join_X6_refused : GoodIn wsX6_join wsX6_refused := goodIn_r _ [16, 17, 25, 26, 27, 28, 29, 30, 31, 32, 33, 34, 35, 36, 37, 38, 39, 40, 41, 42, 43, 44] (by decide +kernel) (by decide +kernel)
set_option maxRecDepth 20000 in
theorem gX6_join_X6_refused : GoodIn wsX6_join (wsV RX6 75 RX6 yX6_refused wsX6_refused) := goodIn_app (goodIn_of _ (by decide +kernel)) ggX6_join_X6_refused
set_option maxRecDepth 20000 in
theorem ggX6_join_X6_lay : GoodIn wsX6_join wsX6_lay := goodIn_r _ [21, 22, 2, 3, 23, 24, 4, 25, 26, 27, 28, 29, 30, 31, 32, 33, 34, 35, 36, 37, 38, 39, 40, 41, 42, 43, 44] (by decide +kernel) (by decide +kernel)
set_option maxRecDepth 20000 in
theorem gX6_join_X6_lay : GoodIn wsX6_join (wsV RX6 111 RX6 yX6_lay wsX6_lay) := goodIn_app (goodIn_of _ (by decide +kernel)) ggX6_join_X6_lay
theorem dX6_join_0 : decode cX6_join 0 = .ok (.aload_n 0, 1) := by decide +kernel
theorem dX6_join_1 : decode cX6_join 1 = .ok (.iload_n 1, 1) := by decide +kernel
theorem dX6_join_2 : decode cX6_join 2 = .ok (.invokevirtual 115, 3) := by decide +kernel
theorem dX6_join_5 : decode cX6_join 5 = .ok (.istore_n 2, 1) := by decide +kernel
theorem dX6_join_6 : decode cX6_join 6 = .ok (.iload_n 2, 1) := by decide +kernel
theorem dX6_join_7 : decode cX6_join 7 = .ok (.ifCond .eq 56, 3) := by decide +kernel
theorem dX6_join_10 : decode cX6_join 10 = .ok (.iload_n 1, 1) := by decide +kernel
theorem dX6_join_11 : decode cX6_join 11 = .ok (.iconst 1, 1) := by decide +kernel
theorem dX6_join_12 : decode cX6_join 12 = .ok (.iadd, 1) := by decide +kernel
theorem dX6_join_13 : decode cX6_join 13 = .ok (.aload_n 0, 1) := by decide +kernel
theorem dX6_join_14 : decode cX6_join 14 = .ok (.getfield 29, 3) := by decide +kernel
theorem dX6_join_17 : decode cX6_join 17 = .ok (.if_icmp .ge 46, 3) := by decide +kernel
theorem dX6_join_20 : decode cX6_join 20 = .ok (.aload_n 0, 1) := by decide +kernel
theorem dX6_join_21 : decode cX6_join 21 = .ok (.getfield 36, 3) := by decide +kernel
theorem dX6_join_24 : decode cX6_join 24 = .ok (.iload_n 1, 1) := by decide +kernel
theorem dX6_join_25 : decode cX6_join 25 = .ok (.iaload, 1) := by decide +kernel
theorem dX6_join_26 : decode cX6_join 26 = .ok (.aload_n 0, 1) := by decide +kernel
theorem dX6_join_27 : decode cX6_join 27 = .ok (.getfield 36, 3) := by decide +kernel
theorem dX6_join_30 : decode cX6_join 30 = .ok (.iload_n 1, 1) := by decide +kernel
theorem dX6_join_31 : decode cX6_join 31 = .ok (.iconst 1, 1) := by decide +kernel
theorem dX6_join_32 : decode cX6_join 32 = .ok (.iadd, 1) := by decide +kernel
theorem dX6_join_33 : decode cX6_join 33 = .ok (.iaload, 1) := by decide +kernel
theorem dX6_join_34 : decode cX6_join 34 = .ok (.if_icmp .ne 29, 3) := by decide +kernel
theorem dX6_join_37 : decode cX6_join 37 = .ok (.aload_n 0, 1) := by decide +kernel
theorem dX6_join_38 : decode cX6_join 38 = .ok (.getfield 39, 3) := by decide +kernel
theorem dX6_join_41 : decode cX6_join 41 = .ok (.iload_n 1, 1) := by decide +kernel
theorem dX6_join_42 : decode cX6_join 42 = .ok (.iaload, 1) := by decide +kernel
theorem dX6_join_43 : decode cX6_join 43 = .ok (.iconst (-1), 1) := by decide +kernel
theorem dX6_join_44 : decode cX6_join 44 = .ok (.if_icmp .ne 19, 3) := by decide +kernel
theorem dX6_join_47 : decode cX6_join 47 = .ok (.aload_n 0, 1) := by decide +kernel
theorem dX6_join_48 : decode cX6_join 48 = .ok (.getfield 39, 3) := by decide +kernel
theorem dX6_join_51 : decode cX6_join 51 = .ok (.iload_n 1, 1) := by decide +kernel
theorem dX6_join_52 : decode cX6_join 52 = .ok (.iconst 1, 1) := by decide +kernel
theorem dX6_join_53 : decode cX6_join 53 = .ok (.iadd, 1) := by decide +kernel
theorem dX6_join_54 : decode cX6_join 54 = .ok (.iaload, 1) := by decide +kernel
theorem dX6_join_55 : decode cX6_join 55 = .ok (.iconst (-1), 1) := by decide +kernel
theorem dX6_join_56 : decode cX6_join 56 = .ok (.if_icmp .ne 7, 3) := by decide +kernel
theorem dX6_join_59 : decode cX6_join 59 = .ok (.iconst 1, 1) := by decide +kernel
theorem dX6_join_60 : decode cX6_join 60 = .ok (.goto 4, 3) := by decide +kernel
theorem dX6_join_63 : decode cX6_join 63 = .ok (.iconst 0, 1) := by decide +kernel
theorem dX6_join_64 : decode cX6_join 64 = .ok (.istore_n 3, 1) := by decide +kernel
theorem dX6_join_65 : decode cX6_join 65 = .ok (.aload_n 0, 1) := by decide +kernel
theorem dX6_join_66 : decode cX6_join 66 = .ok (.iload_n 2, 1) := by decide +kernel
theorem dX6_join_67 : decode cX6_join 67 = .ok (.ifCond .ne 7, 3) := by decide +kernel
theorem dX6_join_70 : decode cX6_join 70 = .ok (.iconst 1, 1) := by decide +kernel
theorem dX6_join_71 : decode cX6_join 71 = .ok (.goto 12, 3) := by decide +kernel
theorem dX6_join_74 : decode cX6_join 74 = .ok (.iload_n 3, 1) := by decide +kernel
theorem dX6_join_75 : decode cX6_join 75 = .ok (.ifCond .eq 7, 3) := by decide +kernel
theorem dX6_join_78 : decode cX6_join 78 = .ok (.iconst 0, 1) := by decide +kernel
theorem dX6_join_79 : decode cX6_join 79 = .ok (.goto 4, 3) := by decide +kernel
theorem dX6_join_82 : decode cX6_join 82 = .ok (.iconst 2, 1) := by decide +kernel
theorem dX6_join_83 : decode cX6_join 83 = .ok (.invokevirtual 75, 3) := by decide +kernel
theorem dX6_join_86 : decode cX6_join 86 = .ok (.ifCond .eq 5, 3) := by decide +kernel
theorem dX6_join_89 : decode cX6_join 89 = .ok (.iconst 0, 1) := by decide +kernel
theorem dX6_join_90 : decode cX6_join 90 = .ok (.ireturn, 1) := by decide +kernel
theorem dX6_join_91 : decode cX6_join 91 = .ok (.aload_n 0, 1) := by decide +kernel
theorem dX6_join_92 : decode cX6_join 92 = .ok (.getfield 48, 3) := by decide +kernel
theorem dX6_join_95 : decode cX6_join 95 = .ok (.iload_n 1, 1) := by decide +kernel
theorem dX6_join_96 : decode cX6_join 96 = .ok (.dup2, 1) := by decide +kernel
theorem dX6_join_97 : decode cX6_join 97 = .ok (.iaload, 1) := by decide +kernel
theorem dX6_join_98 : decode cX6_join 98 = .ok (.aload_n 0, 1) := by decide +kernel
theorem dX6_join_99 : decode cX6_join 99 = .ok (.getfield 48, 3) := by decide +kernel
theorem dX6_join_102 : decode cX6_join 102 = .ok (.iload_n 1, 1) := by decide +kernel
theorem dX6_join_103 : decode cX6_join 103 = .ok (.iconst 1, 1) := by decide +kernel
theorem dX6_join_104 : decode cX6_join 104 = .ok (.iadd, 1) := by decide +kernel
theorem dX6_join_105 : decode cX6_join 105 = .ok (.iaload, 1) := by decide +kernel
theorem dX6_join_106 : decode cX6_join 106 = .ok (.iadd, 1) := by decide +kernel
theorem dX6_join_107 : decode cX6_join 107 = .ok (.iastore, 1) := by decide +kernel
theorem dX6_join_108 : decode cX6_join 108 = .ok (.iload_n 1, 1) := by decide +kernel
theorem dX6_join_109 : decode cX6_join 109 = .ok (.iconst 1, 1) := by decide +kernel
theorem dX6_join_110 : decode cX6_join 110 = .ok (.iadd, 1) := by decide +kernel
theorem dX6_join_111 : decode cX6_join 111 = .ok (.istore 4, 2) := by decide +kernel
theorem dX6_join_113 : decode cX6_join 113 = .ok (.iload 4, 2) := by decide +kernel
theorem dX6_join_115 : decode cX6_join 115 = .ok (.aload_n 0, 1) := by decide +kernel
theorem dX6_join_116 : decode cX6_join 116 = .ok (.getfield 29, 3) := by decide +kernel
theorem dX6_join_119 : decode cX6_join 119 = .ok (.if_icmp .ge 19, 3) := by decide +kernel
theorem dX6_join_122 : decode cX6_join 122 = .ok (.aload_n 0, 1) := by decide +kernel
theorem dX6_join_123 : decode cX6_join 123 = .ok (.iload 4, 2) := by decide +kernel
theorem dX6_join_125 : decode cX6_join 125 = .ok (.iload 4, 2) := by decide +kernel
theorem dX6_join_127 : decode cX6_join 127 = .ok (.iconst 1, 1) := by decide +kernel
theorem dX6_join_128 : decode cX6_join 128 = .ok (.iadd, 1) := by decide +kernel
theorem dX6_join_129 : decode cX6_join 129 = .ok (.invokevirtual 111, 3) := by decide +kernel
theorem dX6_join_132 : decode cX6_join 132 = .ok (.iinc 4 1, 3) := by decide +kernel
theorem dX6_join_135 : decode cX6_join 135 = .ok (.goto (-22), 3) := by decide +kernel
theorem dX6_join_138 : decode cX6_join 138 = .ok (.aload_n 0, 1) := by decide +kernel
theorem dX6_join_139 : decode cX6_join 139 = .ok (.dup, 1) := by decide +kernel
theorem dX6_join_140 : decode cX6_join 140 = .ok (.getfield 29, 3) := by decide +kernel
theorem dX6_join_143 : decode cX6_join 143 = .ok (.iconst 1, 1) := by decide +kernel
theorem dX6_join_144 : decode cX6_join 144 = .ok (.isub, 1) := by decide +kernel
theorem dX6_join_145 : decode cX6_join 145 = .ok (.putfield 29, 3) := by decide +kernel
theorem dX6_join_148 : decode cX6_join 148 = .ok (.aload_n 0, 1) := by decide +kernel
theorem dX6_join_149 : decode cX6_join 149 = .ok (.getfield 29, 3) := by decide +kernel
theorem dX6_join_152 : decode cX6_join 152 = .ok (.ireturn, 1) := by decide +kernel
theorem dX6_begins_0 : decode cX6_begins 0 = .ok (.aload_n 0, 1) := by decide +kernel
theorem dX6_begins_1 : decode cX6_begins 1 = .ok (.getfield 39, 3) := by decide +kernel
theorem dX6_begins_4 : decode cX6_begins 4 = .ok (.iload_n 1, 1) := by decide +kernel
theorem dX6_begins_5 : decode cX6_begins 5 = .ok (.iload_n 2, 1) := by decide +kernel
theorem dX6_begins_6 : decode cX6_begins 6 = .ok (.iastore, 1) := by decide +kernel
theorem dX6_begins_7 : decode cX6_begins 7 = .ok (.aload_n 0, 1) := by decide +kernel
theorem dX6_begins_8 : decode cX6_begins 8 = .ok (.getfield 42, 3) := by decide +kernel
theorem dX6_begins_11 : decode cX6_begins 11 = .ok (.iload_n 1, 1) := by decide +kernel
theorem dX6_begins_12 : decode cX6_begins 12 = .ok (.aload_n 0, 1) := by decide +kernel
theorem dX6_begins_13 : decode cX6_begins 13 = .ok (.getfield 33, 3) := by decide +kernel
theorem dX6_begins_16 : decode cX6_begins 16 = .ok (.iload_n 1, 1) := by decide +kernel
theorem dX6_begins_17 : decode cX6_begins 17 = .ok (.iaload, 1) := by decide +kernel
theorem dX6_begins_18 : decode cX6_begins 18 = .ok (.iastore, 1) := by decide +kernel
theorem dX6_begins_19 : decode cX6_begins 19 = .ok (.aload_n 0, 1) := by decide +kernel
theorem dX6_begins_20 : decode cX6_begins 20 = .ok (.getfield 45, 3) := by decide +kernel
theorem dX6_begins_23 : decode cX6_begins 23 = .ok (.iload_n 1, 1) := by decide +kernel
theorem dX6_begins_24 : decode cX6_begins 24 = .ok (.iconst 0, 1) := by decide +kernel
theorem dX6_begins_25 : decode cX6_begins 25 = .ok (.iastore, 1) := by decide +kernel
theorem dX6_begins_26 : decode cX6_begins 26 = .ok (.return_, 1) := by decide +kernel
set_option maxRecDepth 20000 in
theorem ggX6_move_X6_isShard : GoodIn wsX6_move wsX6_isShard := goodIn_r _ [8, 9, 10, 11, 7, 12, 39, 40, 41, 42, 43, 44, 45, 46, 47, 48, 49, 50, 51, 52, 53, 54, 55, 56, 57, 58] (by decide +kernel) (by decide +kernel)
set_option maxRecDepth 20000 in
theorem gX6_move_X6_isShard : GoodIn wsX6_move (wsV RX6 115 RX6 yX6_isShard wsX6_isShard) := goodIn_app (goodIn_of _ (by decide +kernel)) ggX6_move_X6_isShard
set_option maxRecDepth 20000 in
theorem ggX6_move_X6_isMachine : GoodIn wsX6_move wsX6_isMachine := goodIn_r _ [16, 17, 10, 11, 7, 12, 39, 40, 41, 42, 43, 44, 45, 46, 47, 48, 49, 50, 51, 52, 53, 54, 55, 56, 57, 58] (by decide +kernel) (by decide +kernel)
set_option maxRecDepth 20000 in
theorem gX6_move_X6_isMachine : GoodIn wsX6_move (wsV RX6 79 RX6 yX6_isMachine wsX6_isMachine) := goodIn_app (goodIn_of _ (by decide +kernel)) ggX6_move_X6_isMachine
set_option maxRecDepth 20000 in
theorem ggX6_move_X6_refused : GoodIn wsX6_move wsX6_refused := goodIn_r _ [21, 22, 39, 40, 41, 42, 43, 44, 45, 46, 47, 48, 49, 50, 51, 52, 53, 54, 55, 56, 57, 58] (by decide +kernel) (by decide +kernel)
set_option maxRecDepth 20000 in
theorem gX6_move_X6_refused : GoodIn wsX6_move (wsV RX6 75 RX6 yX6_refused wsX6_refused) := goodIn_app (goodIn_of _ (by decide +kernel)) ggX6_move_X6_refused
set_option maxRecDepth 20000 in
theorem ggX6_move_X6_begins : GoodIn wsX6_move wsX6_begins := goodIn_r _ [26, 2, 27, 28, 29, 39, 40, 41, 42, 43, 44, 45, 46, 47, 48, 49, 50, 51, 52, 53, 54, 55, 56, 57, 58] (by decide +kernel) (by decide +kernel)
set_option maxRecDepth 20000 in
theorem gX6_move_X6_begins : GoodIn wsX6_move (wsV RX6 118 RX6 yX6_begins wsX6_begins) := goodIn_app (goodIn_of _ (by decide +kernel)) ggX6_move_X6_begins
set_option maxRecDepth 20000 in
theorem ggX6_move_X6_sizeOf : GoodIn wsX6_move wsX6_sizeOf := goodIn_r _ [33, 28, 34, 35, 36, 7, 37, 38, 39, 40, 41, 42, 43, 44, 45, 46, 47, 48, 49, 50, 51, 52, 53, 54, 55, 56, 57, 58] (by decide +kernel) (by decide +kernel)
set_option maxRecDepth 20000 in
theorem gX6_move_X6_sizeOf : GoodIn wsX6_move (wsV RX6 65 RX6 yX6_sizeOf wsX6_sizeOf) := goodIn_app (goodIn_of _ (by decide +kernel)) ggX6_move_X6_sizeOf
theorem dX6_move_0 : decode cX6_move 0 = .ok (.aload_n 0, 1) := by decide +kernel
theorem dX6_move_1 : decode cX6_move 1 = .ok (.iload_n 1, 1) := by decide +kernel
theorem dX6_move_2 : decode cX6_move 2 = .ok (.invokevirtual 115, 3) := by decide +kernel
theorem dX6_move_5 : decode cX6_move 5 = .ok (.ifCond .eq 15, 3) := by decide +kernel
theorem dX6_move_8 : decode cX6_move 8 = .ok (.aload_n 0, 1) := by decide +kernel
theorem dX6_move_9 : decode cX6_move 9 = .ok (.iload_n 2, 1) := by decide +kernel
theorem dX6_move_10 : decode cX6_move 10 = .ok (.invokevirtual 79, 3) := by decide +kernel
theorem dX6_move_13 : decode cX6_move 13 = .ok (.ifCond .eq 7, 3) := by decide +kernel
theorem dX6_move_16 : decode cX6_move 16 = .ok (.iconst 1, 1) := by decide +kernel
theorem dX6_move_17 : decode cX6_move 17 = .ok (.goto 4, 3) := by decide +kernel
theorem dX6_move_20 : decode cX6_move 20 = .ok (.iconst 0, 1) := by decide +kernel
theorem dX6_move_21 : decode cX6_move 21 = .ok (.istore_n 3, 1) := by decide +kernel
theorem dX6_move_22 : decode cX6_move 22 = .ok (.aload_n 0, 1) := by decide +kernel
theorem dX6_move_23 : decode cX6_move 23 = .ok (.iload_n 3, 1) := by decide +kernel
theorem dX6_move_24 : decode cX6_move 24 = .ok (.ifCond .ne 7, 3) := by decide +kernel
theorem dX6_move_27 : decode cX6_move 27 = .ok (.iconst 1, 1) := by decide +kernel
theorem dX6_move_28 : decode cX6_move 28 = .ok (.goto 51, 3) := by decide +kernel
theorem dX6_move_31 : decode cX6_move 31 = .ok (.aload_n 0, 1) := by decide +kernel
theorem dX6_move_32 : decode cX6_move 32 = .ok (.getfield 36, 3) := by decide +kernel
theorem dX6_move_35 : decode cX6_move 35 = .ok (.iload_n 1, 1) := by decide +kernel
theorem dX6_move_36 : decode cX6_move 36 = .ok (.iaload, 1) := by decide +kernel
theorem dX6_move_37 : decode cX6_move 37 = .ok (.iload_n 2, 1) := by decide +kernel
theorem dX6_move_38 : decode cX6_move 38 = .ok (.if_icmp .eq 36, 3) := by decide +kernel
theorem dX6_move_41 : decode cX6_move 41 = .ok (.aload_n 0, 1) := by decide +kernel
theorem dX6_move_42 : decode cX6_move 42 = .ok (.getfield 39, 3) := by decide +kernel
theorem dX6_move_45 : decode cX6_move 45 = .ok (.iload_n 1, 1) := by decide +kernel
theorem dX6_move_46 : decode cX6_move 46 = .ok (.iaload, 1) := by decide +kernel
theorem dX6_move_47 : decode cX6_move 47 = .ok (.iconst (-1), 1) := by decide +kernel
theorem dX6_move_48 : decode cX6_move 48 = .ok (.if_icmp .ne 26, 3) := by decide +kernel
theorem dX6_move_51 : decode cX6_move 51 = .ok (.aload_n 0, 1) := by decide +kernel
theorem dX6_move_52 : decode cX6_move 52 = .ok (.getfield 13, 3) := by decide +kernel
theorem dX6_move_55 : decode cX6_move 55 = .ok (.iload_n 2, 1) := by decide +kernel
theorem dX6_move_56 : decode cX6_move 56 = .ok (.baload, 1) := by decide +kernel
theorem dX6_move_57 : decode cX6_move 57 = .ok (.ifCond .ne 17, 3) := by decide +kernel
theorem dX6_move_60 : decode cX6_move 60 = .ok (.aload_n 0, 1) := by decide +kernel
theorem dX6_move_61 : decode cX6_move 61 = .ok (.getfield 13, 3) := by decide +kernel
theorem dX6_move_64 : decode cX6_move 64 = .ok (.aload_n 0, 1) := by decide +kernel
theorem dX6_move_65 : decode cX6_move 65 = .ok (.getfield 36, 3) := by decide +kernel
theorem dX6_move_68 : decode cX6_move 68 = .ok (.iload_n 1, 1) := by decide +kernel
theorem dX6_move_69 : decode cX6_move 69 = .ok (.iaload, 1) := by decide +kernel
theorem dX6_move_70 : decode cX6_move 70 = .ok (.baload, 1) := by decide +kernel
theorem dX6_move_71 : decode cX6_move 71 = .ok (.ifCond .eq 7, 3) := by decide +kernel
theorem dX6_move_74 : decode cX6_move 74 = .ok (.iconst 2, 1) := by decide +kernel
theorem dX6_move_75 : decode cX6_move 75 = .ok (.goto 4, 3) := by decide +kernel
theorem dX6_move_78 : decode cX6_move 78 = .ok (.iconst 0, 1) := by decide +kernel
theorem dX6_move_79 : decode cX6_move 79 = .ok (.invokevirtual 75, 3) := by decide +kernel
theorem dX6_move_82 : decode cX6_move 82 = .ok (.ifCond .eq 5, 3) := by decide +kernel
theorem dX6_move_85 : decode cX6_move 85 = .ok (.iconst 0, 1) := by decide +kernel
theorem dX6_move_86 : decode cX6_move 86 = .ok (.ireturn, 1) := by decide +kernel
theorem dX6_move_87 : decode cX6_move 87 = .ok (.aload_n 0, 1) := by decide +kernel
theorem dX6_move_88 : decode cX6_move 88 = .ok (.iload_n 1, 1) := by decide +kernel
theorem dX6_move_89 : decode cX6_move 89 = .ok (.iload_n 2, 1) := by decide +kernel
theorem dX6_move_90 : decode cX6_move 90 = .ok (.invokevirtual 118, 3) := by decide +kernel
theorem dX6_move_93 : decode cX6_move 93 = .ok (.aload_n 0, 1) := by decide +kernel
theorem dX6_move_94 : decode cX6_move 94 = .ok (.iload_n 1, 1) := by decide +kernel
theorem dX6_move_95 : decode cX6_move 95 = .ok (.invokevirtual 65, 3) := by decide +kernel
theorem dX6_move_98 : decode cX6_move 98 = .ok (.ireturn, 1) := by decide +kernel
set_option maxRecDepth 20000 in
theorem ggX6_callOff_X6_isShard : GoodIn wsX6_callOff wsX6_isShard := goodIn_r _ [6, 7, 8, 9, 5, 10, 32, 33, 34, 35, 36, 37, 38, 39, 40, 41, 42, 43, 44, 45, 46, 47, 48, 49, 50, 51] (by decide +kernel) (by decide +kernel)
set_option maxRecDepth 20000 in
theorem gX6_callOff_X6_isShard : GoodIn wsX6_callOff (wsV RX6 115 RX6 yX6_isShard wsX6_isShard) := goodIn_app (goodIn_of _ (by decide +kernel)) ggX6_callOff_X6_isShard
set_option maxRecDepth 20000 in
theorem ggX6_callOff_X6_refused : GoodIn wsX6_callOff wsX6_refused := goodIn_r _ [14, 15, 32, 33, 34, 35, 36, 37, 38, 39, 40, 41, 42, 43, 44, 45, 46, 47, 48, 49, 50, 51] (by decide +kernel) (by decide +kernel)
set_option maxRecDepth 20000 in
theorem gX6_callOff_X6_refused : GoodIn wsX6_callOff (wsV RX6 75 RX6 yX6_refused wsX6_refused) := goodIn_app (goodIn_of _ (by decide +kernel)) ggX6_callOff_X6_refused
set_option maxRecDepth 20000 in
theorem ggX6_callOff_X6_copied : GoodIn wsX6_callOff wsX6_copied := goodIn_r _ [19, 1, 20, 21, 22, 23, 24, 5, 25, 26, 32, 33, 34, 35, 36, 37, 38, 39, 40, 41, 42, 43, 44, 45, 46, 47, 48, 49, 50, 51] (by decide +kernel) (by decide +kernel)
set_option maxRecDepth 20000 in
theorem gX6_callOff_X6_copied : GoodIn wsX6_callOff (wsV RX6 69 RX6 yX6_copied wsX6_copied) := goodIn_app (goodIn_of _ (by decide +kernel)) ggX6_callOff_X6_copied
set_option maxRecDepth 20000 in
theorem ggX6_callOff_X6_rollBack : GoodIn wsX6_callOff wsX6_rollBack := goodIn_r _ [30, 1, 31, 32, 33, 34, 35, 36, 37, 38, 39, 40, 41, 42, 43, 44, 45, 46, 47, 48, 49, 50, 51] (by decide +kernel) (by decide +kernel)
set_option maxRecDepth 20000 in
theorem gX6_callOff_X6_rollBack : GoodIn wsX6_callOff (wsV RX6 82 RX6 yX6_rollBack wsX6_rollBack) := goodIn_app (goodIn_of _ (by decide +kernel)) ggX6_callOff_X6_rollBack
theorem dX6_callOff_0 : decode cX6_callOff 0 = .ok (.aload_n 0, 1) := by decide +kernel
theorem dX6_callOff_1 : decode cX6_callOff 1 = .ok (.iload_n 1, 1) := by decide +kernel
theorem dX6_callOff_2 : decode cX6_callOff 2 = .ok (.invokevirtual 115, 3) := by decide +kernel
theorem dX6_callOff_5 : decode cX6_callOff 5 = .ok (.istore_n 2, 1) := by decide +kernel
theorem dX6_callOff_6 : decode cX6_callOff 6 = .ok (.aload_n 0, 1) := by decide +kernel
theorem dX6_callOff_7 : decode cX6_callOff 7 = .ok (.iload_n 2, 1) := by decide +kernel
theorem dX6_callOff_8 : decode cX6_callOff 8 = .ok (.ifCond .ne 7, 3) := by decide +kernel
theorem dX6_callOff_11 : decode cX6_callOff 11 = .ok (.iconst 1, 1) := by decide +kernel
theorem dX6_callOff_12 : decode cX6_callOff 12 = .ok (.goto 18, 3) := by decide +kernel
theorem dX6_callOff_15 : decode cX6_callOff 15 = .ok (.aload_n 0, 1) := by decide +kernel
theorem dX6_callOff_16 : decode cX6_callOff 16 = .ok (.getfield 39, 3) := by decide +kernel
theorem dX6_callOff_19 : decode cX6_callOff 19 = .ok (.iload_n 1, 1) := by decide +kernel
theorem dX6_callOff_20 : decode cX6_callOff 20 = .ok (.iaload, 1) := by decide +kernel
theorem dX6_callOff_21 : decode cX6_callOff 21 = .ok (.iconst (-1), 1) := by decide +kernel
theorem dX6_callOff_22 : decode cX6_callOff 22 = .ok (.if_icmp .ne 7, 3) := by decide +kernel
theorem dX6_callOff_25 : decode cX6_callOff 25 = .ok (.iconst 2, 1) := by decide +kernel
theorem dX6_callOff_26 : decode cX6_callOff 26 = .ok (.goto 4, 3) := by decide +kernel
theorem dX6_callOff_29 : decode cX6_callOff 29 = .ok (.iconst 0, 1) := by decide +kernel
theorem dX6_callOff_30 : decode cX6_callOff 30 = .ok (.invokevirtual 75, 3) := by decide +kernel
theorem dX6_callOff_33 : decode cX6_callOff 33 = .ok (.ifCond .eq 5, 3) := by decide +kernel
theorem dX6_callOff_36 : decode cX6_callOff 36 = .ok (.iconst 0, 1) := by decide +kernel
theorem dX6_callOff_37 : decode cX6_callOff 37 = .ok (.ireturn, 1) := by decide +kernel
theorem dX6_callOff_38 : decode cX6_callOff 38 = .ok (.aload_n 0, 1) := by decide +kernel
theorem dX6_callOff_39 : decode cX6_callOff 39 = .ok (.iload_n 1, 1) := by decide +kernel
theorem dX6_callOff_40 : decode cX6_callOff 40 = .ok (.invokevirtual 69, 3) := by decide +kernel
theorem dX6_callOff_43 : decode cX6_callOff 43 = .ok (.istore_n 3, 1) := by decide +kernel
theorem dX6_callOff_44 : decode cX6_callOff 44 = .ok (.aload_n 0, 1) := by decide +kernel
theorem dX6_callOff_45 : decode cX6_callOff 45 = .ok (.iload_n 1, 1) := by decide +kernel
theorem dX6_callOff_46 : decode cX6_callOff 46 = .ok (.invokevirtual 82, 3) := by decide +kernel
theorem dX6_callOff_49 : decode cX6_callOff 49 = .ok (.iload_n 3, 1) := by decide +kernel
theorem dX6_callOff_50 : decode cX6_callOff 50 = .ok (.ireturn, 1) := by decide +kernel
set_option maxRecDepth 20000 in
theorem ggX6_copies_X6_held : GoodIn wsX6_copies wsX6_held := goodIn_r _ [13, 14, 7, 3, 15, 16, 17, 12, 18, 5, 19, 20, 21, 22, 6, 23, 24, 25, 26, 4, 32, 33, 34, 35, 36, 37, 38, 39, 40, 41, 42, 43, 44, 45, 46, 47, 48, 49, 50, 51] (by decide +kernel) (by decide +kernel)
set_option maxRecDepth 20000 in
theorem gX6_copies_X6_held : GoodIn wsX6_copies (wsV RX6 98 RX6 yX6_held wsX6_held) := goodIn_app (goodIn_of _ (by decide +kernel)) ggX6_copies_X6_held
set_option maxRecDepth 20000 in
theorem ggX6_copies_X6_rollBack : GoodIn wsX6_copies wsX6_rollBack := goodIn_r _ [30, 3, 31, 32, 33, 34, 35, 36, 37, 38, 39, 40, 41, 42, 43, 44, 45, 46, 47, 48, 49, 50, 51] (by decide +kernel) (by decide +kernel)
set_option maxRecDepth 20000 in
theorem gX6_copies_X6_rollBack : GoodIn wsX6_copies (wsV RX6 82 RX6 yX6_rollBack wsX6_rollBack) := goodIn_app (goodIn_of _ (by decide +kernel)) ggX6_copies_X6_rollBack
theorem dX6_copies_0 : decode cX6_copies 0 = .ok (.aload_n 0, 1) := by decide +kernel
theorem dX6_copies_1 : decode cX6_copies 1 = .ok (.getfield 45, 3) := by decide +kernel
theorem dX6_copies_4 : decode cX6_copies 4 = .ok (.iload_n 1, 1) := by decide +kernel
theorem dX6_copies_5 : decode cX6_copies 5 = .ok (.dup2, 1) := by decide +kernel
theorem dX6_copies_6 : decode cX6_copies 6 = .ok (.iaload, 1) := by decide +kernel
theorem dX6_copies_7 : decode cX6_copies 7 = .ok (.bipush 50, 2) := by decide +kernel
theorem dX6_copies_9 : decode cX6_copies 9 = .ok (.iadd, 1) := by decide +kernel
theorem dX6_copies_10 : decode cX6_copies 10 = .ok (.iastore, 1) := by decide +kernel
theorem dX6_copies_11 : decode cX6_copies 11 = .ok (.aload_n 0, 1) := by decide +kernel
theorem dX6_copies_12 : decode cX6_copies 12 = .ok (.getfield 7, 3) := by decide +kernel
theorem dX6_copies_15 : decode cX6_copies 15 = .ok (.aload_n 0, 1) := by decide +kernel
theorem dX6_copies_16 : decode cX6_copies 16 = .ok (.getfield 39, 3) := by decide +kernel
theorem dX6_copies_19 : decode cX6_copies 19 = .ok (.iload_n 1, 1) := by decide +kernel
theorem dX6_copies_20 : decode cX6_copies 20 = .ok (.iaload, 1) := by decide +kernel
theorem dX6_copies_21 : decode cX6_copies 21 = .ok (.iaload, 1) := by decide +kernel
theorem dX6_copies_22 : decode cX6_copies 22 = .ok (.aload_n 0, 1) := by decide +kernel
theorem dX6_copies_23 : decode cX6_copies 23 = .ok (.aload_n 0, 1) := by decide +kernel
theorem dX6_copies_24 : decode cX6_copies 24 = .ok (.getfield 39, 3) := by decide +kernel
theorem dX6_copies_27 : decode cX6_copies 27 = .ok (.iload_n 1, 1) := by decide +kernel
theorem dX6_copies_28 : decode cX6_copies 28 = .ok (.iaload, 1) := by decide +kernel
theorem dX6_copies_29 : decode cX6_copies 29 = .ok (.invokevirtual 98, 3) := by decide +kernel
theorem dX6_copies_32 : decode cX6_copies 32 = .ok (.isub, 1) := by decide +kernel
theorem dX6_copies_33 : decode cX6_copies 33 = .ok (.istore_n 2, 1) := by decide +kernel
theorem dX6_copies_34 : decode cX6_copies 34 = .ok (.aload_n 0, 1) := by decide +kernel
theorem dX6_copies_35 : decode cX6_copies 35 = .ok (.getfield 39, 3) := by decide +kernel
theorem dX6_copies_38 : decode cX6_copies 38 = .ok (.iload_n 1, 1) := by decide +kernel
theorem dX6_copies_39 : decode cX6_copies 39 = .ok (.iaload, 1) := by decide +kernel
theorem dX6_copies_40 : decode cX6_copies 40 = .ok (.iconst (-1), 1) := by decide +kernel
theorem dX6_copies_41 : decode cX6_copies 41 = .ok (.if_icmp .eq 92, 3) := by decide +kernel
theorem dX6_copies_44 : decode cX6_copies 44 = .ok (.aload_n 0, 1) := by decide +kernel
theorem dX6_copies_45 : decode cX6_copies 45 = .ok (.getfield 42, 3) := by decide +kernel
theorem dX6_copies_48 : decode cX6_copies 48 = .ok (.iload_n 1, 1) := by decide +kernel
theorem dX6_copies_49 : decode cX6_copies 49 = .ok (.iaload, 1) := by decide +kernel
theorem dX6_copies_50 : decode cX6_copies 50 = .ok (.aload_n 0, 1) := by decide +kernel
theorem dX6_copies_51 : decode cX6_copies 51 = .ok (.getfield 33, 3) := by decide +kernel
theorem dX6_copies_54 : decode cX6_copies 54 = .ok (.iload_n 1, 1) := by decide +kernel
theorem dX6_copies_55 : decode cX6_copies 55 = .ok (.iconst 1, 1) := by decide +kernel
theorem dX6_copies_56 : decode cX6_copies 56 = .ok (.iadd, 1) := by decide +kernel
theorem dX6_copies_57 : decode cX6_copies 57 = .ok (.iaload, 1) := by decide +kernel
theorem dX6_copies_58 : decode cX6_copies 58 = .ok (.if_icmp .ge 75, 3) := by decide +kernel
theorem dX6_copies_61 : decode cX6_copies 61 = .ok (.aload_n 0, 1) := by decide +kernel
theorem dX6_copies_62 : decode cX6_copies 62 = .ok (.getfield 26, 3) := by decide +kernel
theorem dX6_copies_65 : decode cX6_copies 65 = .ok (.aload_n 0, 1) := by decide +kernel
theorem dX6_copies_66 : decode cX6_copies 66 = .ok (.getfield 42, 3) := by decide +kernel
theorem dX6_copies_69 : decode cX6_copies 69 = .ok (.iload_n 1, 1) := by decide +kernel
theorem dX6_copies_70 : decode cX6_copies 70 = .ok (.iaload, 1) := by decide +kernel
theorem dX6_copies_71 : decode cX6_copies 71 = .ok (.iaload, 1) := by decide +kernel
theorem dX6_copies_72 : decode cX6_copies 72 = .ok (.aload_n 0, 1) := by decide +kernel
theorem dX6_copies_73 : decode cX6_copies 73 = .ok (.getfield 45, 3) := by decide +kernel
theorem dX6_copies_76 : decode cX6_copies 76 = .ok (.iload_n 1, 1) := by decide +kernel
theorem dX6_copies_77 : decode cX6_copies 77 = .ok (.iaload, 1) := by decide +kernel
theorem dX6_copies_78 : decode cX6_copies 78 = .ok (.if_icmp .gt 55, 3) := by decide +kernel
theorem dX6_copies_81 : decode cX6_copies 81 = .ok (.aload_n 0, 1) := by decide +kernel
theorem dX6_copies_82 : decode cX6_copies 82 = .ok (.getfield 26, 3) := by decide +kernel
theorem dX6_copies_85 : decode cX6_copies 85 = .ok (.aload_n 0, 1) := by decide +kernel
theorem dX6_copies_86 : decode cX6_copies 86 = .ok (.getfield 42, 3) := by decide +kernel
theorem dX6_copies_89 : decode cX6_copies 89 = .ok (.iload_n 1, 1) := by decide +kernel
theorem dX6_copies_90 : decode cX6_copies 90 = .ok (.iaload, 1) := by decide +kernel
theorem dX6_copies_91 : decode cX6_copies 91 = .ok (.iaload, 1) := by decide +kernel
theorem dX6_copies_92 : decode cX6_copies 92 = .ok (.istore_n 3, 1) := by decide +kernel
theorem dX6_copies_93 : decode cX6_copies 93 = .ok (.iload_n 3, 1) := by decide +kernel
theorem dX6_copies_94 : decode cX6_copies 94 = .ok (.iload_n 2, 1) := by decide +kernel
theorem dX6_copies_95 : decode cX6_copies 95 = .ok (.if_icmp .le 11, 3) := by decide +kernel
theorem dX6_copies_98 : decode cX6_copies 98 = .ok (.aload_n 0, 1) := by decide +kernel
theorem dX6_copies_99 : decode cX6_copies 99 = .ok (.iload_n 1, 1) := by decide +kernel
theorem dX6_copies_100 : decode cX6_copies 100 = .ok (.invokevirtual 82, 3) := by decide +kernel
theorem dX6_copies_103 : decode cX6_copies 103 = .ok (.goto 27, 3) := by decide +kernel
theorem dX6_copies_106 : decode cX6_copies 106 = .ok (.iload_n 2, 1) := by decide +kernel
theorem dX6_copies_107 : decode cX6_copies 107 = .ok (.iload_n 3, 1) := by decide +kernel
theorem dX6_copies_108 : decode cX6_copies 108 = .ok (.isub, 1) := by decide +kernel
theorem dX6_copies_109 : decode cX6_copies 109 = .ok (.istore_n 2, 1) := by decide +kernel
theorem dX6_copies_110 : decode cX6_copies 110 = .ok (.aload_n 0, 1) := by decide +kernel
theorem dX6_copies_111 : decode cX6_copies 111 = .ok (.getfield 45, 3) := by decide +kernel
theorem dX6_copies_114 : decode cX6_copies 114 = .ok (.iload_n 1, 1) := by decide +kernel
theorem dX6_copies_115 : decode cX6_copies 115 = .ok (.dup2, 1) := by decide +kernel
theorem dX6_copies_116 : decode cX6_copies 116 = .ok (.iaload, 1) := by decide +kernel
theorem dX6_copies_117 : decode cX6_copies 117 = .ok (.iload_n 3, 1) := by decide +kernel
theorem dX6_copies_118 : decode cX6_copies 118 = .ok (.isub, 1) := by decide +kernel
theorem dX6_copies_119 : decode cX6_copies 119 = .ok (.iastore, 1) := by decide +kernel
theorem dX6_copies_120 : decode cX6_copies 120 = .ok (.aload_n 0, 1) := by decide +kernel
theorem dX6_copies_121 : decode cX6_copies 121 = .ok (.getfield 42, 3) := by decide +kernel
theorem dX6_copies_124 : decode cX6_copies 124 = .ok (.iload_n 1, 1) := by decide +kernel
theorem dX6_copies_125 : decode cX6_copies 125 = .ok (.dup2, 1) := by decide +kernel
theorem dX6_copies_126 : decode cX6_copies 126 = .ok (.iaload, 1) := by decide +kernel
theorem dX6_copies_127 : decode cX6_copies 127 = .ok (.iconst 1, 1) := by decide +kernel
theorem dX6_copies_128 : decode cX6_copies 128 = .ok (.iadd, 1) := by decide +kernel
theorem dX6_copies_129 : decode cX6_copies 129 = .ok (.iastore, 1) := by decide +kernel
theorem dX6_copies_130 : decode cX6_copies 130 = .ok (.goto (-96), 3) := by decide +kernel
theorem dX6_copies_133 : decode cX6_copies 133 = .ok (.aload_n 0, 1) := by decide +kernel
theorem dX6_copies_134 : decode cX6_copies 134 = .ok (.getfield 39, 3) := by decide +kernel
theorem dX6_copies_137 : decode cX6_copies 137 = .ok (.iload_n 1, 1) := by decide +kernel
theorem dX6_copies_138 : decode cX6_copies 138 = .ok (.iaload, 1) := by decide +kernel
theorem dX6_copies_139 : decode cX6_copies 139 = .ok (.iconst (-1), 1) := by decide +kernel
theorem dX6_copies_140 : decode cX6_copies 140 = .ok (.if_icmp .eq 49, 3) := by decide +kernel
theorem dX6_copies_143 : decode cX6_copies 143 = .ok (.aload_n 0, 1) := by decide +kernel
theorem dX6_copies_144 : decode cX6_copies 144 = .ok (.getfield 42, 3) := by decide +kernel
theorem dX6_copies_147 : decode cX6_copies 147 = .ok (.iload_n 1, 1) := by decide +kernel
theorem dX6_copies_148 : decode cX6_copies 148 = .ok (.iaload, 1) := by decide +kernel
theorem dX6_copies_149 : decode cX6_copies 149 = .ok (.aload_n 0, 1) := by decide +kernel
theorem dX6_copies_150 : decode cX6_copies 150 = .ok (.getfield 33, 3) := by decide +kernel
theorem dX6_copies_153 : decode cX6_copies 153 = .ok (.iload_n 1, 1) := by decide +kernel
theorem dX6_copies_154 : decode cX6_copies 154 = .ok (.iconst 1, 1) := by decide +kernel
theorem dX6_copies_155 : decode cX6_copies 155 = .ok (.iadd, 1) := by decide +kernel
theorem dX6_copies_156 : decode cX6_copies 156 = .ok (.iaload, 1) := by decide +kernel
theorem dX6_copies_157 : decode cX6_copies 157 = .ok (.if_icmp .ne 32, 3) := by decide +kernel
theorem dX6_copies_160 : decode cX6_copies 160 = .ok (.aload_n 0, 1) := by decide +kernel
theorem dX6_copies_161 : decode cX6_copies 161 = .ok (.getfield 36, 3) := by decide +kernel
theorem dX6_copies_164 : decode cX6_copies 164 = .ok (.iload_n 1, 1) := by decide +kernel
theorem dX6_copies_165 : decode cX6_copies 165 = .ok (.aload_n 0, 1) := by decide +kernel
theorem dX6_copies_166 : decode cX6_copies 166 = .ok (.getfield 39, 3) := by decide +kernel
theorem dX6_copies_169 : decode cX6_copies 169 = .ok (.iload_n 1, 1) := by decide +kernel
theorem dX6_copies_170 : decode cX6_copies 170 = .ok (.iaload, 1) := by decide +kernel
theorem dX6_copies_171 : decode cX6_copies 171 = .ok (.iastore, 1) := by decide +kernel
theorem dX6_copies_172 : decode cX6_copies 172 = .ok (.aload_n 0, 1) := by decide +kernel
theorem dX6_copies_173 : decode cX6_copies 173 = .ok (.getfield 39, 3) := by decide +kernel
theorem dX6_copies_176 : decode cX6_copies 176 = .ok (.iload_n 1, 1) := by decide +kernel
theorem dX6_copies_177 : decode cX6_copies 177 = .ok (.iconst (-1), 1) := by decide +kernel
theorem dX6_copies_178 : decode cX6_copies 178 = .ok (.iastore, 1) := by decide +kernel
theorem dX6_copies_179 : decode cX6_copies 179 = .ok (.aload_n 0, 1) := by decide +kernel
theorem dX6_copies_180 : decode cX6_copies 180 = .ok (.dup, 1) := by decide +kernel
theorem dX6_copies_181 : decode cX6_copies 181 = .ok (.getfield 121, 3) := by decide +kernel
theorem dX6_copies_184 : decode cX6_copies 184 = .ok (.iconst 1, 1) := by decide +kernel
theorem dX6_copies_185 : decode cX6_copies 185 = .ok (.iadd, 1) := by decide +kernel
theorem dX6_copies_186 : decode cX6_copies 186 = .ok (.putfield 121, 3) := by decide +kernel
theorem dX6_copies_189 : decode cX6_copies 189 = .ok (.return_, 1) := by decide +kernel
theorem dX6_heatOf_0 : decode cX6_heatOf 0 = .ok (.iconst 0, 1) := by decide +kernel
theorem dX6_heatOf_1 : decode cX6_heatOf 1 = .ok (.istore_n 2, 1) := by decide +kernel
theorem dX6_heatOf_2 : decode cX6_heatOf 2 = .ok (.iconst 0, 1) := by decide +kernel
theorem dX6_heatOf_3 : decode cX6_heatOf 3 = .ok (.istore_n 3, 1) := by decide +kernel
theorem dX6_heatOf_4 : decode cX6_heatOf 4 = .ok (.iload_n 3, 1) := by decide +kernel
theorem dX6_heatOf_5 : decode cX6_heatOf 5 = .ok (.aload_n 0, 1) := by decide +kernel
theorem dX6_heatOf_6 : decode cX6_heatOf 6 = .ok (.getfield 29, 3) := by decide +kernel
theorem dX6_heatOf_9 : decode cX6_heatOf 9 = .ok (.if_icmp .ge 32, 3) := by decide +kernel
theorem dX6_heatOf_12 : decode cX6_heatOf 12 = .ok (.iload_n 2, 1) := by decide +kernel
theorem dX6_heatOf_13 : decode cX6_heatOf 13 = .ok (.aload_n 0, 1) := by decide +kernel
theorem dX6_heatOf_14 : decode cX6_heatOf 14 = .ok (.getfield 36, 3) := by decide +kernel
theorem dX6_heatOf_17 : decode cX6_heatOf 17 = .ok (.iload_n 3, 1) := by decide +kernel
theorem dX6_heatOf_18 : decode cX6_heatOf 18 = .ok (.iaload, 1) := by decide +kernel
theorem dX6_heatOf_19 : decode cX6_heatOf 19 = .ok (.iload_n 1, 1) := by decide +kernel
theorem dX6_heatOf_20 : decode cX6_heatOf 20 = .ok (.if_icmp .ne 12, 3) := by decide +kernel
theorem dX6_heatOf_23 : decode cX6_heatOf 23 = .ok (.aload_n 0, 1) := by decide +kernel
theorem dX6_heatOf_24 : decode cX6_heatOf 24 = .ok (.getfield 48, 3) := by decide +kernel
theorem dX6_heatOf_27 : decode cX6_heatOf 27 = .ok (.iload_n 3, 1) := by decide +kernel
theorem dX6_heatOf_28 : decode cX6_heatOf 28 = .ok (.iaload, 1) := by decide +kernel
theorem dX6_heatOf_29 : decode cX6_heatOf 29 = .ok (.goto 4, 3) := by decide +kernel
theorem dX6_heatOf_32 : decode cX6_heatOf 32 = .ok (.iconst 0, 1) := by decide +kernel
theorem dX6_heatOf_33 : decode cX6_heatOf 33 = .ok (.iadd, 1) := by decide +kernel
theorem dX6_heatOf_34 : decode cX6_heatOf 34 = .ok (.istore_n 2, 1) := by decide +kernel
theorem dX6_heatOf_35 : decode cX6_heatOf 35 = .ok (.iinc 3 1, 3) := by decide +kernel
theorem dX6_heatOf_38 : decode cX6_heatOf 38 = .ok (.goto (-34), 3) := by decide +kernel
theorem dX6_heatOf_41 : decode cX6_heatOf 41 = .ok (.iload_n 2, 1) := by decide +kernel
theorem dX6_heatOf_42 : decode cX6_heatOf 42 = .ok (.ireturn, 1) := by decide +kernel
set_option maxRecDepth 20000 in
theorem ggX6_draw_X6_heatOf : GoodIn wsX6_draw wsX6_heatOf := goodIn_r _ [12, 4, 5, 7, 20, 21, 22, 23, 24, 25, 26, 27, 28, 29, 30, 31, 32, 33, 34, 35, 36, 37, 38, 39] (by decide +kernel) (by decide +kernel)
set_option maxRecDepth 20000 in
theorem gX6_draw_X6_heatOf : GoodIn wsX6_draw (wsV RX6 124 RX6 yX6_heatOf wsX6_heatOf) := goodIn_app (goodIn_of _ (by decide +kernel)) ggX6_draw_X6_heatOf
set_option maxRecDepth 20000 in
theorem ggX6_draw_X6_begins : GoodIn wsX6_draw wsX6_begins := goodIn_r _ [16, 6, 17, 18, 19, 20, 21, 22, 23, 24, 25, 26, 27, 28, 29, 30, 31, 32, 33, 34, 35, 36, 37, 38, 39] (by decide +kernel) (by decide +kernel)
set_option maxRecDepth 20000 in
theorem gX6_draw_X6_begins : GoodIn wsX6_draw (wsV RX6 118 RX6 yX6_begins wsX6_begins) := goodIn_app (goodIn_of _ (by decide +kernel)) ggX6_draw_X6_begins
theorem dX6_draw_0 : decode cX6_draw 0 = .ok (.iconst (-1), 1) := by decide +kernel
theorem dX6_draw_1 : decode cX6_draw 1 = .ok (.istore_n 1, 1) := by decide +kernel
theorem dX6_draw_2 : decode cX6_draw 2 = .ok (.iconst (-1), 1) := by decide +kernel
theorem dX6_draw_3 : decode cX6_draw 3 = .ok (.istore_n 2, 1) := by decide +kernel
theorem dX6_draw_4 : decode cX6_draw 4 = .ok (.iconst 0, 1) := by decide +kernel
theorem dX6_draw_5 : decode cX6_draw 5 = .ok (.istore_n 3, 1) := by decide +kernel
theorem dX6_draw_6 : decode cX6_draw 6 = .ok (.iload_n 3, 1) := by decide +kernel
theorem dX6_draw_7 : decode cX6_draw 7 = .ok (.aload_n 0, 1) := by decide +kernel
theorem dX6_draw_8 : decode cX6_draw 8 = .ok (.getfield 58, 3) := by decide +kernel
theorem dX6_draw_11 : decode cX6_draw 11 = .ok (.if_icmp .ge 66, 3) := by decide +kernel
theorem dX6_draw_14 : decode cX6_draw 14 = .ok (.aload_n 0, 1) := by decide +kernel
theorem dX6_draw_15 : decode cX6_draw 15 = .ok (.getfield 13, 3) := by decide +kernel
theorem dX6_draw_18 : decode cX6_draw 18 = .ok (.iload_n 3, 1) := by decide +kernel
theorem dX6_draw_19 : decode cX6_draw 19 = .ok (.baload, 1) := by decide +kernel
theorem dX6_draw_20 : decode cX6_draw 20 = .ok (.ifCond .ne 51, 3) := by decide +kernel
theorem dX6_draw_23 : decode cX6_draw 23 = .ok (.iload_n 1, 1) := by decide +kernel
theorem dX6_draw_24 : decode cX6_draw 24 = .ok (.iconst (-1), 1) := by decide +kernel
theorem dX6_draw_25 : decode cX6_draw 25 = .ok (.if_icmp .eq 16, 3) := by decide +kernel
theorem dX6_draw_28 : decode cX6_draw 28 = .ok (.aload_n 0, 1) := by decide +kernel
theorem dX6_draw_29 : decode cX6_draw 29 = .ok (.iload_n 3, 1) := by decide +kernel
theorem dX6_draw_30 : decode cX6_draw 30 = .ok (.invokevirtual 124, 3) := by decide +kernel
theorem dX6_draw_33 : decode cX6_draw 33 = .ok (.aload_n 0, 1) := by decide +kernel
theorem dX6_draw_34 : decode cX6_draw 34 = .ok (.iload_n 1, 1) := by decide +kernel
theorem dX6_draw_35 : decode cX6_draw 35 = .ok (.invokevirtual 124, 3) := by decide +kernel
theorem dX6_draw_38 : decode cX6_draw 38 = .ok (.if_icmp .le 7, 3) := by decide +kernel
theorem dX6_draw_41 : decode cX6_draw 41 = .ok (.iload_n 3, 1) := by decide +kernel
theorem dX6_draw_42 : decode cX6_draw 42 = .ok (.goto 4, 3) := by decide +kernel
theorem dX6_draw_45 : decode cX6_draw 45 = .ok (.iload_n 1, 1) := by decide +kernel
theorem dX6_draw_46 : decode cX6_draw 46 = .ok (.istore_n 1, 1) := by decide +kernel
theorem dX6_draw_47 : decode cX6_draw 47 = .ok (.iload_n 2, 1) := by decide +kernel
theorem dX6_draw_48 : decode cX6_draw 48 = .ok (.iconst (-1), 1) := by decide +kernel
theorem dX6_draw_49 : decode cX6_draw 49 = .ok (.if_icmp .eq 16, 3) := by decide +kernel
theorem dX6_draw_52 : decode cX6_draw 52 = .ok (.aload_n 0, 1) := by decide +kernel
theorem dX6_draw_53 : decode cX6_draw 53 = .ok (.iload_n 3, 1) := by decide +kernel
theorem dX6_draw_54 : decode cX6_draw 54 = .ok (.invokevirtual 124, 3) := by decide +kernel
theorem dX6_draw_57 : decode cX6_draw 57 = .ok (.aload_n 0, 1) := by decide +kernel
theorem dX6_draw_58 : decode cX6_draw 58 = .ok (.iload_n 2, 1) := by decide +kernel
theorem dX6_draw_59 : decode cX6_draw 59 = .ok (.invokevirtual 124, 3) := by decide +kernel
theorem dX6_draw_62 : decode cX6_draw 62 = .ok (.if_icmp .ge 7, 3) := by decide +kernel
theorem dX6_draw_65 : decode cX6_draw 65 = .ok (.iload_n 3, 1) := by decide +kernel
theorem dX6_draw_66 : decode cX6_draw 66 = .ok (.goto 4, 3) := by decide +kernel
theorem dX6_draw_69 : decode cX6_draw 69 = .ok (.iload_n 2, 1) := by decide +kernel
theorem dX6_draw_70 : decode cX6_draw 70 = .ok (.istore_n 2, 1) := by decide +kernel
theorem dX6_draw_71 : decode cX6_draw 71 = .ok (.iinc 3 1, 3) := by decide +kernel
theorem dX6_draw_74 : decode cX6_draw 74 = .ok (.goto (-68), 3) := by decide +kernel
theorem dX6_draw_77 : decode cX6_draw 77 = .ok (.iload_n 1, 1) := by decide +kernel
theorem dX6_draw_78 : decode cX6_draw 78 = .ok (.iconst (-1), 1) := by decide +kernel
theorem dX6_draw_79 : decode cX6_draw 79 = .ok (.if_icmp .eq 21, 3) := by decide +kernel
theorem dX6_draw_82 : decode cX6_draw 82 = .ok (.aload_n 0, 1) := by decide +kernel
theorem dX6_draw_83 : decode cX6_draw 83 = .ok (.iload_n 1, 1) := by decide +kernel
theorem dX6_draw_84 : decode cX6_draw 84 = .ok (.invokevirtual 124, 3) := by decide +kernel
theorem dX6_draw_87 : decode cX6_draw 87 = .ok (.aload_n 0, 1) := by decide +kernel
theorem dX6_draw_88 : decode cX6_draw 88 = .ok (.iload_n 2, 1) := by decide +kernel
theorem dX6_draw_89 : decode cX6_draw 89 = .ok (.invokevirtual 124, 3) := by decide +kernel
theorem dX6_draw_92 : decode cX6_draw 92 = .ok (.isub, 1) := by decide +kernel
theorem dX6_draw_93 : decode cX6_draw 93 = .ok (.aload_n 0, 1) := by decide +kernel
theorem dX6_draw_94 : decode cX6_draw 94 = .ok (.getfield 89, 3) := by decide +kernel
theorem dX6_draw_97 : decode cX6_draw 97 = .ok (.if_icmp .ge 4, 3) := by decide +kernel
theorem dX6_draw_100 : decode cX6_draw 100 = .ok (.return_, 1) := by decide +kernel
theorem dX6_draw_101 : decode cX6_draw 101 = .ok (.iconst (-1), 1) := by decide +kernel
theorem dX6_draw_102 : decode cX6_draw 102 = .ok (.istore_n 3, 1) := by decide +kernel
theorem dX6_draw_103 : decode cX6_draw 103 = .ok (.iconst 0, 1) := by decide +kernel
theorem dX6_draw_104 : decode cX6_draw 104 = .ok (.istore 4, 2) := by decide +kernel
theorem dX6_draw_106 : decode cX6_draw 106 = .ok (.iconst 0, 1) := by decide +kernel
theorem dX6_draw_107 : decode cX6_draw 107 = .ok (.istore 5, 2) := by decide +kernel
theorem dX6_draw_109 : decode cX6_draw 109 = .ok (.iload 5, 2) := by decide +kernel
theorem dX6_draw_111 : decode cX6_draw 111 = .ok (.aload_n 0, 1) := by decide +kernel
theorem dX6_draw_112 : decode cX6_draw 112 = .ok (.getfield 29, 3) := by decide +kernel
theorem dX6_draw_115 : decode cX6_draw 115 = .ok (.if_icmp .ge 82, 3) := by decide +kernel
theorem dX6_draw_118 : decode cX6_draw 118 = .ok (.iload 4, 2) := by decide +kernel
theorem dX6_draw_120 : decode cX6_draw 120 = .ok (.ifCond .ne 25, 3) := by decide +kernel
theorem dX6_draw_123 : decode cX6_draw 123 = .ok (.aload_n 0, 1) := by decide +kernel
theorem dX6_draw_124 : decode cX6_draw 124 = .ok (.getfield 36, 3) := by decide +kernel
theorem dX6_draw_127 : decode cX6_draw 127 = .ok (.iload 5, 2) := by decide +kernel
theorem dX6_draw_129 : decode cX6_draw 129 = .ok (.iaload, 1) := by decide +kernel
theorem dX6_draw_130 : decode cX6_draw 130 = .ok (.iload_n 1, 1) := by decide +kernel
theorem dX6_draw_131 : decode cX6_draw 131 = .ok (.if_icmp .ne 18, 3) := by decide +kernel
theorem dX6_draw_134 : decode cX6_draw 134 = .ok (.aload_n 0, 1) := by decide +kernel
theorem dX6_draw_135 : decode cX6_draw 135 = .ok (.getfield 39, 3) := by decide +kernel
theorem dX6_draw_138 : decode cX6_draw 138 = .ok (.iload 5, 2) := by decide +kernel
theorem dX6_draw_140 : decode cX6_draw 140 = .ok (.iaload, 1) := by decide +kernel
theorem dX6_draw_141 : decode cX6_draw 141 = .ok (.iconst (-1), 1) := by decide +kernel
theorem dX6_draw_142 : decode cX6_draw 142 = .ok (.if_icmp .eq 7, 3) := by decide +kernel
theorem dX6_draw_145 : decode cX6_draw 145 = .ok (.iconst 1, 1) := by decide +kernel
theorem dX6_draw_146 : decode cX6_draw 146 = .ok (.goto 4, 3) := by decide +kernel
theorem dX6_draw_149 : decode cX6_draw 149 = .ok (.iconst 0, 1) := by decide +kernel
theorem dX6_draw_150 : decode cX6_draw 150 = .ok (.istore 4, 2) := by decide +kernel
theorem dX6_draw_152 : decode cX6_draw 152 = .ok (.aload_n 0, 1) := by decide +kernel
theorem dX6_draw_153 : decode cX6_draw 153 = .ok (.getfield 36, 3) := by decide +kernel
theorem dX6_draw_156 : decode cX6_draw 156 = .ok (.iload 5, 2) := by decide +kernel
theorem dX6_draw_158 : decode cX6_draw 158 = .ok (.iaload, 1) := by decide +kernel
theorem dX6_draw_159 : decode cX6_draw 159 = .ok (.iload_n 1, 1) := by decide +kernel
theorem dX6_draw_160 : decode cX6_draw 160 = .ok (.if_icmp .ne 29, 3) := by decide +kernel
theorem dX6_draw_163 : decode cX6_draw 163 = .ok (.iload_n 3, 1) := by decide +kernel
theorem dX6_draw_164 : decode cX6_draw 164 = .ok (.iconst (-1), 1) := by decide +kernel
theorem dX6_draw_165 : decode cX6_draw 165 = .ok (.if_icmp .eq 19, 3) := by decide +kernel
theorem dX6_draw_168 : decode cX6_draw 168 = .ok (.aload_n 0, 1) := by decide +kernel
theorem dX6_draw_169 : decode cX6_draw 169 = .ok (.getfield 48, 3) := by decide +kernel
theorem dX6_draw_172 : decode cX6_draw 172 = .ok (.iload 5, 2) := by decide +kernel
theorem dX6_draw_174 : decode cX6_draw 174 = .ok (.iaload, 1) := by decide +kernel
theorem dX6_draw_175 : decode cX6_draw 175 = .ok (.aload_n 0, 1) := by decide +kernel
theorem dX6_draw_176 : decode cX6_draw 176 = .ok (.getfield 48, 3) := by decide +kernel
theorem dX6_draw_179 : decode cX6_draw 179 = .ok (.iload_n 3, 1) := by decide +kernel
theorem dX6_draw_180 : decode cX6_draw 180 = .ok (.iaload, 1) := by decide +kernel
theorem dX6_draw_181 : decode cX6_draw 181 = .ok (.if_icmp .le 8, 3) := by decide +kernel
theorem dX6_draw_184 : decode cX6_draw 184 = .ok (.iload 5, 2) := by decide +kernel
theorem dX6_draw_186 : decode cX6_draw 186 = .ok (.goto 4, 3) := by decide +kernel
theorem dX6_draw_189 : decode cX6_draw 189 = .ok (.iload_n 3, 1) := by decide +kernel
theorem dX6_draw_190 : decode cX6_draw 190 = .ok (.istore_n 3, 1) := by decide +kernel
theorem dX6_draw_191 : decode cX6_draw 191 = .ok (.iinc 5 1, 3) := by decide +kernel
theorem dX6_draw_194 : decode cX6_draw 194 = .ok (.goto (-85), 3) := by decide +kernel
theorem dX6_draw_197 : decode cX6_draw 197 = .ok (.iload 4, 2) := by decide +kernel
theorem dX6_draw_199 : decode cX6_draw 199 = .ok (.ifCond .ne 23, 3) := by decide +kernel
theorem dX6_draw_202 : decode cX6_draw 202 = .ok (.iload_n 3, 1) := by decide +kernel
theorem dX6_draw_203 : decode cX6_draw 203 = .ok (.iconst (-1), 1) := by decide +kernel
theorem dX6_draw_204 : decode cX6_draw 204 = .ok (.if_icmp .eq 18, 3) := by decide +kernel
theorem dX6_draw_207 : decode cX6_draw 207 = .ok (.aload_n 0, 1) := by decide +kernel
theorem dX6_draw_208 : decode cX6_draw 208 = .ok (.getfield 48, 3) := by decide +kernel
theorem dX6_draw_211 : decode cX6_draw 211 = .ok (.iload_n 3, 1) := by decide +kernel
theorem dX6_draw_212 : decode cX6_draw 212 = .ok (.iaload, 1) := by decide +kernel
theorem dX6_draw_213 : decode cX6_draw 213 = .ok (.ifCond .le 9, 3) := by decide +kernel
theorem dX6_draw_216 : decode cX6_draw 216 = .ok (.aload_n 0, 1) := by decide +kernel
theorem dX6_draw_217 : decode cX6_draw 217 = .ok (.iload_n 3, 1) := by decide +kernel
theorem dX6_draw_218 : decode cX6_draw 218 = .ok (.iload_n 2, 1) := by decide +kernel
theorem dX6_draw_219 : decode cX6_draw 219 = .ok (.invokevirtual 118, 3) := by decide +kernel
theorem dX6_draw_222 : decode cX6_draw 222 = .ok (.return_, 1) := by decide +kernel
set_option maxRecDepth 20000 in
theorem ggX6_pass_X6_in : GoodIn wsX6_pass wsX6_in := goodIn_r _ [10] (by decide +kernel) (by decide +kernel)
set_option maxRecDepth 20000 in
theorem gX6_pass_X6_in : GoodIn wsX6_pass (va_wsS RX6 54 yX6_in wsX6_in) := goodIn_app (goodIn_of _ (by decide +kernel)) ggX6_pass_X6_in
set_option maxRecDepth 20000 in
theorem ggX6_pass_X6_refused : GoodIn wsX6_pass wsX6_refused := goodIn_r _ [14, 15, 67, 68, 69, 70, 71, 72, 73, 74, 75, 76, 77, 78, 79, 80, 81, 82, 83, 84, 85, 86] (by decide +kernel) (by decide +kernel)
set_option maxRecDepth 20000 in
theorem gX6_pass_X6_refused : GoodIn wsX6_pass (wsV RX6 75 RX6 yX6_refused wsX6_refused) := goodIn_app (goodIn_of _ (by decide +kernel)) ggX6_pass_X6_refused
set_option maxRecDepth 20000 in
theorem ggX6_pass_X6_copies : GoodIn wsX6_pass wsX6_copies := goodIn_r _ [19, 20, 21, 3, 22, 23, 24, 25, 26, 27, 28, 29, 9, 30, 2, 31, 32, 33, 34, 35, 36, 37, 38, 39, 40, 41, 42, 43, 44, 45, 46, 47, 67, 68, 69, 70, 71, 72, 73, 74, 75, 76, 77, 78, 79, 80, 81, 82, 83, 84, 85, 86] (by decide +kernel) (by decide +kernel)
set_option maxRecDepth 20000 in
theorem gX6_pass_X6_copies : GoodIn wsX6_pass (wsV RX6 130 RX6 yX6_copies wsX6_copies) := goodIn_app (goodIn_of _ (by decide +kernel)) ggX6_pass_X6_copies
set_option maxRecDepth 20000 in
theorem ggX6_pass_X6_bytesOf : GoodIn wsX6_pass wsX6_bytesOf := goodIn_r _ [51, 52, 24, 67, 68, 69, 70, 71, 72, 73, 74, 75, 76, 77, 78, 79, 80, 81, 82, 83, 84, 85, 86] (by decide +kernel) (by decide +kernel)
set_option maxRecDepth 20000 in
theorem gX6_pass_X6_bytesOf : GoodIn wsX6_pass (wsV RX6 101 RX6 yX6_bytesOf wsX6_bytesOf) := goodIn_app (goodIn_of _ (by decide +kernel)) ggX6_pass_X6_bytesOf
set_option maxRecDepth 20000 in
theorem ggX6_pass_X6_draw : GoodIn wsX6_pass wsX6_draw := goodIn_r _ [56, 57, 58, 5, 2, 25, 3, 6, 59, 60, 61, 9, 62, 63, 64, 65, 66, 22, 23, 20, 67, 68, 69, 70, 71, 72, 73, 74, 75, 76, 77, 78, 79, 80, 81, 82, 83, 84, 85, 86] (by decide +kernel) (by decide +kernel)
set_option maxRecDepth 20000 in
theorem gX6_pass_X6_draw : GoodIn wsX6_pass (wsV RX6 133 RX6 yX6_draw wsX6_draw) := goodIn_app (goodIn_of _ (by decide +kernel)) ggX6_pass_X6_draw
theorem dX6_pass_0 : decode cX6_pass 0 = .ok (.aload_n 0, 1) := by decide +kernel
theorem dX6_pass_1 : decode cX6_pass 1 = .ok (.iload_n 1, 1) := by decide +kernel
theorem dX6_pass_2 : decode cX6_pass 2 = .ok (.iconst 1, 1) := by decide +kernel
theorem dX6_pass_3 : decode cX6_pass 3 = .ok (.sipush 200, 3) := by decide +kernel
theorem dX6_pass_6 : decode cX6_pass 6 = .ok (.invokestatic 54, 3) := by decide +kernel
theorem dX6_pass_9 : decode cX6_pass 9 = .ok (.ifCond .ne 7, 3) := by decide +kernel
theorem dX6_pass_12 : decode cX6_pass 12 = .ok (.iconst 1, 1) := by decide +kernel
theorem dX6_pass_13 : decode cX6_pass 13 = .ok (.goto 20, 3) := by decide +kernel
theorem dX6_pass_16 : decode cX6_pass 16 = .ok (.aload_n 0, 1) := by decide +kernel
theorem dX6_pass_17 : decode cX6_pass 17 = .ok (.getfield 127, 3) := by decide +kernel
theorem dX6_pass_20 : decode cX6_pass 20 = .ok (.iload_n 1, 1) := by decide +kernel
theorem dX6_pass_21 : decode cX6_pass 21 = .ok (.iadd, 1) := by decide +kernel
theorem dX6_pass_22 : decode cX6_pass 22 = .ok (.sipush 2000, 3) := by decide +kernel
theorem dX6_pass_25 : decode cX6_pass 25 = .ok (.if_icmp .le 7, 3) := by decide +kernel
theorem dX6_pass_28 : decode cX6_pass 28 = .ok (.iconst 2, 1) := by decide +kernel
theorem dX6_pass_29 : decode cX6_pass 29 = .ok (.goto 4, 3) := by decide +kernel
theorem dX6_pass_32 : decode cX6_pass 32 = .ok (.iconst 0, 1) := by decide +kernel
theorem dX6_pass_33 : decode cX6_pass 33 = .ok (.invokevirtual 75, 3) := by decide +kernel
theorem dX6_pass_36 : decode cX6_pass 36 = .ok (.ifCond .eq 5, 3) := by decide +kernel
theorem dX6_pass_39 : decode cX6_pass 39 = .ok (.iconst 0, 1) := by decide +kernel
theorem dX6_pass_40 : decode cX6_pass 40 = .ok (.ireturn, 1) := by decide +kernel
theorem dX6_pass_41 : decode cX6_pass 41 = .ok (.iconst 0, 1) := by decide +kernel
theorem dX6_pass_42 : decode cX6_pass 42 = .ok (.istore_n 2, 1) := by decide +kernel
theorem dX6_pass_43 : decode cX6_pass 43 = .ok (.iload_n 2, 1) := by decide +kernel
theorem dX6_pass_44 : decode cX6_pass 44 = .ok (.iload_n 1, 1) := by decide +kernel
theorem dX6_pass_45 : decode cX6_pass 45 = .ok (.if_icmp .ge 114, 3) := by decide +kernel
theorem dX6_pass_48 : decode cX6_pass 48 = .ok (.aload_n 0, 1) := by decide +kernel
theorem dX6_pass_49 : decode cX6_pass 49 = .ok (.dup, 1) := by decide +kernel
theorem dX6_pass_50 : decode cX6_pass 50 = .ok (.getfield 127, 3) := by decide +kernel
theorem dX6_pass_53 : decode cX6_pass 53 = .ok (.iconst 1, 1) := by decide +kernel
theorem dX6_pass_54 : decode cX6_pass 54 = .ok (.iadd, 1) := by decide +kernel
theorem dX6_pass_55 : decode cX6_pass 55 = .ok (.putfield 127, 3) := by decide +kernel
theorem dX6_pass_58 : decode cX6_pass 58 = .ok (.iconst 0, 1) := by decide +kernel
theorem dX6_pass_59 : decode cX6_pass 59 = .ok (.istore_n 3, 1) := by decide +kernel
theorem dX6_pass_60 : decode cX6_pass 60 = .ok (.iload_n 3, 1) := by decide +kernel
theorem dX6_pass_61 : decode cX6_pass 61 = .ok (.aload_n 0, 1) := by decide +kernel
theorem dX6_pass_62 : decode cX6_pass 62 = .ok (.getfield 29, 3) := by decide +kernel
theorem dX6_pass_65 : decode cX6_pass 65 = .ok (.if_icmp .ge 24, 3) := by decide +kernel
theorem dX6_pass_68 : decode cX6_pass 68 = .ok (.aload_n 0, 1) := by decide +kernel
theorem dX6_pass_69 : decode cX6_pass 69 = .ok (.getfield 39, 3) := by decide +kernel
theorem dX6_pass_72 : decode cX6_pass 72 = .ok (.iload_n 3, 1) := by decide +kernel
theorem dX6_pass_73 : decode cX6_pass 73 = .ok (.iaload, 1) := by decide +kernel
theorem dX6_pass_74 : decode cX6_pass 74 = .ok (.iconst (-1), 1) := by decide +kernel
theorem dX6_pass_75 : decode cX6_pass 75 = .ok (.if_icmp .eq 8, 3) := by decide +kernel
theorem dX6_pass_78 : decode cX6_pass 78 = .ok (.aload_n 0, 1) := by decide +kernel
theorem dX6_pass_79 : decode cX6_pass 79 = .ok (.iload_n 3, 1) := by decide +kernel
theorem dX6_pass_80 : decode cX6_pass 80 = .ok (.invokevirtual 130, 3) := by decide +kernel
theorem dX6_pass_83 : decode cX6_pass 83 = .ok (.iinc 3 1, 3) := by decide +kernel
theorem dX6_pass_86 : decode cX6_pass 86 = .ok (.goto (-26), 3) := by decide +kernel
theorem dX6_pass_89 : decode cX6_pass 89 = .ok (.iconst 0, 1) := by decide +kernel
theorem dX6_pass_90 : decode cX6_pass 90 = .ok (.istore_n 3, 1) := by decide +kernel
theorem dX6_pass_91 : decode cX6_pass 91 = .ok (.iload_n 3, 1) := by decide +kernel
theorem dX6_pass_92 : decode cX6_pass 92 = .ok (.iconst 4, 1) := by decide +kernel
theorem dX6_pass_93 : decode cX6_pass 93 = .ok (.if_icmp .ge 23, 3) := by decide +kernel
theorem dX6_pass_96 : decode cX6_pass 96 = .ok (.aload_n 0, 1) := by decide +kernel
theorem dX6_pass_97 : decode cX6_pass 97 = .ok (.getfield 20, 3) := by decide +kernel
theorem dX6_pass_100 : decode cX6_pass 100 = .ok (.iload_n 3, 1) := by decide +kernel
theorem dX6_pass_101 : decode cX6_pass 101 = .ok (.dup2, 1) := by decide +kernel
theorem dX6_pass_102 : decode cX6_pass 102 = .ok (.iaload, 1) := by decide +kernel
theorem dX6_pass_103 : decode cX6_pass 103 = .ok (.aload_n 0, 1) := by decide +kernel
theorem dX6_pass_104 : decode cX6_pass 104 = .ok (.iload_n 3, 1) := by decide +kernel
theorem dX6_pass_105 : decode cX6_pass 105 = .ok (.invokevirtual 101, 3) := by decide +kernel
theorem dX6_pass_108 : decode cX6_pass 108 = .ok (.iadd, 1) := by decide +kernel
theorem dX6_pass_109 : decode cX6_pass 109 = .ok (.iastore, 1) := by decide +kernel
theorem dX6_pass_110 : decode cX6_pass 110 = .ok (.iinc 3 1, 3) := by decide +kernel
theorem dX6_pass_113 : decode cX6_pass 113 = .ok (.goto (-22), 3) := by decide +kernel
theorem dX6_pass_116 : decode cX6_pass 116 = .ok (.aload_n 0, 1) := by decide +kernel
theorem dX6_pass_117 : decode cX6_pass 117 = .ok (.getfield 89, 3) := by decide +kernel
theorem dX6_pass_120 : decode cX6_pass 120 = .ok (.ifCond .le 7, 3) := by decide +kernel
theorem dX6_pass_123 : decode cX6_pass 123 = .ok (.aload_n 0, 1) := by decide +kernel
theorem dX6_pass_124 : decode cX6_pass 124 = .ok (.invokevirtual 133, 3) := by decide +kernel
theorem dX6_pass_127 : decode cX6_pass 127 = .ok (.iconst 0, 1) := by decide +kernel
theorem dX6_pass_128 : decode cX6_pass 128 = .ok (.istore_n 3, 1) := by decide +kernel
theorem dX6_pass_129 : decode cX6_pass 129 = .ok (.iload_n 3, 1) := by decide +kernel
theorem dX6_pass_130 : decode cX6_pass 130 = .ok (.aload_n 0, 1) := by decide +kernel
theorem dX6_pass_131 : decode cX6_pass 131 = .ok (.getfield 29, 3) := by decide +kernel
theorem dX6_pass_134 : decode cX6_pass 134 = .ok (.if_icmp .ge 19, 3) := by decide +kernel
theorem dX6_pass_137 : decode cX6_pass 137 = .ok (.aload_n 0, 1) := by decide +kernel
theorem dX6_pass_138 : decode cX6_pass 138 = .ok (.getfield 48, 3) := by decide +kernel
theorem dX6_pass_141 : decode cX6_pass 141 = .ok (.iload_n 3, 1) := by decide +kernel
theorem dX6_pass_142 : decode cX6_pass 142 = .ok (.dup2, 1) := by decide +kernel
theorem dX6_pass_143 : decode cX6_pass 143 = .ok (.iaload, 1) := by decide +kernel
theorem dX6_pass_144 : decode cX6_pass 144 = .ok (.iconst 2, 1) := by decide +kernel
theorem dX6_pass_145 : decode cX6_pass 145 = .ok (.idiv, 1) := by decide +kernel
theorem dX6_pass_146 : decode cX6_pass 146 = .ok (.iastore, 1) := by decide +kernel
theorem dX6_pass_147 : decode cX6_pass 147 = .ok (.iinc 3 1, 3) := by decide +kernel
theorem dX6_pass_150 : decode cX6_pass 150 = .ok (.goto (-21), 3) := by decide +kernel
theorem dX6_pass_153 : decode cX6_pass 153 = .ok (.iinc 2 1, 3) := by decide +kernel
theorem dX6_pass_156 : decode cX6_pass 156 = .ok (.goto (-113), 3) := by decide +kernel
theorem dX6_pass_159 : decode cX6_pass 159 = .ok (.aload_n 0, 1) := by decide +kernel
theorem dX6_pass_160 : decode cX6_pass 160 = .ok (.getfield 127, 3) := by decide +kernel
theorem dX6_pass_163 : decode cX6_pass 163 = .ok (.ireturn, 1) := by decide +kernel
theorem dX6_hour_0 : decode cX6_hour 0 = .ok (.aload_n 0, 1) := by decide +kernel
theorem dX6_hour_1 : decode cX6_hour 1 = .ok (.iconst 0, 1) := by decide +kernel
theorem dX6_hour_2 : decode cX6_hour 2 = .ok (.putfield 51, 3) := by decide +kernel
theorem dX6_hour_5 : decode cX6_hour 5 = .ok (.aload_n 0, 1) := by decide +kernel
theorem dX6_hour_6 : decode cX6_hour 6 = .ok (.getfield 127, 3) := by decide +kernel
theorem dX6_hour_9 : decode cX6_hour 9 = .ok (.ireturn, 1) := by decide +kernel
theorem dX6_shards_0 : decode cX6_shards 0 = .ok (.aload_n 0, 1) := by decide +kernel
theorem dX6_shards_1 : decode cX6_shards 1 = .ok (.iconst 0, 1) := by decide +kernel
theorem dX6_shards_2 : decode cX6_shards 2 = .ok (.putfield 51, 3) := by decide +kernel
theorem dX6_shards_5 : decode cX6_shards 5 = .ok (.aload_n 0, 1) := by decide +kernel
theorem dX6_shards_6 : decode cX6_shards 6 = .ok (.getfield 29, 3) := by decide +kernel
theorem dX6_shards_9 : decode cX6_shards 9 = .ok (.ireturn, 1) := by decide +kernel
set_option maxRecDepth 20000 in
theorem ggX6_shardOf_X6_isKey : GoodIn wsX6_shardOf wsX6_isKey := goodIn_r _ [4, 5, 6, 3, 7] (by decide +kernel) (by decide +kernel)
set_option maxRecDepth 20000 in
theorem gX6_shardOf_X6_isKey : GoodIn wsX6_shardOf (va_wsS RX6 92 yX6_isKey wsX6_isKey) := goodIn_app (goodIn_of _ (by decide +kernel)) ggX6_shardOf_X6_isKey
set_option maxRecDepth 20000 in
theorem ggX6_shardOf_X6_refused : GoodIn wsX6_shardOf wsX6_refused := goodIn_r _ [11, 12, 18, 19, 20, 21, 22, 23, 24, 25, 26, 27, 28, 29, 30, 31, 32, 33, 34, 35, 36, 37] (by decide +kernel) (by decide +kernel)
set_option maxRecDepth 20000 in
theorem gX6_shardOf_X6_refused : GoodIn wsX6_shardOf (wsV RX6 75 RX6 yX6_refused wsX6_refused) := goodIn_app (goodIn_of _ (by decide +kernel)) ggX6_shardOf_X6_refused
set_option maxRecDepth 20000 in
theorem ggX6_shardOf_X6_shardAt : GoodIn wsX6_shardOf wsX6_shardAt := goodIn_r _ [16, 17, 18, 19, 20, 21, 22, 23, 24, 25, 26, 27, 28, 29, 30, 31, 32, 33, 34, 35, 36, 37] (by decide +kernel) (by decide +kernel)
set_option maxRecDepth 20000 in
theorem gX6_shardOf_X6_shardAt : GoodIn wsX6_shardOf (wsV RX6 95 RX6 yX6_shardAt wsX6_shardAt) := goodIn_app (goodIn_of _ (by decide +kernel)) ggX6_shardOf_X6_shardAt
theorem dX6_shardOf_0 : decode cX6_shardOf 0 = .ok (.aload_n 0, 1) := by decide +kernel
theorem dX6_shardOf_1 : decode cX6_shardOf 1 = .ok (.iload_n 1, 1) := by decide +kernel
theorem dX6_shardOf_2 : decode cX6_shardOf 2 = .ok (.invokestatic 92, 3) := by decide +kernel
theorem dX6_shardOf_5 : decode cX6_shardOf 5 = .ok (.ifCond .eq 7, 3) := by decide +kernel
theorem dX6_shardOf_8 : decode cX6_shardOf 8 = .ok (.iconst 0, 1) := by decide +kernel
theorem dX6_shardOf_9 : decode cX6_shardOf 9 = .ok (.goto 4, 3) := by decide +kernel
theorem dX6_shardOf_12 : decode cX6_shardOf 12 = .ok (.iconst 1, 1) := by decide +kernel
theorem dX6_shardOf_13 : decode cX6_shardOf 13 = .ok (.invokevirtual 75, 3) := by decide +kernel
theorem dX6_shardOf_16 : decode cX6_shardOf 16 = .ok (.ifCond .eq 7, 3) := by decide +kernel
theorem dX6_shardOf_19 : decode cX6_shardOf 19 = .ok (.iconst 0, 1) := by decide +kernel
theorem dX6_shardOf_20 : decode cX6_shardOf 20 = .ok (.goto 8, 3) := by decide +kernel
theorem dX6_shardOf_23 : decode cX6_shardOf 23 = .ok (.aload_n 0, 1) := by decide +kernel
theorem dX6_shardOf_24 : decode cX6_shardOf 24 = .ok (.iload_n 1, 1) := by decide +kernel
theorem dX6_shardOf_25 : decode cX6_shardOf 25 = .ok (.invokevirtual 95, 3) := by decide +kernel
theorem dX6_shardOf_28 : decode cX6_shardOf 28 = .ok (.ireturn, 1) := by decide +kernel
set_option maxRecDepth 20000 in
theorem ggX6_shard_X6_isShard : GoodIn wsX6_shard wsX6_isShard := goodIn_r _ [9, 10, 11, 12, 8, 13, 33, 34, 35, 36, 37, 38, 39, 40, 41, 42, 43, 44, 45, 46, 47, 48, 49, 50, 51, 52] (by decide +kernel) (by decide +kernel)
set_option maxRecDepth 20000 in
theorem gX6_shard_X6_isShard : GoodIn wsX6_shard (wsV RX6 115 RX6 yX6_isShard wsX6_isShard) := goodIn_app (goodIn_of _ (by decide +kernel)) ggX6_shard_X6_isShard
set_option maxRecDepth 20000 in
theorem ggX6_shard_X6_in : GoodIn wsX6_shard wsX6_in := goodIn_r _ [13] (by decide +kernel) (by decide +kernel)
set_option maxRecDepth 20000 in
theorem gX6_shard_X6_in : GoodIn wsX6_shard (va_wsS RX6 54 yX6_in wsX6_in) := goodIn_app (goodIn_of _ (by decide +kernel)) ggX6_shard_X6_in
set_option maxRecDepth 20000 in
theorem ggX6_shard_X6_refused : GoodIn wsX6_shard wsX6_refused := goodIn_r _ [17, 18, 33, 34, 35, 36, 37, 38, 39, 40, 41, 42, 43, 44, 45, 46, 47, 48, 49, 50, 51, 52] (by decide +kernel) (by decide +kernel)
set_option maxRecDepth 20000 in
theorem gX6_shard_X6_refused : GoodIn wsX6_shard (wsV RX6 75 RX6 yX6_refused wsX6_refused) := goodIn_app (goodIn_of _ (by decide +kernel)) ggX6_shard_X6_refused
set_option maxRecDepth 20000 in
theorem ggX6_shard_X6_sizeOf : GoodIn wsX6_shard wsX6_sizeOf := goodIn_r _ [22, 1, 23, 24, 25, 8, 26, 27, 33, 34, 35, 36, 37, 38, 39, 40, 41, 42, 43, 44, 45, 46, 47, 48, 49, 50, 51, 52] (by decide +kernel) (by decide +kernel)
set_option maxRecDepth 20000 in
theorem gX6_shard_X6_sizeOf : GoodIn wsX6_shard (wsV RX6 65 RX6 yX6_sizeOf wsX6_sizeOf) := goodIn_app (goodIn_of _ (by decide +kernel)) ggX6_shard_X6_sizeOf
set_option maxRecDepth 20000 in
theorem ggX6_shard_X6_copied : GoodIn wsX6_shard wsX6_copied := goodIn_r _ [31, 3, 1, 32, 23, 24, 25, 8, 26, 27, 33, 34, 35, 36, 37, 38, 39, 40, 41, 42, 43, 44, 45, 46, 47, 48, 49, 50, 51, 52] (by decide +kernel) (by decide +kernel)
set_option maxRecDepth 20000 in
theorem gX6_shard_X6_copied : GoodIn wsX6_shard (wsV RX6 69 RX6 yX6_copied wsX6_copied) := goodIn_app (goodIn_of _ (by decide +kernel)) ggX6_shard_X6_copied
theorem dX6_shard_0 : decode cX6_shard 0 = .ok (.aload_n 0, 1) := by decide +kernel
theorem dX6_shard_1 : decode cX6_shard 1 = .ok (.aload_n 0, 1) := by decide +kernel
theorem dX6_shard_2 : decode cX6_shard 2 = .ok (.iload_n 1, 1) := by decide +kernel
theorem dX6_shard_3 : decode cX6_shard 3 = .ok (.invokevirtual 115, 3) := by decide +kernel
theorem dX6_shard_6 : decode cX6_shard 6 = .ok (.ifCond .ne 7, 3) := by decide +kernel
theorem dX6_shard_9 : decode cX6_shard 9 = .ok (.iconst 1, 1) := by decide +kernel
theorem dX6_shard_10 : decode cX6_shard 10 = .ok (.goto 18, 3) := by decide +kernel
theorem dX6_shard_13 : decode cX6_shard 13 = .ok (.iload_n 2, 1) := by decide +kernel
theorem dX6_shard_14 : decode cX6_shard 14 = .ok (.iconst 0, 1) := by decide +kernel
theorem dX6_shard_15 : decode cX6_shard 15 = .ok (.bipush 6, 2) := by decide +kernel
theorem dX6_shard_17 : decode cX6_shard 17 = .ok (.invokestatic 54, 3) := by decide +kernel
theorem dX6_shard_20 : decode cX6_shard 20 = .ok (.ifCond .ne 7, 3) := by decide +kernel
theorem dX6_shard_23 : decode cX6_shard 23 = .ok (.iconst 2, 1) := by decide +kernel
theorem dX6_shard_24 : decode cX6_shard 24 = .ok (.goto 4, 3) := by decide +kernel
theorem dX6_shard_27 : decode cX6_shard 27 = .ok (.iconst 0, 1) := by decide +kernel
theorem dX6_shard_28 : decode cX6_shard 28 = .ok (.invokevirtual 75, 3) := by decide +kernel
theorem dX6_shard_31 : decode cX6_shard 31 = .ok (.ifCond .eq 5, 3) := by decide +kernel
theorem dX6_shard_34 : decode cX6_shard 34 = .ok (.iconst 0, 1) := by decide +kernel
theorem dX6_shard_35 : decode cX6_shard 35 = .ok (.ireturn, 1) := by decide +kernel
theorem dX6_shard_36 : decode cX6_shard 36 = .ok (.iload_n 2, 1) := by decide +kernel
theorem dX6_shard_37 : decode cX6_shard 37 = .ok (.tableswitch 83 0 5 #[39, 46, 57, 64, 71, 77], 39) := by decide +kernel
theorem dX6_shard_76 : decode cX6_shard 76 = .ok (.aload_n 0, 1) := by decide +kernel
theorem dX6_shard_77 : decode cX6_shard 77 = .ok (.getfield 33, 3) := by decide +kernel
theorem dX6_shard_80 : decode cX6_shard 80 = .ok (.iload_n 1, 1) := by decide +kernel
theorem dX6_shard_81 : decode cX6_shard 81 = .ok (.iaload, 1) := by decide +kernel
theorem dX6_shard_82 : decode cX6_shard 82 = .ok (.ireturn, 1) := by decide +kernel
theorem dX6_shard_83 : decode cX6_shard 83 = .ok (.aload_n 0, 1) := by decide +kernel
theorem dX6_shard_84 : decode cX6_shard 84 = .ok (.getfield 33, 3) := by decide +kernel
theorem dX6_shard_87 : decode cX6_shard 87 = .ok (.iload_n 1, 1) := by decide +kernel
theorem dX6_shard_88 : decode cX6_shard 88 = .ok (.iconst 1, 1) := by decide +kernel
theorem dX6_shard_89 : decode cX6_shard 89 = .ok (.iadd, 1) := by decide +kernel
theorem dX6_shard_90 : decode cX6_shard 90 = .ok (.iaload, 1) := by decide +kernel
theorem dX6_shard_91 : decode cX6_shard 91 = .ok (.iconst 1, 1) := by decide +kernel
theorem dX6_shard_92 : decode cX6_shard 92 = .ok (.isub, 1) := by decide +kernel
theorem dX6_shard_93 : decode cX6_shard 93 = .ok (.ireturn, 1) := by decide +kernel
theorem dX6_shard_94 : decode cX6_shard 94 = .ok (.aload_n 0, 1) := by decide +kernel
theorem dX6_shard_95 : decode cX6_shard 95 = .ok (.getfield 36, 3) := by decide +kernel
theorem dX6_shard_98 : decode cX6_shard 98 = .ok (.iload_n 1, 1) := by decide +kernel
theorem dX6_shard_99 : decode cX6_shard 99 = .ok (.iaload, 1) := by decide +kernel
theorem dX6_shard_100 : decode cX6_shard 100 = .ok (.ireturn, 1) := by decide +kernel
theorem dX6_shard_101 : decode cX6_shard 101 = .ok (.aload_n 0, 1) := by decide +kernel
theorem dX6_shard_102 : decode cX6_shard 102 = .ok (.getfield 39, 3) := by decide +kernel
theorem dX6_shard_105 : decode cX6_shard 105 = .ok (.iload_n 1, 1) := by decide +kernel
theorem dX6_shard_106 : decode cX6_shard 106 = .ok (.iaload, 1) := by decide +kernel
theorem dX6_shard_107 : decode cX6_shard 107 = .ok (.ireturn, 1) := by decide +kernel
theorem dX6_shard_108 : decode cX6_shard 108 = .ok (.aload_n 0, 1) := by decide +kernel
theorem dX6_shard_109 : decode cX6_shard 109 = .ok (.iload_n 1, 1) := by decide +kernel
theorem dX6_shard_110 : decode cX6_shard 110 = .ok (.invokevirtual 65, 3) := by decide +kernel
theorem dX6_shard_113 : decode cX6_shard 113 = .ok (.ireturn, 1) := by decide +kernel
theorem dX6_shard_114 : decode cX6_shard 114 = .ok (.aload_n 0, 1) := by decide +kernel
theorem dX6_shard_115 : decode cX6_shard 115 = .ok (.iload_n 1, 1) := by decide +kernel
theorem dX6_shard_116 : decode cX6_shard 116 = .ok (.invokevirtual 69, 3) := by decide +kernel
theorem dX6_shard_119 : decode cX6_shard 119 = .ok (.ireturn, 1) := by decide +kernel
theorem dX6_shard_120 : decode cX6_shard 120 = .ok (.aload_n 0, 1) := by decide +kernel
theorem dX6_shard_121 : decode cX6_shard 121 = .ok (.getfield 48, 3) := by decide +kernel
theorem dX6_shard_124 : decode cX6_shard 124 = .ok (.iload_n 1, 1) := by decide +kernel
theorem dX6_shard_125 : decode cX6_shard 125 = .ok (.iaload, 1) := by decide +kernel
theorem dX6_shard_126 : decode cX6_shard 126 = .ok (.ireturn, 1) := by decide +kernel
set_option maxRecDepth 20000 in
theorem ggX6_machineOf_X6_isMachine : GoodIn wsX6_machineOf wsX6_isMachine := goodIn_r _ [8, 9, 10, 11, 7, 12, 43, 44, 45, 46, 47, 48, 49, 50, 51, 52, 53, 54, 55, 56, 57, 58, 59, 60, 61, 62] (by decide +kernel) (by decide +kernel)
set_option maxRecDepth 20000 in
theorem gX6_machineOf_X6_isMachine : GoodIn wsX6_machineOf (wsV RX6 79 RX6 yX6_isMachine wsX6_isMachine) := goodIn_app (goodIn_of _ (by decide +kernel)) ggX6_machineOf_X6_isMachine
set_option maxRecDepth 20000 in
theorem ggX6_machineOf_X6_in : GoodIn wsX6_machineOf wsX6_in := goodIn_r _ [12] (by decide +kernel) (by decide +kernel)
set_option maxRecDepth 20000 in
theorem gX6_machineOf_X6_in : GoodIn wsX6_machineOf (va_wsS RX6 54 yX6_in wsX6_in) := goodIn_app (goodIn_of _ (by decide +kernel)) ggX6_machineOf_X6_in
set_option maxRecDepth 20000 in
theorem ggX6_machineOf_X6_refused : GoodIn wsX6_machineOf wsX6_refused := goodIn_r _ [16, 17, 43, 44, 45, 46, 47, 48, 49, 50, 51, 52, 53, 54, 55, 56, 57, 58, 59, 60, 61, 62] (by decide +kernel) (by decide +kernel)
set_option maxRecDepth 20000 in
theorem gX6_machineOf_X6_refused : GoodIn wsX6_machineOf (wsV RX6 75 RX6 yX6_refused wsX6_refused) := goodIn_app (goodIn_of _ (by decide +kernel)) ggX6_machineOf_X6_refused
set_option maxRecDepth 20000 in
theorem ggX6_machineOf_X6_held : GoodIn wsX6_machineOf wsX6_held := goodIn_r _ [21, 2, 3, 22, 23, 24, 25, 7, 26, 27, 28, 29, 30, 31, 32, 33, 34, 35, 36, 37, 43, 44, 45, 46, 47, 48, 49, 50, 51, 52, 53, 54, 55, 56, 57, 58, 59, 60, 61, 62] (by decide +kernel) (by decide +kernel)
set_option maxRecDepth 20000 in
theorem gX6_machineOf_X6_held : GoodIn wsX6_machineOf (wsV RX6 98 RX6 yX6_held wsX6_held) := goodIn_app (goodIn_of _ (by decide +kernel)) ggX6_machineOf_X6_held
set_option maxRecDepth 20000 in
theorem ggX6_machineOf_X6_heatOf : GoodIn wsX6_machineOf wsX6_heatOf := goodIn_r _ [41, 2, 3, 42, 43, 44, 45, 46, 47, 48, 49, 50, 51, 52, 53, 54, 55, 56, 57, 58, 59, 60, 61, 62] (by decide +kernel) (by decide +kernel)
set_option maxRecDepth 20000 in
theorem gX6_machineOf_X6_heatOf : GoodIn wsX6_machineOf (wsV RX6 124 RX6 yX6_heatOf wsX6_heatOf) := goodIn_app (goodIn_of _ (by decide +kernel)) ggX6_machineOf_X6_heatOf
theorem dX6_machineOf_0 : decode cX6_machineOf 0 = .ok (.aload_n 0, 1) := by decide +kernel
theorem dX6_machineOf_1 : decode cX6_machineOf 1 = .ok (.aload_n 0, 1) := by decide +kernel
theorem dX6_machineOf_2 : decode cX6_machineOf 2 = .ok (.iload_n 1, 1) := by decide +kernel
theorem dX6_machineOf_3 : decode cX6_machineOf 3 = .ok (.invokevirtual 79, 3) := by decide +kernel
theorem dX6_machineOf_6 : decode cX6_machineOf 6 = .ok (.ifCond .ne 7, 3) := by decide +kernel
theorem dX6_machineOf_9 : decode cX6_machineOf 9 = .ok (.iconst 1, 1) := by decide +kernel
theorem dX6_machineOf_10 : decode cX6_machineOf 10 = .ok (.goto 17, 3) := by decide +kernel
theorem dX6_machineOf_13 : decode cX6_machineOf 13 = .ok (.iload_n 2, 1) := by decide +kernel
theorem dX6_machineOf_14 : decode cX6_machineOf 14 = .ok (.iconst 0, 1) := by decide +kernel
theorem dX6_machineOf_15 : decode cX6_machineOf 15 = .ok (.iconst 3, 1) := by decide +kernel
theorem dX6_machineOf_16 : decode cX6_machineOf 16 = .ok (.invokestatic 54, 3) := by decide +kernel
theorem dX6_machineOf_19 : decode cX6_machineOf 19 = .ok (.ifCond .ne 7, 3) := by decide +kernel
theorem dX6_machineOf_22 : decode cX6_machineOf 22 = .ok (.iconst 2, 1) := by decide +kernel
theorem dX6_machineOf_23 : decode cX6_machineOf 23 = .ok (.goto 4, 3) := by decide +kernel
theorem dX6_machineOf_26 : decode cX6_machineOf 26 = .ok (.iconst 0, 1) := by decide +kernel
theorem dX6_machineOf_27 : decode cX6_machineOf 27 = .ok (.invokevirtual 75, 3) := by decide +kernel
theorem dX6_machineOf_30 : decode cX6_machineOf 30 = .ok (.ifCond .eq 5, 3) := by decide +kernel
theorem dX6_machineOf_33 : decode cX6_machineOf 33 = .ok (.iconst 0, 1) := by decide +kernel
theorem dX6_machineOf_34 : decode cX6_machineOf 34 = .ok (.ireturn, 1) := by decide +kernel
theorem dX6_machineOf_35 : decode cX6_machineOf 35 = .ok (.iload_n 2, 1) := by decide +kernel
theorem dX6_machineOf_36 : decode cX6_machineOf 36 = .ok (.iconst 2, 1) := by decide +kernel
theorem dX6_machineOf_37 : decode cX6_machineOf 37 = .ok (.if_icmp .ge 30, 3) := by decide +kernel
theorem dX6_machineOf_40 : decode cX6_machineOf 40 = .ok (.iload_n 2, 1) := by decide +kernel
theorem dX6_machineOf_41 : decode cX6_machineOf 41 = .ok (.ifCond .ne 11, 3) := by decide +kernel
theorem dX6_machineOf_44 : decode cX6_machineOf 44 = .ok (.aload_n 0, 1) := by decide +kernel
theorem dX6_machineOf_45 : decode cX6_machineOf 45 = .ok (.iload_n 1, 1) := by decide +kernel
theorem dX6_machineOf_46 : decode cX6_machineOf 46 = .ok (.invokevirtual 98, 3) := by decide +kernel
theorem dX6_machineOf_49 : decode cX6_machineOf 49 = .ok (.goto 17, 3) := by decide +kernel
theorem dX6_machineOf_52 : decode cX6_machineOf 52 = .ok (.aload_n 0, 1) := by decide +kernel
theorem dX6_machineOf_53 : decode cX6_machineOf 53 = .ok (.getfield 13, 3) := by decide +kernel
theorem dX6_machineOf_56 : decode cX6_machineOf 56 = .ok (.iload_n 1, 1) := by decide +kernel
theorem dX6_machineOf_57 : decode cX6_machineOf 57 = .ok (.baload, 1) := by decide +kernel
theorem dX6_machineOf_58 : decode cX6_machineOf 58 = .ok (.ifCond .eq 7, 3) := by decide +kernel
theorem dX6_machineOf_61 : decode cX6_machineOf 61 = .ok (.iconst 0, 1) := by decide +kernel
theorem dX6_machineOf_62 : decode cX6_machineOf 62 = .ok (.goto 4, 3) := by decide +kernel
theorem dX6_machineOf_65 : decode cX6_machineOf 65 = .ok (.iconst 1, 1) := by decide +kernel
theorem dX6_machineOf_66 : decode cX6_machineOf 66 = .ok (.ireturn, 1) := by decide +kernel
theorem dX6_machineOf_67 : decode cX6_machineOf 67 = .ok (.iconst 0, 1) := by decide +kernel
theorem dX6_machineOf_68 : decode cX6_machineOf 68 = .ok (.istore_n 3, 1) := by decide +kernel
theorem dX6_machineOf_69 : decode cX6_machineOf 69 = .ok (.iconst 0, 1) := by decide +kernel
theorem dX6_machineOf_70 : decode cX6_machineOf 70 = .ok (.istore 4, 2) := by decide +kernel
theorem dX6_machineOf_72 : decode cX6_machineOf 72 = .ok (.iload 4, 2) := by decide +kernel
theorem dX6_machineOf_74 : decode cX6_machineOf 74 = .ok (.aload_n 0, 1) := by decide +kernel
theorem dX6_machineOf_75 : decode cX6_machineOf 75 = .ok (.getfield 29, 3) := by decide +kernel
theorem dX6_machineOf_78 : decode cX6_machineOf 78 = .ok (.if_icmp .ge 28, 3) := by decide +kernel
theorem dX6_machineOf_81 : decode cX6_machineOf 81 = .ok (.iload_n 3, 1) := by decide +kernel
theorem dX6_machineOf_82 : decode cX6_machineOf 82 = .ok (.aload_n 0, 1) := by decide +kernel
theorem dX6_machineOf_83 : decode cX6_machineOf 83 = .ok (.getfield 36, 3) := by decide +kernel
theorem dX6_machineOf_86 : decode cX6_machineOf 86 = .ok (.iload 4, 2) := by decide +kernel
theorem dX6_machineOf_88 : decode cX6_machineOf 88 = .ok (.iaload, 1) := by decide +kernel
theorem dX6_machineOf_89 : decode cX6_machineOf 89 = .ok (.iload_n 1, 1) := by decide +kernel
theorem dX6_machineOf_90 : decode cX6_machineOf 90 = .ok (.if_icmp .ne 7, 3) := by decide +kernel
theorem dX6_machineOf_93 : decode cX6_machineOf 93 = .ok (.iconst 1, 1) := by decide +kernel
theorem dX6_machineOf_94 : decode cX6_machineOf 94 = .ok (.goto 4, 3) := by decide +kernel
theorem dX6_machineOf_97 : decode cX6_machineOf 97 = .ok (.iconst 0, 1) := by decide +kernel
theorem dX6_machineOf_98 : decode cX6_machineOf 98 = .ok (.iadd, 1) := by decide +kernel
theorem dX6_machineOf_99 : decode cX6_machineOf 99 = .ok (.istore_n 3, 1) := by decide +kernel
theorem dX6_machineOf_100 : decode cX6_machineOf 100 = .ok (.iinc 4 1, 3) := by decide +kernel
theorem dX6_machineOf_103 : decode cX6_machineOf 103 = .ok (.goto (-31), 3) := by decide +kernel
theorem dX6_machineOf_106 : decode cX6_machineOf 106 = .ok (.iload_n 2, 1) := by decide +kernel
theorem dX6_machineOf_107 : decode cX6_machineOf 107 = .ok (.iconst 2, 1) := by decide +kernel
theorem dX6_machineOf_108 : decode cX6_machineOf 108 = .ok (.if_icmp .ne 11, 3) := by decide +kernel
theorem dX6_machineOf_111 : decode cX6_machineOf 111 = .ok (.aload_n 0, 1) := by decide +kernel
theorem dX6_machineOf_112 : decode cX6_machineOf 112 = .ok (.iload_n 1, 1) := by decide +kernel
theorem dX6_machineOf_113 : decode cX6_machineOf 113 = .ok (.invokevirtual 124, 3) := by decide +kernel
theorem dX6_machineOf_116 : decode cX6_machineOf 116 = .ok (.goto 4, 3) := by decide +kernel
theorem dX6_machineOf_119 : decode cX6_machineOf 119 = .ok (.iload_n 3, 1) := by decide +kernel
theorem dX6_machineOf_120 : decode cX6_machineOf 120 = .ok (.ireturn, 1) := by decide +kernel
set_option maxRecDepth 20000 in
theorem ggX6_tenant_X6_isTenant : GoodIn wsX6_tenant wsX6_isTenant := goodIn_r _ [6, 7, 8, 5, 9] (by decide +kernel) (by decide +kernel)
set_option maxRecDepth 20000 in
theorem gX6_tenant_X6_isTenant : GoodIn wsX6_tenant (va_wsS RX6 86 yX6_isTenant wsX6_isTenant) := goodIn_app (goodIn_of _ (by decide +kernel)) ggX6_tenant_X6_isTenant
set_option maxRecDepth 20000 in
theorem ggX6_tenant_X6_in : GoodIn wsX6_tenant wsX6_in := goodIn_r _ [9] (by decide +kernel) (by decide +kernel)
set_option maxRecDepth 20000 in
theorem gX6_tenant_X6_in : GoodIn wsX6_tenant (va_wsS RX6 54 yX6_in wsX6_in) := goodIn_app (goodIn_of _ (by decide +kernel)) ggX6_tenant_X6_in
set_option maxRecDepth 20000 in
theorem ggX6_tenant_X6_refused : GoodIn wsX6_tenant wsX6_refused := goodIn_r _ [13, 14, 21, 22, 23, 24, 25, 26, 27, 28, 29, 30, 31, 32, 33, 34, 35, 36, 37, 38, 39, 40] (by decide +kernel) (by decide +kernel)
set_option maxRecDepth 20000 in
theorem gX6_tenant_X6_refused : GoodIn wsX6_tenant (wsV RX6 75 RX6 yX6_refused wsX6_refused) := goodIn_app (goodIn_of _ (by decide +kernel)) ggX6_tenant_X6_refused
set_option maxRecDepth 20000 in
theorem ggX6_tenant_X6_bytesOf : GoodIn wsX6_tenant wsX6_bytesOf := goodIn_r _ [18, 19, 20, 21, 22, 23, 24, 25, 26, 27, 28, 29, 30, 31, 32, 33, 34, 35, 36, 37, 38, 39, 40] (by decide +kernel) (by decide +kernel)
set_option maxRecDepth 20000 in
theorem gX6_tenant_X6_bytesOf : GoodIn wsX6_tenant (wsV RX6 101 RX6 yX6_bytesOf wsX6_bytesOf) := goodIn_app (goodIn_of _ (by decide +kernel)) ggX6_tenant_X6_bytesOf
theorem dX6_tenant_0 : decode cX6_tenant 0 = .ok (.aload_n 0, 1) := by decide +kernel
theorem dX6_tenant_1 : decode cX6_tenant 1 = .ok (.iload_n 1, 1) := by decide +kernel
theorem dX6_tenant_2 : decode cX6_tenant 2 = .ok (.invokestatic 86, 3) := by decide +kernel
theorem dX6_tenant_5 : decode cX6_tenant 5 = .ok (.ifCond .ne 7, 3) := by decide +kernel
theorem dX6_tenant_8 : decode cX6_tenant 8 = .ok (.iconst 1, 1) := by decide +kernel
theorem dX6_tenant_9 : decode cX6_tenant 9 = .ok (.goto 17, 3) := by decide +kernel
theorem dX6_tenant_12 : decode cX6_tenant 12 = .ok (.iload_n 2, 1) := by decide +kernel
theorem dX6_tenant_13 : decode cX6_tenant 13 = .ok (.iconst 0, 1) := by decide +kernel
theorem dX6_tenant_14 : decode cX6_tenant 14 = .ok (.iconst 2, 1) := by decide +kernel
theorem dX6_tenant_15 : decode cX6_tenant 15 = .ok (.invokestatic 54, 3) := by decide +kernel
theorem dX6_tenant_18 : decode cX6_tenant 18 = .ok (.ifCond .ne 7, 3) := by decide +kernel
theorem dX6_tenant_21 : decode cX6_tenant 21 = .ok (.iconst 2, 1) := by decide +kernel
theorem dX6_tenant_22 : decode cX6_tenant 22 = .ok (.goto 4, 3) := by decide +kernel
theorem dX6_tenant_25 : decode cX6_tenant 25 = .ok (.iconst 0, 1) := by decide +kernel
theorem dX6_tenant_26 : decode cX6_tenant 26 = .ok (.invokevirtual 75, 3) := by decide +kernel
theorem dX6_tenant_29 : decode cX6_tenant 29 = .ok (.ifCond .eq 5, 3) := by decide +kernel
theorem dX6_tenant_32 : decode cX6_tenant 32 = .ok (.iconst 0, 1) := by decide +kernel
theorem dX6_tenant_33 : decode cX6_tenant 33 = .ok (.ireturn, 1) := by decide +kernel
theorem dX6_tenant_34 : decode cX6_tenant 34 = .ok (.iload_n 2, 1) := by decide +kernel
theorem dX6_tenant_35 : decode cX6_tenant 35 = .ok (.ifCond .ne 11, 3) := by decide +kernel
theorem dX6_tenant_38 : decode cX6_tenant 38 = .ok (.aload_n 0, 1) := by decide +kernel
theorem dX6_tenant_39 : decode cX6_tenant 39 = .ok (.iload_n 1, 1) := by decide +kernel
theorem dX6_tenant_40 : decode cX6_tenant 40 = .ok (.invokevirtual 101, 3) := by decide +kernel
theorem dX6_tenant_43 : decode cX6_tenant 43 = .ok (.goto 23, 3) := by decide +kernel
theorem dX6_tenant_46 : decode cX6_tenant 46 = .ok (.iload_n 2, 1) := by decide +kernel
theorem dX6_tenant_47 : decode cX6_tenant 47 = .ok (.iconst 1, 1) := by decide +kernel
theorem dX6_tenant_48 : decode cX6_tenant 48 = .ok (.if_icmp .ne 12, 3) := by decide +kernel
theorem dX6_tenant_51 : decode cX6_tenant 51 = .ok (.aload_n 0, 1) := by decide +kernel
theorem dX6_tenant_52 : decode cX6_tenant 52 = .ok (.getfield 17, 3) := by decide +kernel
theorem dX6_tenant_55 : decode cX6_tenant 55 = .ok (.iload_n 1, 1) := by decide +kernel
theorem dX6_tenant_56 : decode cX6_tenant 56 = .ok (.iaload, 1) := by decide +kernel
theorem dX6_tenant_57 : decode cX6_tenant 57 = .ok (.goto 9, 3) := by decide +kernel
theorem dX6_tenant_60 : decode cX6_tenant 60 = .ok (.aload_n 0, 1) := by decide +kernel
theorem dX6_tenant_61 : decode cX6_tenant 61 = .ok (.getfield 20, 3) := by decide +kernel
theorem dX6_tenant_64 : decode cX6_tenant 64 = .ok (.iload_n 1, 1) := by decide +kernel
theorem dX6_tenant_65 : decode cX6_tenant 65 = .ok (.iaload, 1) := by decide +kernel
theorem dX6_tenant_66 : decode cX6_tenant 66 = .ok (.ireturn, 1) := by decide +kernel
set_option maxRecDepth 20000 in
theorem ggX6_billAnew_X6_isTenant : GoodIn wsX6_billAnew wsX6_isTenant := goodIn_r _ [5, 6, 7, 4, 8] (by decide +kernel) (by decide +kernel)
set_option maxRecDepth 20000 in
theorem gX6_billAnew_X6_isTenant : GoodIn wsX6_billAnew (va_wsS RX6 86 yX6_isTenant wsX6_isTenant) := goodIn_app (goodIn_of _ (by decide +kernel)) ggX6_billAnew_X6_isTenant
set_option maxRecDepth 20000 in
theorem ggX6_billAnew_X6_refused : GoodIn wsX6_billAnew wsX6_refused := goodIn_r _ [12, 13, 14, 15, 16, 17, 18, 19, 20, 21, 22, 23, 24, 25, 26, 27, 28, 29, 30, 31, 32, 33] (by decide +kernel) (by decide +kernel)
set_option maxRecDepth 20000 in
theorem gX6_billAnew_X6_refused : GoodIn wsX6_billAnew (wsV RX6 75 RX6 yX6_refused wsX6_refused) := goodIn_app (goodIn_of _ (by decide +kernel)) ggX6_billAnew_X6_refused
theorem dX6_billAnew_0 : decode cX6_billAnew 0 = .ok (.aload_n 0, 1) := by decide +kernel
theorem dX6_billAnew_1 : decode cX6_billAnew 1 = .ok (.iload_n 1, 1) := by decide +kernel
theorem dX6_billAnew_2 : decode cX6_billAnew 2 = .ok (.invokestatic 86, 3) := by decide +kernel
theorem dX6_billAnew_5 : decode cX6_billAnew 5 = .ok (.ifCond .eq 7, 3) := by decide +kernel
theorem dX6_billAnew_8 : decode cX6_billAnew 8 = .ok (.iconst 0, 1) := by decide +kernel
theorem dX6_billAnew_9 : decode cX6_billAnew 9 = .ok (.goto 4, 3) := by decide +kernel
theorem dX6_billAnew_12 : decode cX6_billAnew 12 = .ok (.iconst 1, 1) := by decide +kernel
theorem dX6_billAnew_13 : decode cX6_billAnew 13 = .ok (.invokevirtual 75, 3) := by decide +kernel
theorem dX6_billAnew_16 : decode cX6_billAnew 16 = .ok (.ifCond .eq 7, 3) := by decide +kernel
theorem dX6_billAnew_19 : decode cX6_billAnew 19 = .ok (.iconst 0, 1) := by decide +kernel
theorem dX6_billAnew_20 : decode cX6_billAnew 20 = .ok (.goto 9, 3) := by decide +kernel
theorem dX6_billAnew_23 : decode cX6_billAnew 23 = .ok (.aload_n 0, 1) := by decide +kernel
theorem dX6_billAnew_24 : decode cX6_billAnew 24 = .ok (.getfield 20, 3) := by decide +kernel
theorem dX6_billAnew_27 : decode cX6_billAnew 27 = .ok (.iload_n 1, 1) := by decide +kernel
theorem dX6_billAnew_28 : decode cX6_billAnew 28 = .ok (.iaload, 1) := by decide +kernel
theorem dX6_billAnew_29 : decode cX6_billAnew 29 = .ok (.ireturn, 1) := by decide +kernel
set_option maxRecDepth 20000 in
theorem ggX6_whereAnew_X6_isKey : GoodIn wsX6_whereAnew wsX6_isKey := goodIn_r _ [5, 6, 7, 4, 8] (by decide +kernel) (by decide +kernel)
set_option maxRecDepth 20000 in
theorem gX6_whereAnew_X6_isKey : GoodIn wsX6_whereAnew (va_wsS RX6 92 yX6_isKey wsX6_isKey) := goodIn_app (goodIn_of _ (by decide +kernel)) ggX6_whereAnew_X6_isKey
set_option maxRecDepth 20000 in
theorem ggX6_whereAnew_X6_refused : GoodIn wsX6_whereAnew wsX6_refused := goodIn_r _ [12, 13, 19, 20, 21, 22, 23, 24, 25, 26, 27, 28, 29, 30, 31, 32, 33, 34, 35, 36, 37, 38] (by decide +kernel) (by decide +kernel)
set_option maxRecDepth 20000 in
theorem gX6_whereAnew_X6_refused : GoodIn wsX6_whereAnew (wsV RX6 75 RX6 yX6_refused wsX6_refused) := goodIn_app (goodIn_of _ (by decide +kernel)) ggX6_whereAnew_X6_refused
set_option maxRecDepth 20000 in
theorem ggX6_whereAnew_X6_shardAt : GoodIn wsX6_whereAnew wsX6_shardAt := goodIn_r _ [17, 18, 19, 20, 21, 22, 23, 24, 25, 26, 27, 28, 29, 30, 31, 32, 33, 34, 35, 36, 37, 38] (by decide +kernel) (by decide +kernel)
set_option maxRecDepth 20000 in
theorem gX6_whereAnew_X6_shardAt : GoodIn wsX6_whereAnew (wsV RX6 95 RX6 yX6_shardAt wsX6_shardAt) := goodIn_app (goodIn_of _ (by decide +kernel)) ggX6_whereAnew_X6_shardAt
theorem dX6_whereAnew_0 : decode cX6_whereAnew 0 = .ok (.aload_n 0, 1) := by decide +kernel
theorem dX6_whereAnew_1 : decode cX6_whereAnew 1 = .ok (.iload_n 1, 1) := by decide +kernel
theorem dX6_whereAnew_2 : decode cX6_whereAnew 2 = .ok (.invokestatic 92, 3) := by decide +kernel
theorem dX6_whereAnew_5 : decode cX6_whereAnew 5 = .ok (.ifCond .eq 7, 3) := by decide +kernel
theorem dX6_whereAnew_8 : decode cX6_whereAnew 8 = .ok (.iconst 0, 1) := by decide +kernel
theorem dX6_whereAnew_9 : decode cX6_whereAnew 9 = .ok (.goto 4, 3) := by decide +kernel
theorem dX6_whereAnew_12 : decode cX6_whereAnew 12 = .ok (.iconst 1, 1) := by decide +kernel
theorem dX6_whereAnew_13 : decode cX6_whereAnew 13 = .ok (.invokevirtual 75, 3) := by decide +kernel
theorem dX6_whereAnew_16 : decode cX6_whereAnew 16 = .ok (.ifCond .eq 7, 3) := by decide +kernel
theorem dX6_whereAnew_19 : decode cX6_whereAnew 19 = .ok (.iconst 0, 1) := by decide +kernel
theorem dX6_whereAnew_20 : decode cX6_whereAnew 20 = .ok (.goto 13, 3) := by decide +kernel
theorem dX6_whereAnew_23 : decode cX6_whereAnew 23 = .ok (.aload_n 0, 1) := by decide +kernel
theorem dX6_whereAnew_24 : decode cX6_whereAnew 24 = .ok (.getfield 36, 3) := by decide +kernel
theorem dX6_whereAnew_27 : decode cX6_whereAnew 27 = .ok (.aload_n 0, 1) := by decide +kernel
theorem dX6_whereAnew_28 : decode cX6_whereAnew 28 = .ok (.iload_n 1, 1) := by decide +kernel
theorem dX6_whereAnew_29 : decode cX6_whereAnew 29 = .ok (.invokevirtual 95, 3) := by decide +kernel
theorem dX6_whereAnew_32 : decode cX6_whereAnew 32 = .ok (.iaload, 1) := by decide +kernel
theorem dX6_whereAnew_33 : decode cX6_whereAnew 33 = .ok (.ireturn, 1) := by decide +kernel
theorem dX6_moves_0 : decode cX6_moves 0 = .ok (.aload_n 0, 1) := by decide +kernel
theorem dX6_moves_1 : decode cX6_moves 1 = .ok (.iconst 0, 1) := by decide +kernel
theorem dX6_moves_2 : decode cX6_moves 2 = .ok (.putfield 51, 3) := by decide +kernel
theorem dX6_moves_5 : decode cX6_moves 5 = .ok (.iload_n 1, 1) := by decide +kernel
theorem dX6_moves_6 : decode cX6_moves 6 = .ok (.ifCond .eq 10, 3) := by decide +kernel
theorem dX6_moves_9 : decode cX6_moves 9 = .ok (.aload_n 0, 1) := by decide +kernel
theorem dX6_moves_10 : decode cX6_moves 10 = .ok (.getfield 121, 3) := by decide +kernel
theorem dX6_moves_13 : decode cX6_moves 13 = .ok (.goto 7, 3) := by decide +kernel
theorem dX6_moves_16 : decode cX6_moves 16 = .ok (.aload_n 0, 1) := by decide +kernel
theorem dX6_moves_17 : decode cX6_moves 17 = .ok (.getfield 72, 3) := by decide +kernel
theorem dX6_moves_20 : decode cX6_moves 20 = .ok (.ireturn, 1) := by decide +kernel
set_option maxRecDepth 20000 in
theorem ggL_machine_X5_machine : GoodIn wsL_machine wsX5_machine := goodIn_ca (goodIn_ca (goodIn_r _ [7, 8, 9, 10, 11, 12, 13, 14, 15, 16, 6, 17, 18, 19, 20, 21, 22, 23, 24, 25, 26, 27, 28, 29, 30, 31, 32, 33, 34, 35, 36, 37, 38, 39, 40, 41, 42, 43, 44, 45, 46, 47] (by decide +kernel) (by decide +kernel)) (goodIn_sub (fun _ h => List.mem_cons_of_mem _ (List.mem_append_left _ (List.mem_append_right _ h))) (by decide +kernel))) (goodIn_sub (fun _ h => List.mem_cons_of_mem _ (List.mem_append_right _ h)) (by decide +kernel))
set_option maxRecDepth 20000 in
theorem gL_machine_X5_machine : GoodIn wsL_machine (wsV RL 7 RX5 yX5_machine wsX5_machine) := goodIn_app (goodIn_of _ (by decide +kernel)) ggL_machine_X5_machine
theorem dL_machine_0 : decode cL_machine 0 = .ok (.aload_n 2, 1) := by decide +kernel
theorem dL_machine_1 : decode cL_machine 1 = .ok (.iconst 0, 1) := by decide +kernel
theorem dL_machine_2 : decode cL_machine 2 = .ok (.aload_n 0, 1) := by decide +kernel
theorem dL_machine_3 : decode cL_machine 3 = .ok (.iload_n 1, 1) := by decide +kernel
theorem dL_machine_4 : decode cL_machine 4 = .ok (.invokevirtual 7, 3) := by decide +kernel
theorem dL_machine_7 : decode cL_machine 7 = .ok (.i2l, 1) := by decide +kernel
theorem dL_machine_8 : decode cL_machine 8 = .ok (.lastore, 1) := by decide +kernel
theorem dL_machine_9 : decode cL_machine 9 = .ok (.goto 9, 3) := by decide +kernel
theorem dL_machine_12 : decode cL_machine 12 = .ok (.astore_n 3, 1) := by decide +kernel
theorem dL_machine_13 : decode cL_machine 13 = .ok (.iconst 1, 1) := by decide +kernel
theorem dL_machine_14 : decode cL_machine 14 = .ok (.ireturn, 1) := by decide +kernel
theorem dL_machine_15 : decode cL_machine 15 = .ok (.astore_n 3, 1) := by decide +kernel
theorem dL_machine_16 : decode cL_machine 16 = .ok (.iconst 2, 1) := by decide +kernel
theorem dL_machine_17 : decode cL_machine 17 = .ok (.ireturn, 1) := by decide +kernel
theorem dL_machine_18 : decode cL_machine 18 = .ok (.iconst 0, 1) := by decide +kernel
theorem dL_machine_19 : decode cL_machine 19 = .ok (.ireturn, 1) := by decide +kernel
set_option maxRecDepth 20000 in
theorem ggL_down_X5_down : GoodIn wsL_down wsX5_down := goodIn_ca (goodIn_r _ [6, 7, 8, 9, 10, 11, 12, 5, 13, 14, 15, 16, 17, 18, 19, 20, 21, 22, 23, 24, 25, 26, 27, 28, 29, 30, 31, 32, 33, 34, 35, 36, 37, 38, 39, 40, 41, 42, 43, 44, 45, 46, 47, 48, 49, 50, 51, 52, 53, 54, 55, 56, 57, 58, 59, 60, 61, 62, 63, 64, 65, 66] (by decide +kernel) (by decide +kernel)) (goodIn_sub (fun _ h => List.mem_cons_of_mem _ (List.mem_append_right _ h)) (by decide +kernel))
set_option maxRecDepth 20000 in
theorem gL_down_X5_down : GoodIn wsL_down (wsV RL 17 RX5 yX5_down wsX5_down) := goodIn_app (goodIn_of _ (by decide +kernel)) ggL_down_X5_down
theorem dL_down_0 : decode cL_down 0 = .ok (.aload_n 3, 1) := by decide +kernel
theorem dL_down_1 : decode cL_down 1 = .ok (.iconst 0, 1) := by decide +kernel
theorem dL_down_2 : decode cL_down 2 = .ok (.aload_n 0, 1) := by decide +kernel
theorem dL_down_3 : decode cL_down 3 = .ok (.iload_n 1, 1) := by decide +kernel
theorem dL_down_4 : decode cL_down 4 = .ok (.iload_n 2, 1) := by decide +kernel
theorem dL_down_5 : decode cL_down 5 = .ok (.invokevirtual 17, 3) := by decide +kernel
theorem dL_down_8 : decode cL_down 8 = .ok (.ifCond .eq 7, 3) := by decide +kernel
theorem dL_down_11 : decode cL_down 11 = .ok (.lconst 1, 1) := by decide +kernel
theorem dL_down_12 : decode cL_down 12 = .ok (.goto 4, 3) := by decide +kernel
theorem dL_down_15 : decode cL_down 15 = .ok (.lconst 0, 1) := by decide +kernel
theorem dL_down_16 : decode cL_down 16 = .ok (.lastore, 1) := by decide +kernel
theorem dL_down_17 : decode cL_down 17 = .ok (.goto 7, 3) := by decide +kernel
theorem dL_down_20 : decode cL_down 20 = .ok (.astore 4, 2) := by decide +kernel
theorem dL_down_22 : decode cL_down 22 = .ok (.iconst 1, 1) := by decide +kernel
theorem dL_down_23 : decode cL_down 23 = .ok (.ireturn, 1) := by decide +kernel
theorem dL_down_24 : decode cL_down 24 = .ok (.iconst 0, 1) := by decide +kernel
theorem dL_down_25 : decode cL_down 25 = .ok (.ireturn, 1) := by decide +kernel
set_option maxRecDepth 20000 in
theorem ggL_quota_X5_quota : GoodIn wsL_quota wsX5_quota := goodIn_ca (goodIn_ca (goodIn_r _ [7, 8, 9, 10, 11, 12, 13, 14, 15, 6, 16, 17, 18, 19, 20, 21, 22, 23, 24, 25, 26, 27, 28, 29, 30, 31, 32, 33, 34] (by decide +kernel) (by decide +kernel)) (goodIn_sub (fun _ h => List.mem_cons_of_mem _ (List.mem_append_left _ (List.mem_append_right _ h))) (by decide +kernel))) (goodIn_sub (fun _ h => List.mem_cons_of_mem _ (List.mem_append_right _ h)) (by decide +kernel))
set_option maxRecDepth 20000 in
theorem gL_quota_X5_quota : GoodIn wsL_quota (wsV RL 23 RX5 yX5_quota wsX5_quota) := goodIn_app (goodIn_of _ (by decide +kernel)) ggL_quota_X5_quota
theorem dL_quota_0 : decode cL_quota 0 = .ok (.aload_n 3, 1) := by decide +kernel
theorem dL_quota_1 : decode cL_quota 1 = .ok (.iconst 0, 1) := by decide +kernel
theorem dL_quota_2 : decode cL_quota 2 = .ok (.aload_n 0, 1) := by decide +kernel
theorem dL_quota_3 : decode cL_quota 3 = .ok (.iload_n 1, 1) := by decide +kernel
theorem dL_quota_4 : decode cL_quota 4 = .ok (.iload_n 2, 1) := by decide +kernel
theorem dL_quota_5 : decode cL_quota 5 = .ok (.invokevirtual 23, 3) := by decide +kernel
theorem dL_quota_8 : decode cL_quota 8 = .ok (.i2l, 1) := by decide +kernel
theorem dL_quota_9 : decode cL_quota 9 = .ok (.lastore, 1) := by decide +kernel
theorem dL_quota_10 : decode cL_quota 10 = .ok (.goto 11, 3) := by decide +kernel
theorem dL_quota_13 : decode cL_quota 13 = .ok (.astore 4, 2) := by decide +kernel
theorem dL_quota_15 : decode cL_quota 15 = .ok (.iconst 1, 1) := by decide +kernel
theorem dL_quota_16 : decode cL_quota 16 = .ok (.ireturn, 1) := by decide +kernel
theorem dL_quota_17 : decode cL_quota 17 = .ok (.astore 4, 2) := by decide +kernel
theorem dL_quota_19 : decode cL_quota 19 = .ok (.iconst 2, 1) := by decide +kernel
theorem dL_quota_20 : decode cL_quota 20 = .ok (.ireturn, 1) := by decide +kernel
theorem dL_quota_21 : decode cL_quota 21 = .ok (.iconst 0, 1) := by decide +kernel
theorem dL_quota_22 : decode cL_quota 22 = .ok (.ireturn, 1) := by decide +kernel
set_option maxRecDepth 20000 in
theorem ggL_limit_X5_limit : GoodIn wsL_limit wsX5_limit := goodIn_ca (goodIn_r _ [6, 7, 8, 9, 10, 11, 12, 13, 14, 15, 16, 17, 18, 19, 20, 21, 22, 23, 24] (by decide +kernel) (by decide +kernel)) (goodIn_sub (fun _ h => List.mem_cons_of_mem _ (List.mem_append_right _ h)) (by decide +kernel))
set_option maxRecDepth 20000 in
theorem gL_limit_X5_limit : GoodIn wsL_limit (wsV RL 27 RX5 yX5_limit wsX5_limit) := goodIn_app (goodIn_of _ (by decide +kernel)) ggL_limit_X5_limit
theorem dL_limit_0 : decode cL_limit 0 = .ok (.aload_n 2, 1) := by decide +kernel
theorem dL_limit_1 : decode cL_limit 1 = .ok (.iconst 0, 1) := by decide +kernel
theorem dL_limit_2 : decode cL_limit 2 = .ok (.aload_n 0, 1) := by decide +kernel
theorem dL_limit_3 : decode cL_limit 3 = .ok (.iload_n 1, 1) := by decide +kernel
theorem dL_limit_4 : decode cL_limit 4 = .ok (.invokevirtual 27, 3) := by decide +kernel
theorem dL_limit_7 : decode cL_limit 7 = .ok (.i2l, 1) := by decide +kernel
theorem dL_limit_8 : decode cL_limit 8 = .ok (.lastore, 1) := by decide +kernel
theorem dL_limit_9 : decode cL_limit 9 = .ok (.goto 6, 3) := by decide +kernel
theorem dL_limit_12 : decode cL_limit 12 = .ok (.astore_n 3, 1) := by decide +kernel
theorem dL_limit_13 : decode cL_limit 13 = .ok (.iconst 1, 1) := by decide +kernel
theorem dL_limit_14 : decode cL_limit 14 = .ok (.ireturn, 1) := by decide +kernel
theorem dL_limit_15 : decode cL_limit 15 = .ok (.iconst 0, 1) := by decide +kernel
theorem dL_limit_16 : decode cL_limit 16 = .ok (.ireturn, 1) := by decide +kernel
set_option maxRecDepth 20000 in
theorem ggL_write_X5_write : GoodIn wsL_write wsX5_write := goodIn_ca (goodIn_ca (goodIn_ca (goodIn_r _ [8, 9, 10, 11, 12, 13, 14, 15, 16, 17, 18, 19, 20, 7, 21, 22, 23, 24, 25, 26, 27, 28, 29, 30, 31, 32, 33, 34, 35, 36, 37, 38, 39, 40, 41, 42, 43, 44, 45, 46, 47, 48, 49, 50, 51, 52, 53, 54, 55, 56, 57, 58, 59, 60, 61, 62, 63, 64, 65, 66, 67, 68, 69, 70, 71, 72, 73, 74, 75, 76, 77, 78, 79, 80, 81, 82, 83, 84, 85, 86, 87, 88, 89, 90, 91, 92, 93, 94, 95, 96, 97, 98, 99, 100, 101, 102, 103, 104, 105, 106, 107, 108, 109, 110, 111, 112, 113, 114, 115, 116, 117, 118, 119, 120, 121, 122, 123, 124, 125, 126, 127, 128, 129, 130, 131, 132, 133, 134, 135, 136, 137, 138, 139] (by decide +kernel) (by decide +kernel)) (goodIn_sub (fun _ h => List.mem_cons_of_mem _ (List.mem_append_left _ (List.mem_append_left _ (List.mem_append_right _ h)))) (by decide +kernel))) (goodIn_sub (fun _ h => List.mem_cons_of_mem _ (List.mem_append_left _ (List.mem_append_right _ h))) (by decide +kernel))) (goodIn_sub (fun _ h => List.mem_cons_of_mem _ (List.mem_append_right _ h)) (by decide +kernel))
set_option maxRecDepth 20000 in
theorem gL_write_X5_write : GoodIn wsL_write (wsV RL 30 RX5 yX5_write wsX5_write) := goodIn_app (goodIn_of _ (by decide +kernel)) ggL_write_X5_write
theorem dL_write_0 : decode cL_write 0 = .ok (.aload 4, 2) := by decide +kernel
theorem dL_write_2 : decode cL_write 2 = .ok (.iconst 0, 1) := by decide +kernel
theorem dL_write_3 : decode cL_write 3 = .ok (.aload_n 0, 1) := by decide +kernel
theorem dL_write_4 : decode cL_write 4 = .ok (.iload_n 1, 1) := by decide +kernel
theorem dL_write_5 : decode cL_write 5 = .ok (.iload_n 2, 1) := by decide +kernel
theorem dL_write_6 : decode cL_write 6 = .ok (.iload_n 3, 1) := by decide +kernel
theorem dL_write_7 : decode cL_write 7 = .ok (.invokevirtual 30, 3) := by decide +kernel
theorem dL_write_10 : decode cL_write 10 = .ok (.i2l, 1) := by decide +kernel
theorem dL_write_11 : decode cL_write 11 = .ok (.lastore, 1) := by decide +kernel
theorem dL_write_12 : decode cL_write 12 = .ok (.goto 15, 3) := by decide +kernel
theorem dL_write_15 : decode cL_write 15 = .ok (.astore 5, 2) := by decide +kernel
theorem dL_write_17 : decode cL_write 17 = .ok (.iconst 1, 1) := by decide +kernel
theorem dL_write_18 : decode cL_write 18 = .ok (.ireturn, 1) := by decide +kernel
theorem dL_write_19 : decode cL_write 19 = .ok (.astore 5, 2) := by decide +kernel
theorem dL_write_21 : decode cL_write 21 = .ok (.iconst 2, 1) := by decide +kernel
theorem dL_write_22 : decode cL_write 22 = .ok (.ireturn, 1) := by decide +kernel
theorem dL_write_23 : decode cL_write 23 = .ok (.astore 5, 2) := by decide +kernel
theorem dL_write_25 : decode cL_write 25 = .ok (.iconst 3, 1) := by decide +kernel
theorem dL_write_26 : decode cL_write 26 = .ok (.ireturn, 1) := by decide +kernel
theorem dL_write_27 : decode cL_write 27 = .ok (.iconst 0, 1) := by decide +kernel
theorem dL_write_28 : decode cL_write 28 = .ok (.ireturn, 1) := by decide +kernel
set_option maxRecDepth 20000 in
theorem ggL_take_X5_take : GoodIn wsL_take wsX5_take := goodIn_ca (goodIn_ca (goodIn_r _ [7, 8, 9, 10, 11, 12, 13, 14, 15, 16, 6, 17, 18, 19, 20, 21, 22, 23, 24, 25, 26, 27, 28, 29, 30, 31, 32, 33, 34, 35, 36, 37, 38, 39, 40, 41, 42, 43, 44, 45, 46, 47, 48, 49, 50, 51, 52, 53, 54, 55, 56, 57, 58, 59, 60, 61, 62, 63, 64, 65, 66, 67, 68, 69, 70, 71, 72, 73, 74, 75, 76, 77, 78, 79, 80, 81, 82, 83, 84, 85, 86, 87, 88, 89, 90, 91, 92, 93, 94, 95, 96, 97, 98, 99, 100, 101, 102, 103, 104, 105, 106, 107, 108, 109, 110, 111, 112, 113, 114, 115, 116, 117, 118, 119, 120, 121, 122, 123, 124, 125, 126, 127, 128, 129, 130, 131, 132] (by decide +kernel) (by decide +kernel)) (goodIn_sub (fun _ h => List.mem_cons_of_mem _ (List.mem_append_left _ (List.mem_append_right _ h))) (by decide +kernel))) (goodIn_sub (fun _ h => List.mem_cons_of_mem _ (List.mem_append_right _ h)) (by decide +kernel))
set_option maxRecDepth 20000 in
theorem gL_take_X5_take : GoodIn wsL_take (wsV RL 34 RX5 yX5_take wsX5_take) := goodIn_app (goodIn_of _ (by decide +kernel)) ggL_take_X5_take
theorem dL_take_0 : decode cL_take 0 = .ok (.aload_n 2, 1) := by decide +kernel
theorem dL_take_1 : decode cL_take 1 = .ok (.iconst 0, 1) := by decide +kernel
theorem dL_take_2 : decode cL_take 2 = .ok (.aload_n 0, 1) := by decide +kernel
theorem dL_take_3 : decode cL_take 3 = .ok (.iload_n 1, 1) := by decide +kernel
theorem dL_take_4 : decode cL_take 4 = .ok (.invokevirtual 34, 3) := by decide +kernel
theorem dL_take_7 : decode cL_take 7 = .ok (.i2l, 1) := by decide +kernel
theorem dL_take_8 : decode cL_take 8 = .ok (.lastore, 1) := by decide +kernel
theorem dL_take_9 : decode cL_take 9 = .ok (.goto 9, 3) := by decide +kernel
theorem dL_take_12 : decode cL_take 12 = .ok (.astore_n 3, 1) := by decide +kernel
theorem dL_take_13 : decode cL_take 13 = .ok (.iconst 1, 1) := by decide +kernel
theorem dL_take_14 : decode cL_take 14 = .ok (.ireturn, 1) := by decide +kernel
theorem dL_take_15 : decode cL_take 15 = .ok (.astore_n 3, 1) := by decide +kernel
theorem dL_take_16 : decode cL_take 16 = .ok (.iconst 2, 1) := by decide +kernel
theorem dL_take_17 : decode cL_take 17 = .ok (.ireturn, 1) := by decide +kernel
theorem dL_take_18 : decode cL_take 18 = .ok (.iconst 0, 1) := by decide +kernel
theorem dL_take_19 : decode cL_take 19 = .ok (.ireturn, 1) := by decide +kernel
set_option maxRecDepth 20000 in
theorem ggL_read_X5_read : GoodIn wsL_read wsX5_read := goodIn_ca (goodIn_ca (goodIn_r _ [7, 8, 9, 10, 11, 12, 13, 14, 15, 16, 6, 17, 18, 19, 20, 21, 22, 23, 24, 25, 26, 27, 28, 29, 30, 31, 32, 33, 34, 35, 36, 37, 38, 39, 40, 41, 42, 43, 44, 45, 46, 47, 48, 49, 50] (by decide +kernel) (by decide +kernel)) (goodIn_sub (fun _ h => List.mem_cons_of_mem _ (List.mem_append_left _ (List.mem_append_right _ h))) (by decide +kernel))) (goodIn_sub (fun _ h => List.mem_cons_of_mem _ (List.mem_append_right _ h)) (by decide +kernel))
set_option maxRecDepth 20000 in
theorem gL_read_X5_read : GoodIn wsL_read (wsV RL 37 RX5 yX5_read wsX5_read) := goodIn_app (goodIn_of _ (by decide +kernel)) ggL_read_X5_read
theorem dL_read_0 : decode cL_read 0 = .ok (.aload_n 2, 1) := by decide +kernel
theorem dL_read_1 : decode cL_read 1 = .ok (.iconst 0, 1) := by decide +kernel
theorem dL_read_2 : decode cL_read 2 = .ok (.aload_n 0, 1) := by decide +kernel
theorem dL_read_3 : decode cL_read 3 = .ok (.iload_n 1, 1) := by decide +kernel
theorem dL_read_4 : decode cL_read 4 = .ok (.invokevirtual 37, 3) := by decide +kernel
theorem dL_read_7 : decode cL_read 7 = .ok (.i2l, 1) := by decide +kernel
theorem dL_read_8 : decode cL_read 8 = .ok (.lastore, 1) := by decide +kernel
theorem dL_read_9 : decode cL_read 9 = .ok (.goto 9, 3) := by decide +kernel
theorem dL_read_12 : decode cL_read 12 = .ok (.astore_n 3, 1) := by decide +kernel
theorem dL_read_13 : decode cL_read 13 = .ok (.iconst 1, 1) := by decide +kernel
theorem dL_read_14 : decode cL_read 14 = .ok (.ireturn, 1) := by decide +kernel
theorem dL_read_15 : decode cL_read 15 = .ok (.astore_n 3, 1) := by decide +kernel
theorem dL_read_16 : decode cL_read 16 = .ok (.iconst 2, 1) := by decide +kernel
theorem dL_read_17 : decode cL_read 17 = .ok (.ireturn, 1) := by decide +kernel
theorem dL_read_18 : decode cL_read 18 = .ok (.iconst 0, 1) := by decide +kernel
theorem dL_read_19 : decode cL_read 19 = .ok (.ireturn, 1) := by decide +kernel
set_option maxRecDepth 20000 in
theorem ggL_split_X5_split : GoodIn wsL_split wsX5_split := goodIn_ca (goodIn_ca (goodIn_r _ [7, 8, 9, 10, 11, 12, 13, 14, 15, 16, 6, 17, 18, 19, 20, 21, 22, 23, 24, 25, 26, 27, 28, 29, 30, 31, 32, 33, 34, 35, 36, 37, 38, 39, 40, 41, 42, 43, 44, 45, 46, 47, 48, 49, 50, 51, 52, 53, 54, 55, 56, 57, 58, 59, 60, 61, 62, 63] (by decide +kernel) (by decide +kernel)) (goodIn_sub (fun _ h => List.mem_cons_of_mem _ (List.mem_append_left _ (List.mem_append_right _ h))) (by decide +kernel))) (goodIn_sub (fun _ h => List.mem_cons_of_mem _ (List.mem_append_right _ h)) (by decide +kernel))
set_option maxRecDepth 20000 in
theorem gL_split_X5_split : GoodIn wsL_split (wsV RL 40 RX5 yX5_split wsX5_split) := goodIn_app (goodIn_of _ (by decide +kernel)) ggL_split_X5_split
theorem dL_split_0 : decode cL_split 0 = .ok (.aload_n 2, 1) := by decide +kernel
theorem dL_split_1 : decode cL_split 1 = .ok (.iconst 0, 1) := by decide +kernel
theorem dL_split_2 : decode cL_split 2 = .ok (.aload_n 0, 1) := by decide +kernel
theorem dL_split_3 : decode cL_split 3 = .ok (.iload_n 1, 1) := by decide +kernel
theorem dL_split_4 : decode cL_split 4 = .ok (.invokevirtual 40, 3) := by decide +kernel
theorem dL_split_7 : decode cL_split 7 = .ok (.i2l, 1) := by decide +kernel
theorem dL_split_8 : decode cL_split 8 = .ok (.lastore, 1) := by decide +kernel
theorem dL_split_9 : decode cL_split 9 = .ok (.goto 9, 3) := by decide +kernel
theorem dL_split_12 : decode cL_split 12 = .ok (.astore_n 3, 1) := by decide +kernel
theorem dL_split_13 : decode cL_split 13 = .ok (.iconst 1, 1) := by decide +kernel
theorem dL_split_14 : decode cL_split 14 = .ok (.ireturn, 1) := by decide +kernel
theorem dL_split_15 : decode cL_split 15 = .ok (.astore_n 3, 1) := by decide +kernel
theorem dL_split_16 : decode cL_split 16 = .ok (.iconst 2, 1) := by decide +kernel
theorem dL_split_17 : decode cL_split 17 = .ok (.ireturn, 1) := by decide +kernel
theorem dL_split_18 : decode cL_split 18 = .ok (.iconst 0, 1) := by decide +kernel
theorem dL_split_19 : decode cL_split 19 = .ok (.ireturn, 1) := by decide +kernel
set_option maxRecDepth 20000 in
theorem ggL_join_X5_join : GoodIn wsL_join wsX5_join := goodIn_ca (goodIn_ca (goodIn_r _ [7, 8, 9, 10, 11, 12, 13, 14, 15, 16, 6, 17, 18, 19, 20, 21, 22, 23, 24, 25, 26, 27, 28, 29, 30, 31, 32, 33, 34, 35, 36, 37, 38, 39, 40, 41, 42, 43, 44, 45, 46, 47, 48, 49, 50, 51, 52, 53, 54] (by decide +kernel) (by decide +kernel)) (goodIn_sub (fun _ h => List.mem_cons_of_mem _ (List.mem_append_left _ (List.mem_append_right _ h))) (by decide +kernel))) (goodIn_sub (fun _ h => List.mem_cons_of_mem _ (List.mem_append_right _ h)) (by decide +kernel))
set_option maxRecDepth 20000 in
theorem gL_join_X5_join : GoodIn wsL_join (wsV RL 43 RX5 yX5_join wsX5_join) := goodIn_app (goodIn_of _ (by decide +kernel)) ggL_join_X5_join
theorem dL_join_0 : decode cL_join 0 = .ok (.aload_n 2, 1) := by decide +kernel
theorem dL_join_1 : decode cL_join 1 = .ok (.iconst 0, 1) := by decide +kernel
theorem dL_join_2 : decode cL_join 2 = .ok (.aload_n 0, 1) := by decide +kernel
theorem dL_join_3 : decode cL_join 3 = .ok (.iload_n 1, 1) := by decide +kernel
theorem dL_join_4 : decode cL_join 4 = .ok (.invokevirtual 43, 3) := by decide +kernel
theorem dL_join_7 : decode cL_join 7 = .ok (.i2l, 1) := by decide +kernel
theorem dL_join_8 : decode cL_join 8 = .ok (.lastore, 1) := by decide +kernel
theorem dL_join_9 : decode cL_join 9 = .ok (.goto 9, 3) := by decide +kernel
theorem dL_join_12 : decode cL_join 12 = .ok (.astore_n 3, 1) := by decide +kernel
theorem dL_join_13 : decode cL_join 13 = .ok (.iconst 1, 1) := by decide +kernel
theorem dL_join_14 : decode cL_join 14 = .ok (.ireturn, 1) := by decide +kernel
theorem dL_join_15 : decode cL_join 15 = .ok (.astore_n 3, 1) := by decide +kernel
theorem dL_join_16 : decode cL_join 16 = .ok (.iconst 2, 1) := by decide +kernel
theorem dL_join_17 : decode cL_join 17 = .ok (.ireturn, 1) := by decide +kernel
theorem dL_join_18 : decode cL_join 18 = .ok (.iconst 0, 1) := by decide +kernel
theorem dL_join_19 : decode cL_join 19 = .ok (.ireturn, 1) := by decide +kernel
set_option maxRecDepth 20000 in
theorem ggL_move_X5_move : GoodIn wsL_move wsX5_move := goodIn_ca (goodIn_ca (goodIn_r _ [7, 8, 9, 10, 11, 12, 13, 14, 15, 16, 6, 17, 18, 19, 20, 21, 22, 23, 24, 25, 26, 27, 28, 29, 30, 31, 32, 33, 34, 35, 36, 37, 38, 39, 40, 41, 42, 43, 44, 45, 46, 47, 48, 49, 50, 51, 52, 53, 54, 55, 56, 57, 58, 59, 60, 61, 62, 63] (by decide +kernel) (by decide +kernel)) (goodIn_sub (fun _ h => List.mem_cons_of_mem _ (List.mem_append_left _ (List.mem_append_right _ h))) (by decide +kernel))) (goodIn_sub (fun _ h => List.mem_cons_of_mem _ (List.mem_append_right _ h)) (by decide +kernel))
set_option maxRecDepth 20000 in
theorem gL_move_X5_move : GoodIn wsL_move (wsV RL 46 RX5 yX5_move wsX5_move) := goodIn_app (goodIn_of _ (by decide +kernel)) ggL_move_X5_move
theorem dL_move_0 : decode cL_move 0 = .ok (.aload_n 3, 1) := by decide +kernel
theorem dL_move_1 : decode cL_move 1 = .ok (.iconst 0, 1) := by decide +kernel
theorem dL_move_2 : decode cL_move 2 = .ok (.aload_n 0, 1) := by decide +kernel
theorem dL_move_3 : decode cL_move 3 = .ok (.iload_n 1, 1) := by decide +kernel
theorem dL_move_4 : decode cL_move 4 = .ok (.iload_n 2, 1) := by decide +kernel
theorem dL_move_5 : decode cL_move 5 = .ok (.invokevirtual 46, 3) := by decide +kernel
theorem dL_move_8 : decode cL_move 8 = .ok (.i2l, 1) := by decide +kernel
theorem dL_move_9 : decode cL_move 9 = .ok (.lastore, 1) := by decide +kernel
theorem dL_move_10 : decode cL_move 10 = .ok (.goto 11, 3) := by decide +kernel
theorem dL_move_13 : decode cL_move 13 = .ok (.astore 4, 2) := by decide +kernel
theorem dL_move_15 : decode cL_move 15 = .ok (.iconst 1, 1) := by decide +kernel
theorem dL_move_16 : decode cL_move 16 = .ok (.ireturn, 1) := by decide +kernel
theorem dL_move_17 : decode cL_move 17 = .ok (.astore 4, 2) := by decide +kernel
theorem dL_move_19 : decode cL_move 19 = .ok (.iconst 2, 1) := by decide +kernel
theorem dL_move_20 : decode cL_move 20 = .ok (.ireturn, 1) := by decide +kernel
theorem dL_move_21 : decode cL_move 21 = .ok (.iconst 0, 1) := by decide +kernel
theorem dL_move_22 : decode cL_move 22 = .ok (.ireturn, 1) := by decide +kernel
set_option maxRecDepth 20000 in
theorem ggL_callOff_X5_callOff : GoodIn wsL_callOff wsX5_callOff := goodIn_ca (goodIn_ca (goodIn_r _ [7, 8, 9, 10, 11, 12, 13, 14, 15, 6, 16, 17, 18, 19, 20, 21, 22, 23, 24, 25, 26, 27, 28, 29, 30, 31, 32, 33, 34, 35, 36, 37, 38, 39, 40, 41, 42, 43, 44, 45, 46, 47, 48, 49, 50, 51, 52, 53, 54, 55, 56, 57, 58, 59, 60, 61, 62, 63] (by decide +kernel) (by decide +kernel)) (goodIn_sub (fun _ h => List.mem_cons_of_mem _ (List.mem_append_left _ (List.mem_append_right _ h))) (by decide +kernel))) (goodIn_sub (fun _ h => List.mem_cons_of_mem _ (List.mem_append_right _ h)) (by decide +kernel))
set_option maxRecDepth 20000 in
theorem gL_callOff_X5_callOff : GoodIn wsL_callOff (wsV RL 49 RX5 yX5_callOff wsX5_callOff) := goodIn_app (goodIn_of _ (by decide +kernel)) ggL_callOff_X5_callOff
theorem dL_callOff_0 : decode cL_callOff 0 = .ok (.aload_n 2, 1) := by decide +kernel
theorem dL_callOff_1 : decode cL_callOff 1 = .ok (.iconst 0, 1) := by decide +kernel
theorem dL_callOff_2 : decode cL_callOff 2 = .ok (.aload_n 0, 1) := by decide +kernel
theorem dL_callOff_3 : decode cL_callOff 3 = .ok (.iload_n 1, 1) := by decide +kernel
theorem dL_callOff_4 : decode cL_callOff 4 = .ok (.invokevirtual 49, 3) := by decide +kernel
theorem dL_callOff_7 : decode cL_callOff 7 = .ok (.i2l, 1) := by decide +kernel
theorem dL_callOff_8 : decode cL_callOff 8 = .ok (.lastore, 1) := by decide +kernel
theorem dL_callOff_9 : decode cL_callOff 9 = .ok (.goto 9, 3) := by decide +kernel
theorem dL_callOff_12 : decode cL_callOff 12 = .ok (.astore_n 3, 1) := by decide +kernel
theorem dL_callOff_13 : decode cL_callOff 13 = .ok (.iconst 1, 1) := by decide +kernel
theorem dL_callOff_14 : decode cL_callOff 14 = .ok (.ireturn, 1) := by decide +kernel
theorem dL_callOff_15 : decode cL_callOff 15 = .ok (.astore_n 3, 1) := by decide +kernel
theorem dL_callOff_16 : decode cL_callOff 16 = .ok (.iconst 2, 1) := by decide +kernel
theorem dL_callOff_17 : decode cL_callOff 17 = .ok (.ireturn, 1) := by decide +kernel
theorem dL_callOff_18 : decode cL_callOff 18 = .ok (.iconst 0, 1) := by decide +kernel
theorem dL_callOff_19 : decode cL_callOff 19 = .ok (.ireturn, 1) := by decide +kernel
set_option maxRecDepth 20000 in
theorem ggL_pass_X5_pass : GoodIn wsL_pass wsX5_pass := goodIn_ca (goodIn_ca (goodIn_r _ [7, 8, 9, 10, 11, 12, 13, 14, 15, 6, 16, 17, 18, 19, 20, 21, 22, 23, 24, 25, 26, 27, 28, 29, 30, 31, 32, 33, 34, 35, 36, 37, 38, 39, 40, 41, 42, 43, 44, 45, 46, 47, 48, 49, 50, 51, 52, 53, 54, 55, 56, 57, 58, 59, 60, 61, 62, 63, 64, 65, 66, 67, 68, 69, 70, 71, 72, 73, 74, 75, 76, 77, 78, 79, 80, 81, 82, 83, 84, 85, 86, 87, 88, 89, 90, 91, 92, 93, 94, 95, 96, 97, 98, 99, 100, 101, 102, 103, 104, 105, 106, 107, 108, 109, 110, 111, 112, 113, 114, 115, 116, 117, 118, 119, 120, 121, 122, 123, 124, 125, 126, 127, 128, 129, 130, 131, 132, 133, 134, 135] (by decide +kernel) (by decide +kernel)) (goodIn_sub (fun _ h => List.mem_cons_of_mem _ (List.mem_append_left _ (List.mem_append_right _ h))) (by decide +kernel))) (goodIn_sub (fun _ h => List.mem_cons_of_mem _ (List.mem_append_right _ h)) (by decide +kernel))
set_option maxRecDepth 20000 in
theorem gL_pass_X5_pass : GoodIn wsL_pass (wsV RL 52 RX5 yX5_pass wsX5_pass) := goodIn_app (goodIn_of _ (by decide +kernel)) ggL_pass_X5_pass
theorem dL_pass_0 : decode cL_pass 0 = .ok (.aload_n 2, 1) := by decide +kernel
theorem dL_pass_1 : decode cL_pass 1 = .ok (.iconst 0, 1) := by decide +kernel
theorem dL_pass_2 : decode cL_pass 2 = .ok (.aload_n 0, 1) := by decide +kernel
theorem dL_pass_3 : decode cL_pass 3 = .ok (.iload_n 1, 1) := by decide +kernel
theorem dL_pass_4 : decode cL_pass 4 = .ok (.invokevirtual 52, 3) := by decide +kernel
theorem dL_pass_7 : decode cL_pass 7 = .ok (.i2l, 1) := by decide +kernel
theorem dL_pass_8 : decode cL_pass 8 = .ok (.lastore, 1) := by decide +kernel
theorem dL_pass_9 : decode cL_pass 9 = .ok (.goto 9, 3) := by decide +kernel
theorem dL_pass_12 : decode cL_pass 12 = .ok (.astore_n 3, 1) := by decide +kernel
theorem dL_pass_13 : decode cL_pass 13 = .ok (.iconst 1, 1) := by decide +kernel
theorem dL_pass_14 : decode cL_pass 14 = .ok (.ireturn, 1) := by decide +kernel
theorem dL_pass_15 : decode cL_pass 15 = .ok (.astore_n 3, 1) := by decide +kernel
theorem dL_pass_16 : decode cL_pass 16 = .ok (.iconst 2, 1) := by decide +kernel
theorem dL_pass_17 : decode cL_pass 17 = .ok (.ireturn, 1) := by decide +kernel
theorem dL_pass_18 : decode cL_pass 18 = .ok (.iconst 0, 1) := by decide +kernel
theorem dL_pass_19 : decode cL_pass 19 = .ok (.ireturn, 1) := by decide +kernel
set_option maxRecDepth 20000 in
theorem ggL_shardOf_X5_shardOf : GoodIn wsL_shardOf wsX5_shardOf := goodIn_ca (goodIn_r _ [6, 7, 8, 9, 10, 11, 5, 12, 13, 14, 15, 16, 17, 18, 19, 20, 21, 22, 23, 24, 25, 26, 27, 28, 29, 30, 31, 32, 33, 34, 35, 36, 37, 38, 39, 40, 41, 42] (by decide +kernel) (by decide +kernel)) (goodIn_sub (fun _ h => List.mem_cons_of_mem _ (List.mem_append_right _ h)) (by decide +kernel))
set_option maxRecDepth 20000 in
theorem gL_shardOf_X5_shardOf : GoodIn wsL_shardOf (wsV RL 55 RX5 yX5_shardOf wsX5_shardOf) := goodIn_app (goodIn_of _ (by decide +kernel)) ggL_shardOf_X5_shardOf
theorem dL_shardOf_0 : decode cL_shardOf 0 = .ok (.aload_n 2, 1) := by decide +kernel
theorem dL_shardOf_1 : decode cL_shardOf 1 = .ok (.iconst 0, 1) := by decide +kernel
theorem dL_shardOf_2 : decode cL_shardOf 2 = .ok (.aload_n 0, 1) := by decide +kernel
theorem dL_shardOf_3 : decode cL_shardOf 3 = .ok (.iload_n 1, 1) := by decide +kernel
theorem dL_shardOf_4 : decode cL_shardOf 4 = .ok (.invokevirtual 55, 3) := by decide +kernel
theorem dL_shardOf_7 : decode cL_shardOf 7 = .ok (.i2l, 1) := by decide +kernel
theorem dL_shardOf_8 : decode cL_shardOf 8 = .ok (.lastore, 1) := by decide +kernel
theorem dL_shardOf_9 : decode cL_shardOf 9 = .ok (.goto 6, 3) := by decide +kernel
theorem dL_shardOf_12 : decode cL_shardOf 12 = .ok (.astore_n 3, 1) := by decide +kernel
theorem dL_shardOf_13 : decode cL_shardOf 13 = .ok (.iconst 1, 1) := by decide +kernel
theorem dL_shardOf_14 : decode cL_shardOf 14 = .ok (.ireturn, 1) := by decide +kernel
theorem dL_shardOf_15 : decode cL_shardOf 15 = .ok (.iconst 0, 1) := by decide +kernel
theorem dL_shardOf_16 : decode cL_shardOf 16 = .ok (.ireturn, 1) := by decide +kernel
set_option maxRecDepth 20000 in
theorem ggL_shard_X5_shard : GoodIn wsL_shard wsX5_shard := goodIn_ca (goodIn_ca (goodIn_r _ [7, 8, 9, 10, 11, 12, 13, 14, 15, 6, 16, 17, 18, 19, 20, 21, 22, 23, 24, 25, 26, 27, 28, 29, 30, 31, 32, 33, 34, 35, 36, 37, 38, 39, 40, 41, 42, 43, 44, 45] (by decide +kernel) (by decide +kernel)) (goodIn_sub (fun _ h => List.mem_cons_of_mem _ (List.mem_append_left _ (List.mem_append_right _ h))) (by decide +kernel))) (goodIn_sub (fun _ h => List.mem_cons_of_mem _ (List.mem_append_right _ h)) (by decide +kernel))
set_option maxRecDepth 20000 in
theorem gL_shard_X5_shard : GoodIn wsL_shard (wsV RL 58 RX5 yX5_shard wsX5_shard) := goodIn_app (goodIn_of _ (by decide +kernel)) ggL_shard_X5_shard
theorem dL_shard_0 : decode cL_shard 0 = .ok (.aload_n 3, 1) := by decide +kernel
theorem dL_shard_1 : decode cL_shard 1 = .ok (.iconst 0, 1) := by decide +kernel
theorem dL_shard_2 : decode cL_shard 2 = .ok (.aload_n 0, 1) := by decide +kernel
theorem dL_shard_3 : decode cL_shard 3 = .ok (.iload_n 1, 1) := by decide +kernel
theorem dL_shard_4 : decode cL_shard 4 = .ok (.iload_n 2, 1) := by decide +kernel
theorem dL_shard_5 : decode cL_shard 5 = .ok (.invokevirtual 58, 3) := by decide +kernel
theorem dL_shard_8 : decode cL_shard 8 = .ok (.i2l, 1) := by decide +kernel
theorem dL_shard_9 : decode cL_shard 9 = .ok (.lastore, 1) := by decide +kernel
theorem dL_shard_10 : decode cL_shard 10 = .ok (.goto 11, 3) := by decide +kernel
theorem dL_shard_13 : decode cL_shard 13 = .ok (.astore 4, 2) := by decide +kernel
theorem dL_shard_15 : decode cL_shard 15 = .ok (.iconst 1, 1) := by decide +kernel
theorem dL_shard_16 : decode cL_shard 16 = .ok (.ireturn, 1) := by decide +kernel
theorem dL_shard_17 : decode cL_shard 17 = .ok (.astore 4, 2) := by decide +kernel
theorem dL_shard_19 : decode cL_shard 19 = .ok (.iconst 2, 1) := by decide +kernel
theorem dL_shard_20 : decode cL_shard 20 = .ok (.ireturn, 1) := by decide +kernel
theorem dL_shard_21 : decode cL_shard 21 = .ok (.iconst 0, 1) := by decide +kernel
theorem dL_shard_22 : decode cL_shard 22 = .ok (.ireturn, 1) := by decide +kernel
set_option maxRecDepth 20000 in
theorem ggL_machineOf_X5_machineOf : GoodIn wsL_machineOf wsX5_machineOf := goodIn_ca (goodIn_ca (goodIn_r _ [7, 8, 9, 10, 11, 12, 13, 14, 15, 6, 16, 17, 18, 19, 20, 21, 22, 23, 24, 25, 26, 27, 28, 29, 30, 31, 32, 33, 34, 35, 36, 37, 38, 39, 40, 41, 42, 43, 44, 45, 46, 47, 48, 49, 50, 51, 52, 53, 54, 55] (by decide +kernel) (by decide +kernel)) (goodIn_sub (fun _ h => List.mem_cons_of_mem _ (List.mem_append_left _ (List.mem_append_right _ h))) (by decide +kernel))) (goodIn_sub (fun _ h => List.mem_cons_of_mem _ (List.mem_append_right _ h)) (by decide +kernel))
set_option maxRecDepth 20000 in
theorem gL_machineOf_X5_machineOf : GoodIn wsL_machineOf (wsV RL 61 RX5 yX5_machineOf wsX5_machineOf) := goodIn_app (goodIn_of _ (by decide +kernel)) ggL_machineOf_X5_machineOf
theorem dL_machineOf_0 : decode cL_machineOf 0 = .ok (.aload_n 3, 1) := by decide +kernel
theorem dL_machineOf_1 : decode cL_machineOf 1 = .ok (.iconst 0, 1) := by decide +kernel
theorem dL_machineOf_2 : decode cL_machineOf 2 = .ok (.aload_n 0, 1) := by decide +kernel
theorem dL_machineOf_3 : decode cL_machineOf 3 = .ok (.iload_n 1, 1) := by decide +kernel
theorem dL_machineOf_4 : decode cL_machineOf 4 = .ok (.iload_n 2, 1) := by decide +kernel
theorem dL_machineOf_5 : decode cL_machineOf 5 = .ok (.invokevirtual 61, 3) := by decide +kernel
theorem dL_machineOf_8 : decode cL_machineOf 8 = .ok (.i2l, 1) := by decide +kernel
theorem dL_machineOf_9 : decode cL_machineOf 9 = .ok (.lastore, 1) := by decide +kernel
theorem dL_machineOf_10 : decode cL_machineOf 10 = .ok (.goto 11, 3) := by decide +kernel
theorem dL_machineOf_13 : decode cL_machineOf 13 = .ok (.astore 4, 2) := by decide +kernel
theorem dL_machineOf_15 : decode cL_machineOf 15 = .ok (.iconst 1, 1) := by decide +kernel
theorem dL_machineOf_16 : decode cL_machineOf 16 = .ok (.ireturn, 1) := by decide +kernel
theorem dL_machineOf_17 : decode cL_machineOf 17 = .ok (.astore 4, 2) := by decide +kernel
theorem dL_machineOf_19 : decode cL_machineOf 19 = .ok (.iconst 2, 1) := by decide +kernel
theorem dL_machineOf_20 : decode cL_machineOf 20 = .ok (.ireturn, 1) := by decide +kernel
theorem dL_machineOf_21 : decode cL_machineOf 21 = .ok (.iconst 0, 1) := by decide +kernel
theorem dL_machineOf_22 : decode cL_machineOf 22 = .ok (.ireturn, 1) := by decide +kernel
set_option maxRecDepth 20000 in
theorem ggL_tenant_X5_tenant : GoodIn wsL_tenant wsX5_tenant := goodIn_ca (goodIn_ca (goodIn_r _ [7, 8, 9, 10, 11, 12, 13, 14, 15, 6, 16, 17, 18, 19, 20, 21, 22, 23, 24, 25, 26, 27, 28, 29, 30, 31, 32, 33, 34] (by decide +kernel) (by decide +kernel)) (goodIn_sub (fun _ h => List.mem_cons_of_mem _ (List.mem_append_left _ (List.mem_append_right _ h))) (by decide +kernel))) (goodIn_sub (fun _ h => List.mem_cons_of_mem _ (List.mem_append_right _ h)) (by decide +kernel))
set_option maxRecDepth 20000 in
theorem gL_tenant_X5_tenant : GoodIn wsL_tenant (wsV RL 64 RX5 yX5_tenant wsX5_tenant) := goodIn_app (goodIn_of _ (by decide +kernel)) ggL_tenant_X5_tenant
theorem dL_tenant_0 : decode cL_tenant 0 = .ok (.aload_n 3, 1) := by decide +kernel
theorem dL_tenant_1 : decode cL_tenant 1 = .ok (.iconst 0, 1) := by decide +kernel
theorem dL_tenant_2 : decode cL_tenant 2 = .ok (.aload_n 0, 1) := by decide +kernel
theorem dL_tenant_3 : decode cL_tenant 3 = .ok (.iload_n 1, 1) := by decide +kernel
theorem dL_tenant_4 : decode cL_tenant 4 = .ok (.iload_n 2, 1) := by decide +kernel
theorem dL_tenant_5 : decode cL_tenant 5 = .ok (.invokevirtual 64, 3) := by decide +kernel
theorem dL_tenant_8 : decode cL_tenant 8 = .ok (.i2l, 1) := by decide +kernel
theorem dL_tenant_9 : decode cL_tenant 9 = .ok (.lastore, 1) := by decide +kernel
theorem dL_tenant_10 : decode cL_tenant 10 = .ok (.goto 11, 3) := by decide +kernel
theorem dL_tenant_13 : decode cL_tenant 13 = .ok (.astore 4, 2) := by decide +kernel
theorem dL_tenant_15 : decode cL_tenant 15 = .ok (.iconst 1, 1) := by decide +kernel
theorem dL_tenant_16 : decode cL_tenant 16 = .ok (.ireturn, 1) := by decide +kernel
theorem dL_tenant_17 : decode cL_tenant 17 = .ok (.astore 4, 2) := by decide +kernel
theorem dL_tenant_19 : decode cL_tenant 19 = .ok (.iconst 2, 1) := by decide +kernel
theorem dL_tenant_20 : decode cL_tenant 20 = .ok (.ireturn, 1) := by decide +kernel
theorem dL_tenant_21 : decode cL_tenant 21 = .ok (.iconst 0, 1) := by decide +kernel
theorem dL_tenant_22 : decode cL_tenant 22 = .ok (.ireturn, 1) := by decide +kernel
set_option maxRecDepth 20000 in
theorem ggL_billAnew_X5_billAnew : GoodIn wsL_billAnew wsX5_billAnew := goodIn_ca (goodIn_r _ [6, 7, 8, 9, 10, 11, 12, 13, 5, 14, 15, 16, 17, 18, 19, 20, 21, 22, 23, 24, 25, 26, 27, 28, 29, 30, 31, 32, 33, 34, 35, 36, 37, 38, 39, 40, 41, 42, 43] (by decide +kernel) (by decide +kernel)) (goodIn_sub (fun _ h => List.mem_cons_of_mem _ (List.mem_append_right _ h)) (by decide +kernel))
set_option maxRecDepth 20000 in
theorem gL_billAnew_X5_billAnew : GoodIn wsL_billAnew (wsV RL 67 RX5 yX5_billAnew wsX5_billAnew) := goodIn_app (goodIn_of _ (by decide +kernel)) ggL_billAnew_X5_billAnew
theorem dL_billAnew_0 : decode cL_billAnew 0 = .ok (.aload_n 2, 1) := by decide +kernel
theorem dL_billAnew_1 : decode cL_billAnew 1 = .ok (.iconst 0, 1) := by decide +kernel
theorem dL_billAnew_2 : decode cL_billAnew 2 = .ok (.aload_n 0, 1) := by decide +kernel
theorem dL_billAnew_3 : decode cL_billAnew 3 = .ok (.iload_n 1, 1) := by decide +kernel
theorem dL_billAnew_4 : decode cL_billAnew 4 = .ok (.invokevirtual 67, 3) := by decide +kernel
theorem dL_billAnew_7 : decode cL_billAnew 7 = .ok (.i2l, 1) := by decide +kernel
theorem dL_billAnew_8 : decode cL_billAnew 8 = .ok (.lastore, 1) := by decide +kernel
theorem dL_billAnew_9 : decode cL_billAnew 9 = .ok (.goto 6, 3) := by decide +kernel
theorem dL_billAnew_12 : decode cL_billAnew 12 = .ok (.astore_n 3, 1) := by decide +kernel
theorem dL_billAnew_13 : decode cL_billAnew 13 = .ok (.iconst 1, 1) := by decide +kernel
theorem dL_billAnew_14 : decode cL_billAnew 14 = .ok (.ireturn, 1) := by decide +kernel
theorem dL_billAnew_15 : decode cL_billAnew 15 = .ok (.iconst 0, 1) := by decide +kernel
theorem dL_billAnew_16 : decode cL_billAnew 16 = .ok (.ireturn, 1) := by decide +kernel
set_option maxRecDepth 20000 in
theorem ggL_whereAnew_X5_whereAnew : GoodIn wsL_whereAnew wsX5_whereAnew := goodIn_ca (goodIn_r _ [6, 7, 8, 9, 10, 11, 12, 13, 5, 14, 15, 16, 17, 18, 19, 20, 21, 22, 23, 24, 25, 26, 27, 28, 29, 30, 31, 32, 33] (by decide +kernel) (by decide +kernel)) (goodIn_sub (fun _ h => List.mem_cons_of_mem _ (List.mem_append_right _ h)) (by decide +kernel))
set_option maxRecDepth 20000 in
theorem gL_whereAnew_X5_whereAnew : GoodIn wsL_whereAnew (wsV RL 70 RX5 yX5_whereAnew wsX5_whereAnew) := goodIn_app (goodIn_of _ (by decide +kernel)) ggL_whereAnew_X5_whereAnew
theorem dL_whereAnew_0 : decode cL_whereAnew 0 = .ok (.aload_n 2, 1) := by decide +kernel
theorem dL_whereAnew_1 : decode cL_whereAnew 1 = .ok (.iconst 0, 1) := by decide +kernel
theorem dL_whereAnew_2 : decode cL_whereAnew 2 = .ok (.aload_n 0, 1) := by decide +kernel
theorem dL_whereAnew_3 : decode cL_whereAnew 3 = .ok (.iload_n 1, 1) := by decide +kernel
theorem dL_whereAnew_4 : decode cL_whereAnew 4 = .ok (.invokevirtual 70, 3) := by decide +kernel
theorem dL_whereAnew_7 : decode cL_whereAnew 7 = .ok (.i2l, 1) := by decide +kernel
theorem dL_whereAnew_8 : decode cL_whereAnew 8 = .ok (.lastore, 1) := by decide +kernel
theorem dL_whereAnew_9 : decode cL_whereAnew 9 = .ok (.goto 6, 3) := by decide +kernel
theorem dL_whereAnew_12 : decode cL_whereAnew 12 = .ok (.astore_n 3, 1) := by decide +kernel
theorem dL_whereAnew_13 : decode cL_whereAnew 13 = .ok (.iconst 1, 1) := by decide +kernel
theorem dL_whereAnew_14 : decode cL_whereAnew 14 = .ok (.ireturn, 1) := by decide +kernel
theorem dL_whereAnew_15 : decode cL_whereAnew 15 = .ok (.iconst 0, 1) := by decide +kernel
theorem dL_whereAnew_16 : decode cL_whereAnew 16 = .ok (.ireturn, 1) := by decide +kernel
set_option maxRecDepth 20000 in
theorem ggL_law_X5_init : GoodIn wsL_law wsX5_init := goodIn_r _ [9, 10, 11, 12, 13, 14, 15, 16, 17, 18, 19, 20, 21, 22, 23, 24, 25, 26, 27, 28, 29, 30, 31, 32, 33, 34, 35, 36, 37, 38, 39, 40, 41, 42, 43, 578, 579, 580, 581, 543, 544, 545, 546, 547, 548, 549, 550, 551, 552, 553, 554, 555, 556, 557, 582, 583, 584, 585, 586, 587, 588, 589, 590, 591, 592, 593] (by decide +kernel) (by decide +kernel)
set_option maxRecDepth 20000 in
theorem gL_law_X5_init : GoodIn wsL_law (wsX5_init) := ggL_law_X5_init
set_option maxRecDepth 20000 in
theorem ggL_law_X6_init : GoodIn wsL_law wsX6_init := goodIn_r _ [46, 47, 11, 12, 17, 48, 49, 50, 51, 52, 53, 54, 55, 56, 57, 58, 59, 60, 61, 558, 559, 560, 561, 562, 563, 564, 565, 566, 567, 568, 569, 570, 571, 572, 573, 574, 575, 576, 577] (by decide +kernel) (by decide +kernel)
set_option maxRecDepth 20000 in
theorem gL_law_X6_init : GoodIn wsL_law (wsX6_init) := ggL_law_X6_init
set_option maxRecDepth 20000 in
theorem ggL_law_L_machine : GoodIn wsL_law wsL_machine := goodIn_ca (goodIn_ca (goodIn_r _ [65, 66, 67, 68, 69, 70, 2, 71, 72, 73, 74, 75, 76, 24, 77, 78, 79, 80, 29, 26, 543, 544, 545, 546, 547, 548, 549, 550, 551, 552, 553, 554, 555, 556, 557, 578, 579, 580, 581, 585, 586, 587, 588, 589, 590, 591, 592, 593] (by decide +kernel) (by decide +kernel)) (goodIn_sub (fun _ h => List.mem_append_left _ (List.mem_append_left _ (List.mem_append_right _ h))) (by decide +kernel))) (goodIn_sub (fun _ h => List.mem_append_left _ (List.mem_append_right _ h)) (by decide +kernel))
set_option maxRecDepth 20000 in
theorem gL_law_L_machine : GoodIn wsL_law (va_wsS RL 77 yL_machine wsL_machine) := goodIn_app (goodIn_of _ (by decide +kernel)) ggL_law_L_machine
set_option maxRecDepth 20000 in
theorem ggL_law_X6_machine : GoodIn wsL_law wsX6_machine := goodIn_r _ [84, 85, 48, 55, 57, 86, 87, 5, 88, 89, 90, 91, 92, 93, 558, 559, 560, 561, 562, 563, 564, 565, 566, 567, 568, 569, 570, 571, 572, 573, 574, 575, 576, 577] (by decide +kernel) (by decide +kernel)
set_option maxRecDepth 20000 in
theorem gL_law_X6_machine : GoodIn wsL_law (wsV RL 82 RX6 yX6_machine wsX6_machine) := goodIn_app (goodIn_of _ (by decide +kernel)) ggL_law_X6_machine
set_option maxRecDepth 20000 in
theorem ggL_law_X6_thrown : GoodIn wsL_law wsX6_thrown := goodIn_r _ [97, 93, 558, 559, 560, 561, 562, 563, 564, 565, 566, 567, 568, 569, 570, 571, 572, 573, 574, 575, 576, 577] (by decide +kernel) (by decide +kernel)
set_option maxRecDepth 20000 in
theorem gL_law_X6_thrown : GoodIn wsL_law (wsV RL 83 RX6 yX6_thrown wsX6_thrown) := goodIn_app (goodIn_of _ (by decide +kernel)) ggL_law_X6_thrown
set_option maxRecDepth 20000 in
theorem ggL_law_L_down : GoodIn wsL_law wsL_down := goodIn_ca (goodIn_r _ [100, 101, 102, 103, 104, 2, 105, 106, 107, 24, 108, 109, 110, 111, 76, 112, 113, 114, 115, 29, 26, 116, 28, 117, 118, 43, 119, 120, 121, 122, 16, 123, 124, 125, 126, 127, 128, 129, 130, 543, 544, 545, 546, 547, 548, 549, 550, 551, 552, 553, 554, 555, 556, 557, 578, 579, 580, 581, 585, 586, 587, 588, 589, 590, 591, 592, 593] (by decide +kernel) (by decide +kernel)) (goodIn_sub (fun _ h => List.mem_append_right _ h) (by decide +kernel))
set_option maxRecDepth 20000 in
theorem gL_law_L_down : GoodIn wsL_law (va_wsS RL 87 yL_down wsL_down) := goodIn_app (goodIn_of _ (by decide +kernel)) ggL_law_L_down
set_option maxRecDepth 20000 in
theorem ggL_law_X6_down : GoodIn wsL_law wsX6_down := goodIn_r _ [134, 50, 55, 58, 57, 135, 136, 137, 5, 138, 85, 86, 87, 88, 89, 90, 91, 92, 93, 139, 140, 141, 142, 143, 558, 559, 560, 561, 562, 563, 564, 565, 566, 567, 568, 569, 570, 571, 572, 573, 574, 575, 576, 577] (by decide +kernel) (by decide +kernel)
set_option maxRecDepth 20000 in
theorem gL_law_X6_down : GoodIn wsL_law (wsV RL 90 RX6 yX6_down wsX6_down) := goodIn_app (goodIn_of _ (by decide +kernel)) ggL_law_X6_down
set_option maxRecDepth 20000 in
theorem ggL_law_L_quota : GoodIn wsL_law wsL_quota := goodIn_ca (goodIn_ca (goodIn_r _ [146, 101, 66, 147, 148, 149, 2, 150, 106, 107, 72, 73, 21, 151, 152, 153, 154, 543, 544, 545, 546, 547, 548, 549, 550, 551, 552, 553, 554, 555, 556, 557, 582, 583, 584] (by decide +kernel) (by decide +kernel)) (goodIn_sub (fun _ h => List.mem_append_right _ h) (by decide +kernel))) (goodIn_sub (fun _ h => List.mem_append_left _ (List.mem_append_left _ (List.mem_append_right _ h))) (by decide +kernel))
set_option maxRecDepth 20000 in
theorem gL_law_L_quota : GoodIn wsL_law (va_wsS RL 91 yL_quota wsL_quota) := goodIn_app (goodIn_of _ (by decide +kernel)) ggL_law_L_quota
set_option maxRecDepth 20000 in
theorem ggL_law_X6_quota : GoodIn wsL_law wsX6_quota := goodIn_r _ [158, 51, 159, 160, 5, 161, 86, 87, 88, 89, 90, 91, 92, 93, 558, 559, 560, 561, 562, 563, 564, 565, 566, 567, 568, 569, 570, 571, 572, 573, 574, 575, 576, 577] (by decide +kernel) (by decide +kernel)
set_option maxRecDepth 20000 in
theorem gL_law_X6_quota : GoodIn wsL_law (wsV RL 94 RX6 yX6_quota wsX6_quota) := goodIn_app (goodIn_of _ (by decide +kernel)) ggL_law_X6_quota
set_option maxRecDepth 20000 in
theorem ggL_law_L_limit : GoodIn wsL_law wsL_limit := goodIn_ca (goodIn_r _ [164, 66, 165, 166, 167, 2, 168, 72, 73, 169, 543, 544, 545, 546, 547, 548, 549, 550, 551, 552, 553, 554, 555, 556, 557] (by decide +kernel) (by decide +kernel)) (goodIn_sub (fun _ h => List.mem_append_left _ (List.mem_append_left _ (List.mem_append_right _ h))) (by decide +kernel))
set_option maxRecDepth 20000 in
theorem gL_law_L_limit : GoodIn wsL_law (va_wsS RL 95 yL_limit wsL_limit) := goodIn_app (goodIn_of _ (by decide +kernel)) ggL_law_L_limit
set_option maxRecDepth 20000 in
theorem ggL_law_X6_limit : GoodIn wsL_law wsX6_limit := goodIn_r _ [173, 174, 86, 87, 5, 88, 89, 90, 91, 92, 93, 558, 559, 560, 561, 562, 563, 564, 565, 566, 567, 568, 569, 570, 571, 572, 573, 574, 575, 576, 577] (by decide +kernel) (by decide +kernel)
set_option maxRecDepth 20000 in
theorem gL_law_X6_limit : GoodIn wsL_law (wsV RL 97 RX6 yX6_limit wsX6_limit) := goodIn_app (goodIn_of _ (by decide +kernel)) ggL_law_X6_limit
set_option maxRecDepth 20000 in
theorem ggL_law_L_write : GoodIn wsL_law wsL_write := goodIn_ca (goodIn_ca (goodIn_ca (goodIn_r _ [177, 101, 66, 67, 178, 179, 180, 2, 181, 106, 107, 72, 73, 74, 75, 26, 18, 21, 182, 183, 184, 185, 151, 152, 153, 154, 186, 187, 188, 189, 29, 190, 191, 192, 193, 194, 195, 15, 196, 197, 198, 199, 200, 201, 202, 203, 19, 204, 205, 206, 207, 208, 209, 210, 211, 212, 213, 214, 215, 11, 12, 216, 217, 218, 219, 220, 221, 222, 223, 224, 225, 226, 227, 228, 229, 230, 231, 232, 28, 233, 234, 128, 235, 116, 117, 118, 43, 236, 237, 238, 239, 119, 120, 121, 122, 16, 123, 124, 125, 126, 127, 129, 130, 543, 544, 545, 546, 547, 548, 549, 550, 551, 552, 553, 554, 555, 556, 557, 585, 586, 587, 588, 589, 590, 591, 592, 593, 582, 583, 584, 578, 579, 580, 581, 594, 595, 596, 597, 598, 599] (by decide +kernel) (by decide +kernel)) (goodIn_sub (fun _ h => List.mem_append_right _ h) (by decide +kernel))) (goodIn_sub (fun _ h => List.mem_append_left _ (List.mem_append_left _ (List.mem_append_right _ h))) (by decide +kernel))) (goodIn_sub (fun _ h => List.mem_append_left _ (List.mem_append_right _ h)) (by decide +kernel))
set_option maxRecDepth 20000 in
theorem gL_law_L_write : GoodIn wsL_law (va_wsS RL 98 yL_write wsL_write) := goodIn_app (goodIn_of _ (by decide +kernel)) ggL_law_L_write
set_option maxRecDepth 20000 in
theorem ggL_law_X6_write : GoodIn wsL_law wsX6_write := goodIn_r _ [243, 85, 50, 57, 54, 48, 53, 51, 244, 61, 58, 245, 246, 5, 247, 86, 87, 88, 159, 160, 161, 248, 249, 250, 251, 56, 252, 253, 254, 255, 55, 256, 257, 258, 259, 260, 261, 262, 263, 264, 265, 266, 267, 59, 268, 269, 270, 271, 89, 90, 91, 92, 93, 272, 273, 274, 275, 139, 140, 141, 142, 143, 558, 559, 560, 561, 562, 563, 564, 565, 566, 567, 568, 569, 570, 571, 572, 573, 574, 575, 576, 577] (by decide +kernel) (by decide +kernel)
set_option maxRecDepth 20000 in
theorem gL_law_X6_write : GoodIn wsL_law (wsV RL 101 RX6 yX6_write wsX6_write) := goodIn_app (goodIn_of _ (by decide +kernel)) ggL_law_X6_write
set_option maxRecDepth 20000 in
theorem ggL_law_L_take : GoodIn wsL_law wsL_take := goodIn_ca (goodIn_ca (goodIn_r _ [278, 101, 67, 279, 280, 281, 2, 282, 106, 107, 74, 75, 18, 26, 182, 183, 184, 185, 186, 187, 188, 189, 29, 190, 191, 192, 193, 194, 204, 205, 206, 207, 208, 209, 210, 211, 212, 19, 213, 214, 215, 11, 12, 216, 217, 218, 219, 220, 221, 222, 223, 224, 225, 226, 227, 228, 229, 230, 231, 21, 151, 152, 153, 154, 232, 28, 233, 234, 128, 235, 116, 117, 118, 43, 236, 237, 238, 239, 195, 15, 196, 197, 198, 199, 119, 120, 121, 122, 16, 123, 124, 125, 126, 127, 129, 130, 543, 544, 545, 546, 547, 548, 549, 550, 551, 552, 553, 554, 555, 556, 557, 585, 586, 587, 588, 589, 590, 591, 592, 593, 578, 579, 580, 581, 594, 595, 596, 597, 598, 599, 582, 583, 584] (by decide +kernel) (by decide +kernel)) (goodIn_sub (fun _ h => List.mem_append_right _ h) (by decide +kernel))) (goodIn_sub (fun _ h => List.mem_append_left _ (List.mem_append_right _ h)) (by decide +kernel))
set_option maxRecDepth 20000 in
theorem gL_law_L_take : GoodIn wsL_law (va_wsS RL 102 yL_take wsL_take) := goodIn_app (goodIn_of _ (by decide +kernel)) ggL_law_L_take
set_option maxRecDepth 20000 in
theorem ggL_law_X6_take : GoodIn wsL_law wsX6_take := goodIn_r _ [286, 54, 50, 57, 244, 61, 245, 246, 5, 247, 86, 87, 88, 248, 249, 250, 251, 56, 89, 90, 91, 92, 93, 558, 559, 560, 561, 562, 563, 564, 565, 566, 567, 568, 569, 570, 571, 572, 573, 574, 575, 576, 577] (by decide +kernel) (by decide +kernel)
set_option maxRecDepth 20000 in
theorem gL_law_X6_take : GoodIn wsL_law (wsV RL 104 RX6 yX6_take wsX6_take) := goodIn_app (goodIn_of _ (by decide +kernel)) ggL_law_X6_take
set_option maxRecDepth 20000 in
theorem ggL_law_L_read : GoodIn wsL_law wsL_read := goodIn_ca (goodIn_ca (goodIn_r _ [289, 101, 67, 290, 291, 292, 2, 293, 106, 107, 74, 75, 26, 18, 182, 183, 184, 185, 186, 187, 188, 189, 29, 543, 544, 545, 546, 547, 548, 549, 550, 551, 552, 553, 554, 555, 556, 557, 585, 586, 587, 588, 589, 590, 591, 592, 593, 578, 579, 580, 581] (by decide +kernel) (by decide +kernel)) (goodIn_sub (fun _ h => List.mem_append_right _ h) (by decide +kernel))) (goodIn_sub (fun _ h => List.mem_append_left _ (List.mem_append_right _ h)) (by decide +kernel))
set_option maxRecDepth 20000 in
theorem gL_law_L_read : GoodIn wsL_law (va_wsS RL 105 yL_read wsL_read) := goodIn_app (goodIn_of _ (by decide +kernel)) ggL_law_L_read
set_option maxRecDepth 20000 in
theorem ggL_law_X6_read : GoodIn wsL_law wsX6_read := goodIn_r _ [297, 85, 50, 57, 61, 54, 245, 246, 5, 247, 86, 87, 88, 248, 249, 250, 251, 56, 89, 90, 91, 92, 93, 558, 559, 560, 561, 562, 563, 564, 565, 566, 567, 568, 569, 570, 571, 572, 573, 574, 575, 576, 577] (by decide +kernel) (by decide +kernel)
set_option maxRecDepth 20000 in
theorem gL_law_X6_read : GoodIn wsL_law (wsV RL 107 RX6 yX6_read wsX6_read) := goodIn_app (goodIn_of _ (by decide +kernel)) ggL_law_X6_read
set_option maxRecDepth 20000 in
theorem ggL_law_L_split : GoodIn wsL_law wsL_split := goodIn_ca (goodIn_ca (goodIn_r _ [300, 101, 67, 301, 302, 303, 2, 304, 106, 107, 74, 75, 26, 29, 182, 183, 184, 185, 186, 187, 188, 189, 116, 28, 117, 118, 43, 305, 306, 307, 308, 309, 310, 311, 312, 18, 543, 544, 545, 546, 547, 548, 549, 550, 551, 552, 553, 554, 555, 556, 557, 585, 586, 587, 588, 589, 590, 591, 592, 593, 578, 579, 580, 581] (by decide +kernel) (by decide +kernel)) (goodIn_sub (fun _ h => List.mem_append_right _ h) (by decide +kernel))) (goodIn_sub (fun _ h => List.mem_append_left _ (List.mem_append_right _ h)) (by decide +kernel))
set_option maxRecDepth 20000 in
theorem gL_law_L_split : GoodIn wsL_law (va_wsS RL 108 yL_split wsL_split) := goodIn_app (goodIn_of _ (by decide +kernel)) ggL_law_L_split
set_option maxRecDepth 20000 in
theorem ggL_law_X6_split : GoodIn wsL_law wsX6_split := goodIn_r _ [316, 56, 58, 55, 61, 86, 87, 5, 88, 248, 249, 250, 251, 89, 90, 91, 92, 93, 317, 318, 319, 320, 57, 59, 60, 558, 559, 560, 561, 562, 563, 564, 565, 566, 567, 568, 569, 570, 571, 572, 573, 574, 575, 576, 577] (by decide +kernel) (by decide +kernel)
set_option maxRecDepth 20000 in
theorem gL_law_X6_split : GoodIn wsL_law (wsV RL 110 RX6 yX6_split wsX6_split) := goodIn_app (goodIn_of _ (by decide +kernel)) ggL_law_X6_split
set_option maxRecDepth 20000 in
theorem ggL_law_L_join : GoodIn wsL_law wsL_join := goodIn_ca (goodIn_ca (goodIn_r _ [323, 101, 67, 324, 325, 326, 2, 327, 106, 107, 74, 75, 26, 29, 328, 329, 330, 331, 332, 333, 334, 335, 116, 28, 117, 118, 43, 543, 544, 545, 546, 547, 548, 549, 550, 551, 552, 553, 554, 555, 556, 557, 585, 586, 587, 588, 589, 590, 591, 592, 593, 578, 579, 580, 581] (by decide +kernel) (by decide +kernel)) (goodIn_sub (fun _ h => List.mem_append_right _ h) (by decide +kernel))) (goodIn_sub (fun _ h => List.mem_append_left _ (List.mem_append_right _ h)) (by decide +kernel))
set_option maxRecDepth 20000 in
theorem gL_law_L_join : GoodIn wsL_law (va_wsS RL 111 yL_join wsL_join) := goodIn_app (goodIn_of _ (by decide +kernel)) ggL_law_L_join
set_option maxRecDepth 20000 in
theorem ggL_law_X6_join : GoodIn wsL_law wsX6_join := goodIn_r _ [339, 55, 57, 58, 61, 340, 341, 342, 5, 343, 86, 87, 88, 89, 90, 91, 92, 93, 317, 318, 319, 320, 56, 59, 60, 558, 559, 560, 561, 562, 563, 564, 565, 566, 567, 568, 569, 570, 571, 572, 573, 574, 575, 576, 577] (by decide +kernel) (by decide +kernel)
set_option maxRecDepth 20000 in
theorem gL_law_X6_join : GoodIn wsL_law (wsV RL 113 RX6 yX6_join wsX6_join) := goodIn_app (goodIn_of _ (by decide +kernel)) ggL_law_X6_join
set_option maxRecDepth 20000 in
theorem ggL_law_L_move : GoodIn wsL_law wsL_move := goodIn_ca (goodIn_ca (goodIn_r _ [346, 101, 67, 347, 348, 349, 2, 350, 106, 107, 74, 75, 26, 24, 328, 329, 330, 331, 29, 108, 109, 110, 111, 76, 116, 28, 117, 118, 43, 124, 125, 126, 127, 128, 129, 130, 543, 544, 545, 546, 547, 548, 549, 550, 551, 552, 553, 554, 555, 556, 557, 585, 586, 587, 588, 589, 590, 591, 592, 593, 578, 579, 580, 581] (by decide +kernel) (by decide +kernel)) (goodIn_sub (fun _ h => List.mem_append_right _ h) (by decide +kernel))) (goodIn_sub (fun _ h => List.mem_append_left _ (List.mem_append_right _ h)) (by decide +kernel))
set_option maxRecDepth 20000 in
theorem gL_law_L_move : GoodIn wsL_law (va_wsS RL 114 yL_move wsL_move) := goodIn_app (goodIn_of _ (by decide +kernel)) ggL_law_L_move
set_option maxRecDepth 20000 in
theorem ggL_law_X6_move : GoodIn wsL_law wsX6_move := goodIn_r _ [354, 57, 58, 50, 340, 341, 342, 5, 343, 55, 86, 87, 88, 135, 136, 137, 138, 85, 89, 90, 91, 92, 93, 355, 356, 357, 358, 59, 56, 60, 256, 257, 258, 259, 260, 261, 262, 263, 54, 558, 559, 560, 561, 562, 563, 564, 565, 566, 567, 568, 569, 570, 571, 572, 573, 574, 575, 576, 577] (by decide +kernel) (by decide +kernel)
set_option maxRecDepth 20000 in
theorem gL_law_X6_move : GoodIn wsL_law (wsV RL 116 RX6 yX6_move wsX6_move) := goodIn_app (goodIn_of _ (by decide +kernel)) ggL_law_X6_move
set_option maxRecDepth 20000 in
theorem ggL_law_L_callOff : GoodIn wsL_law wsL_callOff := goodIn_ca (goodIn_ca (goodIn_r _ [361, 101, 67, 362, 363, 364, 2, 365, 106, 107, 74, 75, 26, 328, 329, 330, 331, 29, 116, 28, 117, 118, 43, 119, 120, 121, 122, 16, 123, 124, 125, 126, 127, 128, 129, 130, 543, 544, 545, 546, 547, 548, 549, 550, 551, 552, 553, 554, 555, 556, 557, 585, 586, 587, 588, 589, 590, 591, 592, 593, 578, 579, 580, 581] (by decide +kernel) (by decide +kernel)) (goodIn_sub (fun _ h => List.mem_append_right _ h) (by decide +kernel))) (goodIn_sub (fun _ h => List.mem_append_left _ (List.mem_append_right _ h)) (by decide +kernel))
set_option maxRecDepth 20000 in
theorem gL_law_L_callOff : GoodIn wsL_law (va_wsS RL 117 yL_callOff wsL_callOff) := goodIn_app (goodIn_of _ (by decide +kernel)) ggL_law_L_callOff
set_option maxRecDepth 20000 in
theorem ggL_law_X6_callOff : GoodIn wsL_law wsX6_callOff := goodIn_r _ [369, 58, 340, 341, 342, 5, 343, 55, 86, 87, 88, 89, 90, 91, 92, 93, 264, 265, 266, 267, 56, 59, 260, 261, 262, 263, 54, 139, 140, 141, 142, 143, 558, 559, 560, 561, 562, 563, 564, 565, 566, 567, 568, 569, 570, 571, 572, 573, 574, 575, 576, 577] (by decide +kernel) (by decide +kernel)
set_option maxRecDepth 20000 in
theorem gL_law_X6_callOff : GoodIn wsL_law (wsV RL 119 RX6 yX6_callOff wsX6_callOff) := goodIn_app (goodIn_of _ (by decide +kernel)) ggL_law_X6_callOff
set_option maxRecDepth 20000 in
theorem ggL_law_L_pass : GoodIn wsL_law wsL_pass := goodIn_ca (goodIn_ca (goodIn_r _ [372, 66, 67, 373, 374, 375, 2, 376, 72, 73, 74, 75, 211, 377, 378, 379, 380, 29, 26, 21, 169, 116, 28, 117, 118, 43, 381, 382, 383, 384, 18, 195, 15, 196, 197, 198, 199, 119, 120, 121, 122, 16, 123, 124, 125, 126, 127, 128, 129, 130, 385, 386, 387, 388, 389, 390, 391, 392, 393, 394, 395, 396, 397, 398, 399, 11, 12, 400, 401, 402, 403, 404, 405, 406, 407, 408, 409, 410, 411, 76, 24, 412, 413, 414, 415, 416, 417, 418, 419, 420, 421, 422, 423, 424, 425, 426, 427, 328, 329, 330, 331, 543, 544, 545, 546, 547, 548, 549, 550, 551, 552, 553, 554, 555, 556, 557, 582, 583, 584, 585, 586, 587, 588, 589, 590, 591, 592, 593, 578, 579, 580, 581, 600, 601, 602, 603] (by decide +kernel) (by decide +kernel)) (goodIn_sub (fun _ h => List.mem_append_left _ (List.mem_append_left _ (List.mem_append_right _ h))) (by decide +kernel))) (goodIn_sub (fun _ h => List.mem_append_left _ (List.mem_append_right _ h)) (by decide +kernel))
set_option maxRecDepth 20000 in
theorem gL_law_L_pass : GoodIn wsL_law (va_wsS RL 120 yL_pass wsL_pass) := goodIn_app (goodIn_of _ (by decide +kernel)) ggL_law_L_pass
set_option maxRecDepth 20000 in
theorem ggL_law_X6_pass : GoodIn wsL_law wsX6_pass := goodIn_r _ [431, 432, 55, 58, 52, 174, 61, 86, 87, 5, 88, 89, 90, 91, 92, 93, 433, 434, 435, 436, 60, 48, 59, 56, 54, 57, 437, 252, 253, 254, 255, 256, 257, 258, 259, 260, 261, 262, 263, 264, 265, 266, 267, 139, 140, 141, 142, 143, 268, 269, 270, 271, 53, 438, 439, 440, 441, 85, 50, 442, 443, 444, 445, 355, 356, 357, 358, 558, 559, 560, 561, 562, 563, 564, 565, 566, 567, 568, 569, 570, 571, 572, 573, 574, 575, 576, 577] (by decide +kernel) (by decide +kernel)
set_option maxRecDepth 20000 in
theorem gL_law_X6_pass : GoodIn wsL_law (wsV RL 122 RX6 yX6_pass wsX6_pass) := goodIn_app (goodIn_of _ (by decide +kernel)) ggL_law_X6_pass
set_option maxRecDepth 20000 in
theorem ggL_law_X5_hour : GoodIn wsL_law wsX5_hour := goodIn_r _ [449, 211, 543, 544, 545, 546, 547, 548, 549, 550, 551, 552, 553, 554, 555, 556, 557] (by decide +kernel) (by decide +kernel)
set_option maxRecDepth 20000 in
theorem gL_law_X5_hour : GoodIn wsL_law (wsV RL 123 RX5 yX5_hour wsX5_hour) := goodIn_app (goodIn_of _ (by decide +kernel)) ggL_law_X5_hour
set_option maxRecDepth 20000 in
theorem ggL_law_X6_hour : GoodIn wsL_law wsX6_hour := goodIn_r _ [453, 93, 432, 558, 559, 560, 561, 562, 563, 564, 565, 566, 567, 568, 569, 570, 571, 572, 573, 574, 575, 576, 577] (by decide +kernel) (by decide +kernel)
set_option maxRecDepth 20000 in
theorem gL_law_X6_hour : GoodIn wsL_law (wsV RL 126 RX6 yX6_hour wsX6_hour) := goodIn_app (goodIn_of _ (by decide +kernel)) ggL_law_X6_hour
set_option maxRecDepth 20000 in
theorem ggL_law_X5_shards : GoodIn wsL_law wsX5_shards := goodIn_r _ [457, 29, 543, 544, 545, 546, 547, 548, 549, 550, 551, 552, 553, 554, 555, 556, 557] (by decide +kernel) (by decide +kernel)
set_option maxRecDepth 20000 in
theorem gL_law_X5_shards : GoodIn wsL_law (wsV RL 127 RX5 yX5_shards wsX5_shards) := goodIn_app (goodIn_of _ (by decide +kernel)) ggL_law_X5_shards
set_option maxRecDepth 20000 in
theorem ggL_law_X6_shards : GoodIn wsL_law wsX6_shards := goodIn_r _ [461, 93, 55, 558, 559, 560, 561, 562, 563, 564, 565, 566, 567, 568, 569, 570, 571, 572, 573, 574, 575, 576, 577] (by decide +kernel) (by decide +kernel)
set_option maxRecDepth 20000 in
theorem gL_law_X6_shards : GoodIn wsL_law (wsV RL 130 RX6 yX6_shards wsX6_shards) := goodIn_app (goodIn_of _ (by decide +kernel)) ggL_law_X6_shards
set_option maxRecDepth 20000 in
theorem ggL_law_L_shardOf : GoodIn wsL_law wsL_shardOf := goodIn_ca (goodIn_r _ [464, 101, 465, 466, 467, 2, 468, 106, 107, 182, 183, 184, 185, 186, 187, 188, 189, 29, 26, 543, 544, 545, 546, 547, 548, 549, 550, 551, 552, 553, 554, 555, 556, 557, 585, 586, 587, 588, 589, 590, 591, 592, 593] (by decide +kernel) (by decide +kernel)) (goodIn_sub (fun _ h => List.mem_append_right _ h) (by decide +kernel))
set_option maxRecDepth 20000 in
theorem gL_law_L_shardOf : GoodIn wsL_law (va_wsS RL 131 yL_shardOf wsL_shardOf) := goodIn_app (goodIn_of _ (by decide +kernel)) ggL_law_L_shardOf
set_option maxRecDepth 20000 in
theorem ggL_law_X6_shardOf : GoodIn wsL_law wsX6_shardOf := goodIn_r _ [472, 245, 246, 5, 247, 86, 87, 88, 89, 90, 91, 92, 93, 248, 249, 250, 251, 56, 558, 559, 560, 561, 562, 563, 564, 565, 566, 567, 568, 569, 570, 571, 572, 573, 574, 575, 576, 577] (by decide +kernel) (by decide +kernel)
set_option maxRecDepth 20000 in
theorem gL_law_X6_shardOf : GoodIn wsL_law (wsV RL 133 RX6 yX6_shardOf wsX6_shardOf) := goodIn_app (goodIn_of _ (by decide +kernel)) ggL_law_X6_shardOf
set_option maxRecDepth 20000 in
theorem ggL_law_L_shard : GoodIn wsL_law wsL_shard := goodIn_ca (goodIn_ca (goodIn_r _ [475, 101, 66, 476, 477, 478, 2, 479, 106, 107, 72, 73, 26, 328, 329, 330, 331, 29, 543, 544, 545, 546, 547, 548, 549, 550, 551, 552, 553, 554, 555, 556, 557, 585, 586, 587, 588, 589, 590, 591, 592, 593, 578, 579, 580, 581] (by decide +kernel) (by decide +kernel)) (goodIn_sub (fun _ h => List.mem_append_right _ h) (by decide +kernel))) (goodIn_sub (fun _ h => List.mem_append_left _ (List.mem_append_left _ (List.mem_append_right _ h))) (by decide +kernel))
set_option maxRecDepth 20000 in
theorem gL_law_L_shard : GoodIn wsL_law (va_wsS RL 134 yL_shard wsL_shard) := goodIn_app (goodIn_of _ (by decide +kernel)) ggL_law_L_shard
set_option maxRecDepth 20000 in
theorem ggL_law_X6_shard : GoodIn wsL_law wsX6_shard := goodIn_r _ [483, 56, 57, 58, 61, 340, 341, 342, 5, 343, 55, 86, 87, 88, 89, 90, 91, 92, 93, 256, 257, 258, 259, 260, 261, 262, 263, 54, 264, 265, 266, 267, 59, 558, 559, 560, 561, 562, 563, 564, 565, 566, 567, 568, 569, 570, 571, 572, 573, 574, 575, 576, 577] (by decide +kernel) (by decide +kernel)
set_option maxRecDepth 20000 in
theorem gL_law_X6_shard : GoodIn wsL_law (wsV RL 136 RX6 yX6_shard wsX6_shard) := goodIn_app (goodIn_of _ (by decide +kernel)) ggL_law_X6_shard
set_option maxRecDepth 20000 in
theorem ggL_law_L_machineOf : GoodIn wsL_law wsL_machineOf := goodIn_ca (goodIn_ca (goodIn_r _ [486, 101, 66, 487, 488, 489, 2, 490, 106, 107, 72, 73, 24, 108, 109, 110, 111, 76, 412, 413, 414, 415, 29, 26, 491, 492, 493, 494, 543, 544, 545, 546, 547, 548, 549, 550, 551, 552, 553, 554, 555, 556, 557, 578, 579, 580, 581, 585, 586, 587, 588, 589, 590, 591, 592, 593] (by decide +kernel) (by decide +kernel)) (goodIn_sub (fun _ h => List.mem_append_right _ h) (by decide +kernel))) (goodIn_sub (fun _ h => List.mem_append_left _ (List.mem_append_left _ (List.mem_append_right _ h))) (by decide +kernel))
set_option maxRecDepth 20000 in
theorem gL_law_L_machineOf : GoodIn wsL_law (va_wsS RL 137 yL_machineOf wsL_machineOf) := goodIn_app (goodIn_of _ (by decide +kernel)) ggL_law_L_machineOf
set_option maxRecDepth 20000 in
theorem ggL_law_X6_machineOf : GoodIn wsL_law wsX6_machineOf := goodIn_r _ [498, 50, 55, 57, 135, 136, 137, 5, 138, 85, 86, 87, 88, 89, 90, 91, 92, 93, 252, 253, 254, 255, 58, 256, 257, 258, 259, 56, 260, 261, 262, 263, 54, 264, 265, 266, 267, 59, 442, 443, 444, 445, 61, 558, 559, 560, 561, 562, 563, 564, 565, 566, 567, 568, 569, 570, 571, 572, 573, 574, 575, 576, 577] (by decide +kernel) (by decide +kernel)
set_option maxRecDepth 20000 in
theorem gL_law_X6_machineOf : GoodIn wsL_law (wsV RL 139 RX6 yX6_machineOf wsX6_machineOf) := goodIn_app (goodIn_of _ (by decide +kernel)) ggL_law_X6_machineOf
set_option maxRecDepth 20000 in
theorem ggL_law_L_tenant : GoodIn wsL_law wsL_tenant := goodIn_ca (goodIn_ca (goodIn_r _ [501, 101, 66, 502, 503, 504, 2, 505, 106, 107, 72, 73, 21, 151, 152, 153, 154, 543, 544, 545, 546, 547, 548, 549, 550, 551, 552, 553, 554, 555, 556, 557, 582, 583, 584] (by decide +kernel) (by decide +kernel)) (goodIn_sub (fun _ h => List.mem_append_right _ h) (by decide +kernel))) (goodIn_sub (fun _ h => List.mem_append_left _ (List.mem_append_left _ (List.mem_append_right _ h))) (by decide +kernel))
set_option maxRecDepth 20000 in
theorem gL_law_L_tenant : GoodIn wsL_law (va_wsS RL 140 yL_tenant wsL_tenant) := goodIn_app (goodIn_of _ (by decide +kernel)) ggL_law_L_tenant
set_option maxRecDepth 20000 in
theorem ggL_law_X6_tenant : GoodIn wsL_law wsX6_tenant := goodIn_r _ [509, 51, 52, 159, 160, 5, 161, 86, 87, 88, 89, 90, 91, 92, 93, 268, 269, 270, 271, 53, 54, 558, 559, 560, 561, 562, 563, 564, 565, 566, 567, 568, 569, 570, 571, 572, 573, 574, 575, 576, 577] (by decide +kernel) (by decide +kernel)
set_option maxRecDepth 20000 in
theorem gL_law_X6_tenant : GoodIn wsL_law (wsV RL 142 RX6 yX6_tenant wsX6_tenant) := goodIn_app (goodIn_of _ (by decide +kernel)) ggL_law_X6_tenant
set_option maxRecDepth 20000 in
theorem ggL_law_L_billAnew : GoodIn wsL_law wsL_billAnew := goodIn_ca (goodIn_r _ [512, 101, 513, 514, 515, 2, 516, 106, 107, 212, 211, 151, 152, 153, 154, 517, 210, 518, 519, 226, 227, 221, 222, 543, 544, 545, 546, 547, 548, 549, 550, 551, 552, 553, 554, 555, 556, 557, 594, 595, 596, 597, 598, 599] (by decide +kernel) (by decide +kernel)) (goodIn_sub (fun _ h => List.mem_append_right _ h) (by decide +kernel))
set_option maxRecDepth 20000 in
theorem gL_law_L_billAnew : GoodIn wsL_law (va_wsS RL 143 yL_billAnew wsL_billAnew) := goodIn_app (goodIn_of _ (by decide +kernel)) ggL_law_L_billAnew
set_option maxRecDepth 20000 in
theorem ggL_law_X6_billAnew : GoodIn wsL_law wsX6_billAnew := goodIn_r _ [523, 52, 159, 160, 5, 161, 86, 87, 88, 89, 90, 91, 92, 93, 558, 559, 560, 561, 562, 563, 564, 565, 566, 567, 568, 569, 570, 571, 572, 573, 574, 575, 576, 577] (by decide +kernel) (by decide +kernel)
set_option maxRecDepth 20000 in
theorem gL_law_X6_billAnew : GoodIn wsL_law (wsV RL 145 RX6 yX6_billAnew wsX6_billAnew) := goodIn_app (goodIn_of _ (by decide +kernel)) ggL_law_X6_billAnew
set_option maxRecDepth 20000 in
theorem ggL_law_L_whereAnew : GoodIn wsL_law wsL_whereAnew := goodIn_ca (goodIn_r _ [526, 101, 527, 528, 529, 2, 530, 106, 107, 396, 76, 182, 183, 184, 185, 543, 544, 545, 546, 547, 548, 549, 550, 551, 552, 553, 554, 555, 556, 557, 600, 601, 602, 603] (by decide +kernel) (by decide +kernel)) (goodIn_sub (fun _ h => List.mem_append_right _ h) (by decide +kernel))
set_option maxRecDepth 20000 in
theorem gL_law_L_whereAnew : GoodIn wsL_law (va_wsS RL 146 yL_whereAnew wsL_whereAnew) := goodIn_app (goodIn_of _ (by decide +kernel)) ggL_law_L_whereAnew
set_option maxRecDepth 20000 in
theorem ggL_law_X6_whereAnew : GoodIn wsL_law wsX6_whereAnew := goodIn_r _ [534, 57, 245, 246, 5, 247, 86, 87, 88, 89, 90, 91, 92, 93, 248, 249, 250, 251, 56, 558, 559, 560, 561, 562, 563, 564, 565, 566, 567, 568, 569, 570, 571, 572, 573, 574, 575, 576, 577] (by decide +kernel) (by decide +kernel)
set_option maxRecDepth 20000 in
theorem gL_law_X6_whereAnew : GoodIn wsL_law (wsV RL 148 RX6 yX6_whereAnew wsX6_whereAnew) := goodIn_app (goodIn_of _ (by decide +kernel)) ggL_law_X6_whereAnew
set_option maxRecDepth 20000 in
theorem ggL_law_X5_moves : GoodIn wsL_law wsX5_moves := goodIn_r _ [538, 392, 123, 543, 544, 545, 546, 547, 548, 549, 550, 551, 552, 553, 554, 555, 556, 557] (by decide +kernel) (by decide +kernel)
set_option maxRecDepth 20000 in
theorem gL_law_X5_moves : GoodIn wsL_law (wsV RL 149 RX5 yX5_moves wsX5_moves) := goodIn_app (goodIn_of _ (by decide +kernel)) ggL_law_X5_moves
set_option maxRecDepth 20000 in
theorem ggL_law_X6_moves : GoodIn wsL_law wsX6_moves := goodIn_r _ [542, 93, 437, 143, 558, 559, 560, 561, 562, 563, 564, 565, 566, 567, 568, 569, 570, 571, 572, 573, 574, 575, 576, 577] (by decide +kernel) (by decide +kernel)
set_option maxRecDepth 20000 in
theorem gL_law_X6_moves : GoodIn wsL_law (wsV RL 153 RX6 yX6_moves wsX6_moves) := goodIn_app (goodIn_of _ (by decide +kernel)) ggL_law_X6_moves
theorem dL_law_0 : decode cL_law 0 = .ok (.new 8, 3) := by decide +kernel
theorem dL_law_3 : decode cL_law 3 = .ok (.dup, 1) := by decide +kernel
theorem dL_law_4 : decode cL_law 4 = .ok (.invokespecial 73, 3) := by decide +kernel
theorem dL_law_7 : decode cL_law 7 = .ok (.astore_n 1, 1) := by decide +kernel
theorem dL_law_8 : decode cL_law 8 = .ok (.new 74, 3) := by decide +kernel
theorem dL_law_11 : decode cL_law 11 = .ok (.dup, 1) := by decide +kernel
theorem dL_law_12 : decode cL_law 12 = .ok (.invokespecial 76, 3) := by decide +kernel
theorem dL_law_15 : decode cL_law 15 = .ok (.astore_n 2, 1) := by decide +kernel
theorem dL_law_16 : decode cL_law 16 = .ok (.iconst 1, 1) := by decide +kernel
theorem dL_law_17 : decode cL_law 17 = .ok (.newarray .long, 2) := by decide +kernel
theorem dL_law_19 : decode cL_law 19 = .ok (.astore_n 3, 1) := by decide +kernel
theorem dL_law_20 : decode cL_law 20 = .ok (.iconst 0, 1) := by decide +kernel
theorem dL_law_21 : decode cL_law 21 = .ok (.istore 4, 2) := by decide +kernel
theorem dL_law_23 : decode cL_law 23 = .ok (.iload 4, 2) := by decide +kernel
theorem dL_law_25 : decode cL_law 25 = .ok (.aload_n 0, 1) := by decide +kernel
theorem dL_law_26 : decode cL_law 26 = .ok (.arraylength, 1) := by decide +kernel
theorem dL_law_27 : decode cL_law 27 = .ok (.iconst 4, 1) := by decide +kernel
theorem dL_law_28 : decode cL_law 28 = .ok (.isub, 1) := by decide +kernel
theorem dL_law_29 : decode cL_law 29 = .ok (.if_icmp .gt 1307, 3) := by decide +kernel
theorem dL_law_32 : decode cL_law 32 = .ok (.aload_n 0, 1) := by decide +kernel
theorem dL_law_33 : decode cL_law 33 = .ok (.iload 4, 2) := by decide +kernel
theorem dL_law_35 : decode cL_law 35 = .ok (.iaload, 1) := by decide +kernel
theorem dL_law_36 : decode cL_law 36 = .ok (.bipush 31, 2) := by decide +kernel
theorem dL_law_38 : decode cL_law 38 = .ok (.iand, 1) := by decide +kernel
theorem dL_law_39 : decode cL_law 39 = .ok (.tableswitch 1291 0 20 #[97, 153, 244, 312, 368, 448, 504, 560, 616, 672, 740, 796, 852, 865, 878, 934, 1002, 1070, 1138, 1194, 1250], 97) := by decide +kernel
theorem dL_law_136 : decode cL_law 136 = .ok (.aload_n 1, 1) := by decide +kernel
theorem dL_law_137 : decode cL_law 137 = .ok (.aload_n 0, 1) := by decide +kernel
theorem dL_law_138 : decode cL_law 138 = .ok (.iload 4, 2) := by decide +kernel
theorem dL_law_140 : decode cL_law 140 = .ok (.iconst 1, 1) := by decide +kernel
theorem dL_law_141 : decode cL_law 141 = .ok (.iadd, 1) := by decide +kernel
theorem dL_law_142 : decode cL_law 142 = .ok (.iaload, 1) := by decide +kernel
theorem dL_law_143 : decode cL_law 143 = .ok (.aload_n 3, 1) := by decide +kernel
theorem dL_law_144 : decode cL_law 144 = .ok (.invokestatic 77, 3) := by decide +kernel
theorem dL_law_147 : decode cL_law 147 = .ok (.istore 5, 2) := by decide +kernel
theorem dL_law_149 : decode cL_law 149 = .ok (.aload_n 2, 1) := by decide +kernel
theorem dL_law_150 : decode cL_law 150 = .ok (.aload_n 0, 1) := by decide +kernel
theorem dL_law_151 : decode cL_law 151 = .ok (.iload 4, 2) := by decide +kernel
theorem dL_law_153 : decode cL_law 153 = .ok (.iconst 1, 1) := by decide +kernel
theorem dL_law_154 : decode cL_law 154 = .ok (.iadd, 1) := by decide +kernel
theorem dL_law_155 : decode cL_law 155 = .ok (.iaload, 1) := by decide +kernel
theorem dL_law_156 : decode cL_law 156 = .ok (.invokevirtual 82, 3) := by decide +kernel
theorem dL_law_159 : decode cL_law 159 = .ok (.istore 6, 2) := by decide +kernel
theorem dL_law_161 : decode cL_law 161 = .ok (.aload_n 2, 1) := by decide +kernel
theorem dL_law_162 : decode cL_law 162 = .ok (.invokevirtual 83, 3) := by decide +kernel
theorem dL_law_165 : decode cL_law 165 = .ok (.iload 5, 2) := by decide +kernel
theorem dL_law_167 : decode cL_law 167 = .ok (.if_icmp .eq 5, 3) := by decide +kernel
theorem dL_law_170 : decode cL_law 170 = .ok (.iconst 0, 1) := by decide +kernel
theorem dL_law_171 : decode cL_law 171 = .ok (.ireturn, 1) := by decide +kernel
theorem dL_law_172 : decode cL_law 172 = .ok (.iload 5, 2) := by decide +kernel
theorem dL_law_174 : decode cL_law 174 = .ok (.ifCond .ne 15, 3) := by decide +kernel
theorem dL_law_177 : decode cL_law 177 = .ok (.aload_n 3, 1) := by decide +kernel
theorem dL_law_178 : decode cL_law 178 = .ok (.iconst 0, 1) := by decide +kernel
theorem dL_law_179 : decode cL_law 179 = .ok (.laload, 1) := by decide +kernel
theorem dL_law_180 : decode cL_law 180 = .ok (.iload 6, 2) := by decide +kernel
theorem dL_law_182 : decode cL_law 182 = .ok (.i2l, 1) := by decide +kernel
theorem dL_law_183 : decode cL_law 183 = .ok (.lcmp, 1) := by decide +kernel
theorem dL_law_184 : decode cL_law 184 = .ok (.ifCond .eq 5, 3) := by decide +kernel
theorem dL_law_187 : decode cL_law 187 = .ok (.iconst 0, 1) := by decide +kernel
theorem dL_law_188 : decode cL_law 188 = .ok (.ireturn, 1) := by decide +kernel
theorem dL_law_189 : decode cL_law 189 = .ok (.goto 1141, 3) := by decide +kernel
theorem dL_law_192 : decode cL_law 192 = .ok (.aload_n 1, 1) := by decide +kernel
theorem dL_law_193 : decode cL_law 193 = .ok (.aload_n 0, 1) := by decide +kernel
theorem dL_law_194 : decode cL_law 194 = .ok (.iload 4, 2) := by decide +kernel
theorem dL_law_196 : decode cL_law 196 = .ok (.iconst 1, 1) := by decide +kernel
theorem dL_law_197 : decode cL_law 197 = .ok (.iadd, 1) := by decide +kernel
theorem dL_law_198 : decode cL_law 198 = .ok (.iaload, 1) := by decide +kernel
theorem dL_law_199 : decode cL_law 199 = .ok (.aload_n 0, 1) := by decide +kernel
theorem dL_law_200 : decode cL_law 200 = .ok (.iload 4, 2) := by decide +kernel
theorem dL_law_202 : decode cL_law 202 = .ok (.iconst 2, 1) := by decide +kernel
theorem dL_law_203 : decode cL_law 203 = .ok (.iadd, 1) := by decide +kernel
theorem dL_law_204 : decode cL_law 204 = .ok (.iaload, 1) := by decide +kernel
theorem dL_law_205 : decode cL_law 205 = .ok (.ifCond .eq 7, 3) := by decide +kernel
theorem dL_law_208 : decode cL_law 208 = .ok (.iconst 1, 1) := by decide +kernel
theorem dL_law_209 : decode cL_law 209 = .ok (.goto 4, 3) := by decide +kernel
theorem dL_law_212 : decode cL_law 212 = .ok (.iconst 0, 1) := by decide +kernel
theorem dL_law_213 : decode cL_law 213 = .ok (.aload_n 3, 1) := by decide +kernel
theorem dL_law_214 : decode cL_law 214 = .ok (.invokestatic 87, 3) := by decide +kernel
theorem dL_law_217 : decode cL_law 217 = .ok (.istore 5, 2) := by decide +kernel
theorem dL_law_219 : decode cL_law 219 = .ok (.aload_n 2, 1) := by decide +kernel
theorem dL_law_220 : decode cL_law 220 = .ok (.aload_n 0, 1) := by decide +kernel
theorem dL_law_221 : decode cL_law 221 = .ok (.iload 4, 2) := by decide +kernel
theorem dL_law_223 : decode cL_law 223 = .ok (.iconst 1, 1) := by decide +kernel
theorem dL_law_224 : decode cL_law 224 = .ok (.iadd, 1) := by decide +kernel
theorem dL_law_225 : decode cL_law 225 = .ok (.iaload, 1) := by decide +kernel
theorem dL_law_226 : decode cL_law 226 = .ok (.aload_n 0, 1) := by decide +kernel
theorem dL_law_227 : decode cL_law 227 = .ok (.iload 4, 2) := by decide +kernel
theorem dL_law_229 : decode cL_law 229 = .ok (.iconst 2, 1) := by decide +kernel
theorem dL_law_230 : decode cL_law 230 = .ok (.iadd, 1) := by decide +kernel
theorem dL_law_231 : decode cL_law 231 = .ok (.iaload, 1) := by decide +kernel
theorem dL_law_232 : decode cL_law 232 = .ok (.ifCond .eq 7, 3) := by decide +kernel
theorem dL_law_235 : decode cL_law 235 = .ok (.iconst 1, 1) := by decide +kernel
theorem dL_law_236 : decode cL_law 236 = .ok (.goto 4, 3) := by decide +kernel
theorem dL_law_239 : decode cL_law 239 = .ok (.iconst 0, 1) := by decide +kernel
theorem dL_law_240 : decode cL_law 240 = .ok (.invokevirtual 90, 3) := by decide +kernel
theorem dL_law_243 : decode cL_law 243 = .ok (.istore 6, 2) := by decide +kernel
theorem dL_law_245 : decode cL_law 245 = .ok (.aload_n 2, 1) := by decide +kernel
theorem dL_law_246 : decode cL_law 246 = .ok (.invokevirtual 83, 3) := by decide +kernel
theorem dL_law_249 : decode cL_law 249 = .ok (.iload 5, 2) := by decide +kernel
theorem dL_law_251 : decode cL_law 251 = .ok (.if_icmp .eq 5, 3) := by decide +kernel
theorem dL_law_254 : decode cL_law 254 = .ok (.iconst 0, 1) := by decide +kernel
theorem dL_law_255 : decode cL_law 255 = .ok (.ireturn, 1) := by decide +kernel
theorem dL_law_256 : decode cL_law 256 = .ok (.iload 5, 2) := by decide +kernel
theorem dL_law_258 : decode cL_law 258 = .ok (.ifCond .ne 22, 3) := by decide +kernel
theorem dL_law_261 : decode cL_law 261 = .ok (.aload_n 3, 1) := by decide +kernel
theorem dL_law_262 : decode cL_law 262 = .ok (.iconst 0, 1) := by decide +kernel
theorem dL_law_263 : decode cL_law 263 = .ok (.laload, 1) := by decide +kernel
theorem dL_law_264 : decode cL_law 264 = .ok (.iload 6, 2) := by decide +kernel
theorem dL_law_266 : decode cL_law 266 = .ok (.ifCond .eq 7, 3) := by decide +kernel
theorem dL_law_269 : decode cL_law 269 = .ok (.lconst 1, 1) := by decide +kernel
theorem dL_law_270 : decode cL_law 270 = .ok (.goto 4, 3) := by decide +kernel
theorem dL_law_273 : decode cL_law 273 = .ok (.lconst 0, 1) := by decide +kernel
theorem dL_law_274 : decode cL_law 274 = .ok (.lcmp, 1) := by decide +kernel
theorem dL_law_275 : decode cL_law 275 = .ok (.ifCond .eq 5, 3) := by decide +kernel
theorem dL_law_278 : decode cL_law 278 = .ok (.iconst 0, 1) := by decide +kernel
theorem dL_law_279 : decode cL_law 279 = .ok (.ireturn, 1) := by decide +kernel
theorem dL_law_280 : decode cL_law 280 = .ok (.goto 1050, 3) := by decide +kernel
theorem dL_law_283 : decode cL_law 283 = .ok (.aload_n 1, 1) := by decide +kernel
theorem dL_law_284 : decode cL_law 284 = .ok (.aload_n 0, 1) := by decide +kernel
theorem dL_law_285 : decode cL_law 285 = .ok (.iload 4, 2) := by decide +kernel
theorem dL_law_287 : decode cL_law 287 = .ok (.iconst 1, 1) := by decide +kernel
theorem dL_law_288 : decode cL_law 288 = .ok (.iadd, 1) := by decide +kernel
theorem dL_law_289 : decode cL_law 289 = .ok (.iaload, 1) := by decide +kernel
theorem dL_law_290 : decode cL_law 290 = .ok (.aload_n 0, 1) := by decide +kernel
theorem dL_law_291 : decode cL_law 291 = .ok (.iload 4, 2) := by decide +kernel
theorem dL_law_293 : decode cL_law 293 = .ok (.iconst 2, 1) := by decide +kernel
theorem dL_law_294 : decode cL_law 294 = .ok (.iadd, 1) := by decide +kernel
theorem dL_law_295 : decode cL_law 295 = .ok (.iaload, 1) := by decide +kernel
theorem dL_law_296 : decode cL_law 296 = .ok (.aload_n 3, 1) := by decide +kernel
theorem dL_law_297 : decode cL_law 297 = .ok (.invokestatic 91, 3) := by decide +kernel
theorem dL_law_300 : decode cL_law 300 = .ok (.istore 5, 2) := by decide +kernel
theorem dL_law_302 : decode cL_law 302 = .ok (.aload_n 2, 1) := by decide +kernel
theorem dL_law_303 : decode cL_law 303 = .ok (.aload_n 0, 1) := by decide +kernel
theorem dL_law_304 : decode cL_law 304 = .ok (.iload 4, 2) := by decide +kernel
theorem dL_law_306 : decode cL_law 306 = .ok (.iconst 1, 1) := by decide +kernel
theorem dL_law_307 : decode cL_law 307 = .ok (.iadd, 1) := by decide +kernel
theorem dL_law_308 : decode cL_law 308 = .ok (.iaload, 1) := by decide +kernel
theorem dL_law_309 : decode cL_law 309 = .ok (.aload_n 0, 1) := by decide +kernel
theorem dL_law_310 : decode cL_law 310 = .ok (.iload 4, 2) := by decide +kernel
theorem dL_law_312 : decode cL_law 312 = .ok (.iconst 2, 1) := by decide +kernel
theorem dL_law_313 : decode cL_law 313 = .ok (.iadd, 1) := by decide +kernel
theorem dL_law_314 : decode cL_law 314 = .ok (.iaload, 1) := by decide +kernel
theorem dL_law_315 : decode cL_law 315 = .ok (.invokevirtual 94, 3) := by decide +kernel
theorem dL_law_318 : decode cL_law 318 = .ok (.istore 6, 2) := by decide +kernel
theorem dL_law_320 : decode cL_law 320 = .ok (.aload_n 2, 1) := by decide +kernel
theorem dL_law_321 : decode cL_law 321 = .ok (.invokevirtual 83, 3) := by decide +kernel
theorem dL_law_324 : decode cL_law 324 = .ok (.iload 5, 2) := by decide +kernel
theorem dL_law_326 : decode cL_law 326 = .ok (.if_icmp .eq 5, 3) := by decide +kernel
theorem dL_law_329 : decode cL_law 329 = .ok (.iconst 0, 1) := by decide +kernel
theorem dL_law_330 : decode cL_law 330 = .ok (.ireturn, 1) := by decide +kernel
theorem dL_law_331 : decode cL_law 331 = .ok (.iload 5, 2) := by decide +kernel
theorem dL_law_333 : decode cL_law 333 = .ok (.ifCond .ne 15, 3) := by decide +kernel
theorem dL_law_336 : decode cL_law 336 = .ok (.aload_n 3, 1) := by decide +kernel
theorem dL_law_337 : decode cL_law 337 = .ok (.iconst 0, 1) := by decide +kernel
theorem dL_law_338 : decode cL_law 338 = .ok (.laload, 1) := by decide +kernel
theorem dL_law_339 : decode cL_law 339 = .ok (.iload 6, 2) := by decide +kernel
theorem dL_law_341 : decode cL_law 341 = .ok (.i2l, 1) := by decide +kernel
theorem dL_law_342 : decode cL_law 342 = .ok (.lcmp, 1) := by decide +kernel
theorem dL_law_343 : decode cL_law 343 = .ok (.ifCond .eq 5, 3) := by decide +kernel
theorem dL_law_346 : decode cL_law 346 = .ok (.iconst 0, 1) := by decide +kernel
theorem dL_law_347 : decode cL_law 347 = .ok (.ireturn, 1) := by decide +kernel
theorem dL_law_348 : decode cL_law 348 = .ok (.goto 982, 3) := by decide +kernel
theorem dL_law_351 : decode cL_law 351 = .ok (.aload_n 1, 1) := by decide +kernel
theorem dL_law_352 : decode cL_law 352 = .ok (.aload_n 0, 1) := by decide +kernel
theorem dL_law_353 : decode cL_law 353 = .ok (.iload 4, 2) := by decide +kernel
theorem dL_law_355 : decode cL_law 355 = .ok (.iconst 1, 1) := by decide +kernel
theorem dL_law_356 : decode cL_law 356 = .ok (.iadd, 1) := by decide +kernel
theorem dL_law_357 : decode cL_law 357 = .ok (.iaload, 1) := by decide +kernel
theorem dL_law_358 : decode cL_law 358 = .ok (.aload_n 3, 1) := by decide +kernel
theorem dL_law_359 : decode cL_law 359 = .ok (.invokestatic 95, 3) := by decide +kernel
theorem dL_law_362 : decode cL_law 362 = .ok (.istore 5, 2) := by decide +kernel
theorem dL_law_364 : decode cL_law 364 = .ok (.aload_n 2, 1) := by decide +kernel
theorem dL_law_365 : decode cL_law 365 = .ok (.aload_n 0, 1) := by decide +kernel
theorem dL_law_366 : decode cL_law 366 = .ok (.iload 4, 2) := by decide +kernel
theorem dL_law_368 : decode cL_law 368 = .ok (.iconst 1, 1) := by decide +kernel
theorem dL_law_369 : decode cL_law 369 = .ok (.iadd, 1) := by decide +kernel
theorem dL_law_370 : decode cL_law 370 = .ok (.iaload, 1) := by decide +kernel
theorem dL_law_371 : decode cL_law 371 = .ok (.invokevirtual 97, 3) := by decide +kernel
theorem dL_law_374 : decode cL_law 374 = .ok (.istore 6, 2) := by decide +kernel
theorem dL_law_376 : decode cL_law 376 = .ok (.aload_n 2, 1) := by decide +kernel
theorem dL_law_377 : decode cL_law 377 = .ok (.invokevirtual 83, 3) := by decide +kernel
theorem dL_law_380 : decode cL_law 380 = .ok (.iload 5, 2) := by decide +kernel
theorem dL_law_382 : decode cL_law 382 = .ok (.if_icmp .eq 5, 3) := by decide +kernel
theorem dL_law_385 : decode cL_law 385 = .ok (.iconst 0, 1) := by decide +kernel
theorem dL_law_386 : decode cL_law 386 = .ok (.ireturn, 1) := by decide +kernel
theorem dL_law_387 : decode cL_law 387 = .ok (.iload 5, 2) := by decide +kernel
theorem dL_law_389 : decode cL_law 389 = .ok (.ifCond .ne 15, 3) := by decide +kernel
theorem dL_law_392 : decode cL_law 392 = .ok (.aload_n 3, 1) := by decide +kernel
theorem dL_law_393 : decode cL_law 393 = .ok (.iconst 0, 1) := by decide +kernel
theorem dL_law_394 : decode cL_law 394 = .ok (.laload, 1) := by decide +kernel
theorem dL_law_395 : decode cL_law 395 = .ok (.iload 6, 2) := by decide +kernel
theorem dL_law_397 : decode cL_law 397 = .ok (.i2l, 1) := by decide +kernel
theorem dL_law_398 : decode cL_law 398 = .ok (.lcmp, 1) := by decide +kernel
theorem dL_law_399 : decode cL_law 399 = .ok (.ifCond .eq 5, 3) := by decide +kernel
theorem dL_law_402 : decode cL_law 402 = .ok (.iconst 0, 1) := by decide +kernel
theorem dL_law_403 : decode cL_law 403 = .ok (.ireturn, 1) := by decide +kernel
theorem dL_law_404 : decode cL_law 404 = .ok (.goto 926, 3) := by decide +kernel
theorem dL_law_407 : decode cL_law 407 = .ok (.aload_n 1, 1) := by decide +kernel
theorem dL_law_408 : decode cL_law 408 = .ok (.aload_n 0, 1) := by decide +kernel
theorem dL_law_409 : decode cL_law 409 = .ok (.iload 4, 2) := by decide +kernel
theorem dL_law_411 : decode cL_law 411 = .ok (.iconst 1, 1) := by decide +kernel
theorem dL_law_412 : decode cL_law 412 = .ok (.iadd, 1) := by decide +kernel
theorem dL_law_413 : decode cL_law 413 = .ok (.iaload, 1) := by decide +kernel
theorem dL_law_414 : decode cL_law 414 = .ok (.aload_n 0, 1) := by decide +kernel
theorem dL_law_415 : decode cL_law 415 = .ok (.iload 4, 2) := by decide +kernel
theorem dL_law_417 : decode cL_law 417 = .ok (.iconst 2, 1) := by decide +kernel
theorem dL_law_418 : decode cL_law 418 = .ok (.iadd, 1) := by decide +kernel
theorem dL_law_419 : decode cL_law 419 = .ok (.iaload, 1) := by decide +kernel
theorem dL_law_420 : decode cL_law 420 = .ok (.aload_n 0, 1) := by decide +kernel
theorem dL_law_421 : decode cL_law 421 = .ok (.iload 4, 2) := by decide +kernel
theorem dL_law_423 : decode cL_law 423 = .ok (.iconst 3, 1) := by decide +kernel
theorem dL_law_424 : decode cL_law 424 = .ok (.iadd, 1) := by decide +kernel
theorem dL_law_425 : decode cL_law 425 = .ok (.iaload, 1) := by decide +kernel
theorem dL_law_426 : decode cL_law 426 = .ok (.aload_n 3, 1) := by decide +kernel
theorem dL_law_427 : decode cL_law 427 = .ok (.invokestatic 98, 3) := by decide +kernel
theorem dL_law_430 : decode cL_law 430 = .ok (.istore 5, 2) := by decide +kernel
theorem dL_law_432 : decode cL_law 432 = .ok (.aload_n 2, 1) := by decide +kernel
theorem dL_law_433 : decode cL_law 433 = .ok (.aload_n 0, 1) := by decide +kernel
theorem dL_law_434 : decode cL_law 434 = .ok (.iload 4, 2) := by decide +kernel
theorem dL_law_436 : decode cL_law 436 = .ok (.iconst 1, 1) := by decide +kernel
theorem dL_law_437 : decode cL_law 437 = .ok (.iadd, 1) := by decide +kernel
theorem dL_law_438 : decode cL_law 438 = .ok (.iaload, 1) := by decide +kernel
theorem dL_law_439 : decode cL_law 439 = .ok (.aload_n 0, 1) := by decide +kernel
theorem dL_law_440 : decode cL_law 440 = .ok (.iload 4, 2) := by decide +kernel
theorem dL_law_442 : decode cL_law 442 = .ok (.iconst 2, 1) := by decide +kernel
theorem dL_law_443 : decode cL_law 443 = .ok (.iadd, 1) := by decide +kernel
theorem dL_law_444 : decode cL_law 444 = .ok (.iaload, 1) := by decide +kernel
theorem dL_law_445 : decode cL_law 445 = .ok (.aload_n 0, 1) := by decide +kernel
theorem dL_law_446 : decode cL_law 446 = .ok (.iload 4, 2) := by decide +kernel
theorem dL_law_448 : decode cL_law 448 = .ok (.iconst 3, 1) := by decide +kernel
theorem dL_law_449 : decode cL_law 449 = .ok (.iadd, 1) := by decide +kernel
theorem dL_law_450 : decode cL_law 450 = .ok (.iaload, 1) := by decide +kernel
theorem dL_law_451 : decode cL_law 451 = .ok (.invokevirtual 101, 3) := by decide +kernel
theorem dL_law_454 : decode cL_law 454 = .ok (.istore 6, 2) := by decide +kernel
theorem dL_law_456 : decode cL_law 456 = .ok (.aload_n 2, 1) := by decide +kernel
theorem dL_law_457 : decode cL_law 457 = .ok (.invokevirtual 83, 3) := by decide +kernel
theorem dL_law_460 : decode cL_law 460 = .ok (.iload 5, 2) := by decide +kernel
theorem dL_law_462 : decode cL_law 462 = .ok (.if_icmp .eq 5, 3) := by decide +kernel
theorem dL_law_465 : decode cL_law 465 = .ok (.iconst 0, 1) := by decide +kernel
theorem dL_law_466 : decode cL_law 466 = .ok (.ireturn, 1) := by decide +kernel
theorem dL_law_467 : decode cL_law 467 = .ok (.iload 5, 2) := by decide +kernel
theorem dL_law_469 : decode cL_law 469 = .ok (.ifCond .ne 15, 3) := by decide +kernel
theorem dL_law_472 : decode cL_law 472 = .ok (.aload_n 3, 1) := by decide +kernel
theorem dL_law_473 : decode cL_law 473 = .ok (.iconst 0, 1) := by decide +kernel
theorem dL_law_474 : decode cL_law 474 = .ok (.laload, 1) := by decide +kernel
theorem dL_law_475 : decode cL_law 475 = .ok (.iload 6, 2) := by decide +kernel
theorem dL_law_477 : decode cL_law 477 = .ok (.i2l, 1) := by decide +kernel
theorem dL_law_478 : decode cL_law 478 = .ok (.lcmp, 1) := by decide +kernel
theorem dL_law_479 : decode cL_law 479 = .ok (.ifCond .eq 5, 3) := by decide +kernel
theorem dL_law_482 : decode cL_law 482 = .ok (.iconst 0, 1) := by decide +kernel
theorem dL_law_483 : decode cL_law 483 = .ok (.ireturn, 1) := by decide +kernel
theorem dL_law_484 : decode cL_law 484 = .ok (.goto 846, 3) := by decide +kernel
theorem dL_law_487 : decode cL_law 487 = .ok (.aload_n 1, 1) := by decide +kernel
theorem dL_law_488 : decode cL_law 488 = .ok (.aload_n 0, 1) := by decide +kernel
theorem dL_law_489 : decode cL_law 489 = .ok (.iload 4, 2) := by decide +kernel
theorem dL_law_491 : decode cL_law 491 = .ok (.iconst 1, 1) := by decide +kernel
theorem dL_law_492 : decode cL_law 492 = .ok (.iadd, 1) := by decide +kernel
theorem dL_law_493 : decode cL_law 493 = .ok (.iaload, 1) := by decide +kernel
theorem dL_law_494 : decode cL_law 494 = .ok (.aload_n 3, 1) := by decide +kernel
theorem dL_law_495 : decode cL_law 495 = .ok (.invokestatic 102, 3) := by decide +kernel
theorem dL_law_498 : decode cL_law 498 = .ok (.istore 5, 2) := by decide +kernel
theorem dL_law_500 : decode cL_law 500 = .ok (.aload_n 2, 1) := by decide +kernel
theorem dL_law_501 : decode cL_law 501 = .ok (.aload_n 0, 1) := by decide +kernel
theorem dL_law_502 : decode cL_law 502 = .ok (.iload 4, 2) := by decide +kernel
theorem dL_law_504 : decode cL_law 504 = .ok (.iconst 1, 1) := by decide +kernel
theorem dL_law_505 : decode cL_law 505 = .ok (.iadd, 1) := by decide +kernel
theorem dL_law_506 : decode cL_law 506 = .ok (.iaload, 1) := by decide +kernel
theorem dL_law_507 : decode cL_law 507 = .ok (.invokevirtual 104, 3) := by decide +kernel
theorem dL_law_510 : decode cL_law 510 = .ok (.istore 6, 2) := by decide +kernel
theorem dL_law_512 : decode cL_law 512 = .ok (.aload_n 2, 1) := by decide +kernel
theorem dL_law_513 : decode cL_law 513 = .ok (.invokevirtual 83, 3) := by decide +kernel
theorem dL_law_516 : decode cL_law 516 = .ok (.iload 5, 2) := by decide +kernel
theorem dL_law_518 : decode cL_law 518 = .ok (.if_icmp .eq 5, 3) := by decide +kernel
theorem dL_law_521 : decode cL_law 521 = .ok (.iconst 0, 1) := by decide +kernel
theorem dL_law_522 : decode cL_law 522 = .ok (.ireturn, 1) := by decide +kernel
theorem dL_law_523 : decode cL_law 523 = .ok (.iload 5, 2) := by decide +kernel
theorem dL_law_525 : decode cL_law 525 = .ok (.ifCond .ne 15, 3) := by decide +kernel
theorem dL_law_528 : decode cL_law 528 = .ok (.aload_n 3, 1) := by decide +kernel
theorem dL_law_529 : decode cL_law 529 = .ok (.iconst 0, 1) := by decide +kernel
theorem dL_law_530 : decode cL_law 530 = .ok (.laload, 1) := by decide +kernel
theorem dL_law_531 : decode cL_law 531 = .ok (.iload 6, 2) := by decide +kernel
theorem dL_law_533 : decode cL_law 533 = .ok (.i2l, 1) := by decide +kernel
theorem dL_law_534 : decode cL_law 534 = .ok (.lcmp, 1) := by decide +kernel
theorem dL_law_535 : decode cL_law 535 = .ok (.ifCond .eq 5, 3) := by decide +kernel
theorem dL_law_538 : decode cL_law 538 = .ok (.iconst 0, 1) := by decide +kernel
theorem dL_law_539 : decode cL_law 539 = .ok (.ireturn, 1) := by decide +kernel
theorem dL_law_540 : decode cL_law 540 = .ok (.goto 790, 3) := by decide +kernel
theorem dL_law_543 : decode cL_law 543 = .ok (.aload_n 1, 1) := by decide +kernel
theorem dL_law_544 : decode cL_law 544 = .ok (.aload_n 0, 1) := by decide +kernel
theorem dL_law_545 : decode cL_law 545 = .ok (.iload 4, 2) := by decide +kernel
theorem dL_law_547 : decode cL_law 547 = .ok (.iconst 1, 1) := by decide +kernel
theorem dL_law_548 : decode cL_law 548 = .ok (.iadd, 1) := by decide +kernel
theorem dL_law_549 : decode cL_law 549 = .ok (.iaload, 1) := by decide +kernel
theorem dL_law_550 : decode cL_law 550 = .ok (.aload_n 3, 1) := by decide +kernel
theorem dL_law_551 : decode cL_law 551 = .ok (.invokestatic 105, 3) := by decide +kernel
theorem dL_law_554 : decode cL_law 554 = .ok (.istore 5, 2) := by decide +kernel
theorem dL_law_556 : decode cL_law 556 = .ok (.aload_n 2, 1) := by decide +kernel
theorem dL_law_557 : decode cL_law 557 = .ok (.aload_n 0, 1) := by decide +kernel
theorem dL_law_558 : decode cL_law 558 = .ok (.iload 4, 2) := by decide +kernel
theorem dL_law_560 : decode cL_law 560 = .ok (.iconst 1, 1) := by decide +kernel
theorem dL_law_561 : decode cL_law 561 = .ok (.iadd, 1) := by decide +kernel
theorem dL_law_562 : decode cL_law 562 = .ok (.iaload, 1) := by decide +kernel
theorem dL_law_563 : decode cL_law 563 = .ok (.invokevirtual 107, 3) := by decide +kernel
theorem dL_law_566 : decode cL_law 566 = .ok (.istore 6, 2) := by decide +kernel
theorem dL_law_568 : decode cL_law 568 = .ok (.aload_n 2, 1) := by decide +kernel
theorem dL_law_569 : decode cL_law 569 = .ok (.invokevirtual 83, 3) := by decide +kernel
theorem dL_law_572 : decode cL_law 572 = .ok (.iload 5, 2) := by decide +kernel
theorem dL_law_574 : decode cL_law 574 = .ok (.if_icmp .eq 5, 3) := by decide +kernel
theorem dL_law_577 : decode cL_law 577 = .ok (.iconst 0, 1) := by decide +kernel
theorem dL_law_578 : decode cL_law 578 = .ok (.ireturn, 1) := by decide +kernel
theorem dL_law_579 : decode cL_law 579 = .ok (.iload 5, 2) := by decide +kernel
theorem dL_law_581 : decode cL_law 581 = .ok (.ifCond .ne 15, 3) := by decide +kernel
theorem dL_law_584 : decode cL_law 584 = .ok (.aload_n 3, 1) := by decide +kernel
theorem dL_law_585 : decode cL_law 585 = .ok (.iconst 0, 1) := by decide +kernel
theorem dL_law_586 : decode cL_law 586 = .ok (.laload, 1) := by decide +kernel
theorem dL_law_587 : decode cL_law 587 = .ok (.iload 6, 2) := by decide +kernel
theorem dL_law_589 : decode cL_law 589 = .ok (.i2l, 1) := by decide +kernel
theorem dL_law_590 : decode cL_law 590 = .ok (.lcmp, 1) := by decide +kernel
theorem dL_law_591 : decode cL_law 591 = .ok (.ifCond .eq 5, 3) := by decide +kernel
theorem dL_law_594 : decode cL_law 594 = .ok (.iconst 0, 1) := by decide +kernel
theorem dL_law_595 : decode cL_law 595 = .ok (.ireturn, 1) := by decide +kernel
theorem dL_law_596 : decode cL_law 596 = .ok (.goto 734, 3) := by decide +kernel
theorem dL_law_599 : decode cL_law 599 = .ok (.aload_n 1, 1) := by decide +kernel
theorem dL_law_600 : decode cL_law 600 = .ok (.aload_n 0, 1) := by decide +kernel
theorem dL_law_601 : decode cL_law 601 = .ok (.iload 4, 2) := by decide +kernel
theorem dL_law_603 : decode cL_law 603 = .ok (.iconst 1, 1) := by decide +kernel
theorem dL_law_604 : decode cL_law 604 = .ok (.iadd, 1) := by decide +kernel
theorem dL_law_605 : decode cL_law 605 = .ok (.iaload, 1) := by decide +kernel
theorem dL_law_606 : decode cL_law 606 = .ok (.aload_n 3, 1) := by decide +kernel
theorem dL_law_607 : decode cL_law 607 = .ok (.invokestatic 108, 3) := by decide +kernel
theorem dL_law_610 : decode cL_law 610 = .ok (.istore 5, 2) := by decide +kernel
theorem dL_law_612 : decode cL_law 612 = .ok (.aload_n 2, 1) := by decide +kernel
theorem dL_law_613 : decode cL_law 613 = .ok (.aload_n 0, 1) := by decide +kernel
theorem dL_law_614 : decode cL_law 614 = .ok (.iload 4, 2) := by decide +kernel
theorem dL_law_616 : decode cL_law 616 = .ok (.iconst 1, 1) := by decide +kernel
theorem dL_law_617 : decode cL_law 617 = .ok (.iadd, 1) := by decide +kernel
theorem dL_law_618 : decode cL_law 618 = .ok (.iaload, 1) := by decide +kernel
theorem dL_law_619 : decode cL_law 619 = .ok (.invokevirtual 110, 3) := by decide +kernel
theorem dL_law_622 : decode cL_law 622 = .ok (.istore 6, 2) := by decide +kernel
theorem dL_law_624 : decode cL_law 624 = .ok (.aload_n 2, 1) := by decide +kernel
theorem dL_law_625 : decode cL_law 625 = .ok (.invokevirtual 83, 3) := by decide +kernel
theorem dL_law_628 : decode cL_law 628 = .ok (.iload 5, 2) := by decide +kernel
theorem dL_law_630 : decode cL_law 630 = .ok (.if_icmp .eq 5, 3) := by decide +kernel
theorem dL_law_633 : decode cL_law 633 = .ok (.iconst 0, 1) := by decide +kernel
theorem dL_law_634 : decode cL_law 634 = .ok (.ireturn, 1) := by decide +kernel
theorem dL_law_635 : decode cL_law 635 = .ok (.iload 5, 2) := by decide +kernel
theorem dL_law_637 : decode cL_law 637 = .ok (.ifCond .ne 15, 3) := by decide +kernel
theorem dL_law_640 : decode cL_law 640 = .ok (.aload_n 3, 1) := by decide +kernel
theorem dL_law_641 : decode cL_law 641 = .ok (.iconst 0, 1) := by decide +kernel
theorem dL_law_642 : decode cL_law 642 = .ok (.laload, 1) := by decide +kernel
theorem dL_law_643 : decode cL_law 643 = .ok (.iload 6, 2) := by decide +kernel
theorem dL_law_645 : decode cL_law 645 = .ok (.i2l, 1) := by decide +kernel
theorem dL_law_646 : decode cL_law 646 = .ok (.lcmp, 1) := by decide +kernel
theorem dL_law_647 : decode cL_law 647 = .ok (.ifCond .eq 5, 3) := by decide +kernel
theorem dL_law_650 : decode cL_law 650 = .ok (.iconst 0, 1) := by decide +kernel
theorem dL_law_651 : decode cL_law 651 = .ok (.ireturn, 1) := by decide +kernel
theorem dL_law_652 : decode cL_law 652 = .ok (.goto 678, 3) := by decide +kernel
theorem dL_law_655 : decode cL_law 655 = .ok (.aload_n 1, 1) := by decide +kernel
theorem dL_law_656 : decode cL_law 656 = .ok (.aload_n 0, 1) := by decide +kernel
theorem dL_law_657 : decode cL_law 657 = .ok (.iload 4, 2) := by decide +kernel
theorem dL_law_659 : decode cL_law 659 = .ok (.iconst 1, 1) := by decide +kernel
theorem dL_law_660 : decode cL_law 660 = .ok (.iadd, 1) := by decide +kernel
theorem dL_law_661 : decode cL_law 661 = .ok (.iaload, 1) := by decide +kernel
theorem dL_law_662 : decode cL_law 662 = .ok (.aload_n 3, 1) := by decide +kernel
theorem dL_law_663 : decode cL_law 663 = .ok (.invokestatic 111, 3) := by decide +kernel
theorem dL_law_666 : decode cL_law 666 = .ok (.istore 5, 2) := by decide +kernel
theorem dL_law_668 : decode cL_law 668 = .ok (.aload_n 2, 1) := by decide +kernel
theorem dL_law_669 : decode cL_law 669 = .ok (.aload_n 0, 1) := by decide +kernel
theorem dL_law_670 : decode cL_law 670 = .ok (.iload 4, 2) := by decide +kernel
theorem dL_law_672 : decode cL_law 672 = .ok (.iconst 1, 1) := by decide +kernel
theorem dL_law_673 : decode cL_law 673 = .ok (.iadd, 1) := by decide +kernel
theorem dL_law_674 : decode cL_law 674 = .ok (.iaload, 1) := by decide +kernel
theorem dL_law_675 : decode cL_law 675 = .ok (.invokevirtual 113, 3) := by decide +kernel
theorem dL_law_678 : decode cL_law 678 = .ok (.istore 6, 2) := by decide +kernel
theorem dL_law_680 : decode cL_law 680 = .ok (.aload_n 2, 1) := by decide +kernel
theorem dL_law_681 : decode cL_law 681 = .ok (.invokevirtual 83, 3) := by decide +kernel
theorem dL_law_684 : decode cL_law 684 = .ok (.iload 5, 2) := by decide +kernel
theorem dL_law_686 : decode cL_law 686 = .ok (.if_icmp .eq 5, 3) := by decide +kernel
theorem dL_law_689 : decode cL_law 689 = .ok (.iconst 0, 1) := by decide +kernel
theorem dL_law_690 : decode cL_law 690 = .ok (.ireturn, 1) := by decide +kernel
theorem dL_law_691 : decode cL_law 691 = .ok (.iload 5, 2) := by decide +kernel
theorem dL_law_693 : decode cL_law 693 = .ok (.ifCond .ne 15, 3) := by decide +kernel
theorem dL_law_696 : decode cL_law 696 = .ok (.aload_n 3, 1) := by decide +kernel
theorem dL_law_697 : decode cL_law 697 = .ok (.iconst 0, 1) := by decide +kernel
theorem dL_law_698 : decode cL_law 698 = .ok (.laload, 1) := by decide +kernel
theorem dL_law_699 : decode cL_law 699 = .ok (.iload 6, 2) := by decide +kernel
theorem dL_law_701 : decode cL_law 701 = .ok (.i2l, 1) := by decide +kernel
theorem dL_law_702 : decode cL_law 702 = .ok (.lcmp, 1) := by decide +kernel
theorem dL_law_703 : decode cL_law 703 = .ok (.ifCond .eq 5, 3) := by decide +kernel
theorem dL_law_706 : decode cL_law 706 = .ok (.iconst 0, 1) := by decide +kernel
theorem dL_law_707 : decode cL_law 707 = .ok (.ireturn, 1) := by decide +kernel
theorem dL_law_708 : decode cL_law 708 = .ok (.goto 622, 3) := by decide +kernel
theorem dL_law_711 : decode cL_law 711 = .ok (.aload_n 1, 1) := by decide +kernel
theorem dL_law_712 : decode cL_law 712 = .ok (.aload_n 0, 1) := by decide +kernel
theorem dL_law_713 : decode cL_law 713 = .ok (.iload 4, 2) := by decide +kernel
theorem dL_law_715 : decode cL_law 715 = .ok (.iconst 1, 1) := by decide +kernel
theorem dL_law_716 : decode cL_law 716 = .ok (.iadd, 1) := by decide +kernel
theorem dL_law_717 : decode cL_law 717 = .ok (.iaload, 1) := by decide +kernel
theorem dL_law_718 : decode cL_law 718 = .ok (.aload_n 0, 1) := by decide +kernel
theorem dL_law_719 : decode cL_law 719 = .ok (.iload 4, 2) := by decide +kernel
theorem dL_law_721 : decode cL_law 721 = .ok (.iconst 2, 1) := by decide +kernel
theorem dL_law_722 : decode cL_law 722 = .ok (.iadd, 1) := by decide +kernel
theorem dL_law_723 : decode cL_law 723 = .ok (.iaload, 1) := by decide +kernel
theorem dL_law_724 : decode cL_law 724 = .ok (.aload_n 3, 1) := by decide +kernel
theorem dL_law_725 : decode cL_law 725 = .ok (.invokestatic 114, 3) := by decide +kernel
theorem dL_law_728 : decode cL_law 728 = .ok (.istore 5, 2) := by decide +kernel
theorem dL_law_730 : decode cL_law 730 = .ok (.aload_n 2, 1) := by decide +kernel
theorem dL_law_731 : decode cL_law 731 = .ok (.aload_n 0, 1) := by decide +kernel
theorem dL_law_732 : decode cL_law 732 = .ok (.iload 4, 2) := by decide +kernel
theorem dL_law_734 : decode cL_law 734 = .ok (.iconst 1, 1) := by decide +kernel
theorem dL_law_735 : decode cL_law 735 = .ok (.iadd, 1) := by decide +kernel
theorem dL_law_736 : decode cL_law 736 = .ok (.iaload, 1) := by decide +kernel
theorem dL_law_737 : decode cL_law 737 = .ok (.aload_n 0, 1) := by decide +kernel
theorem dL_law_738 : decode cL_law 738 = .ok (.iload 4, 2) := by decide +kernel
theorem dL_law_740 : decode cL_law 740 = .ok (.iconst 2, 1) := by decide +kernel
theorem dL_law_741 : decode cL_law 741 = .ok (.iadd, 1) := by decide +kernel
theorem dL_law_742 : decode cL_law 742 = .ok (.iaload, 1) := by decide +kernel
theorem dL_law_743 : decode cL_law 743 = .ok (.invokevirtual 116, 3) := by decide +kernel
theorem dL_law_746 : decode cL_law 746 = .ok (.istore 6, 2) := by decide +kernel
theorem dL_law_748 : decode cL_law 748 = .ok (.aload_n 2, 1) := by decide +kernel
theorem dL_law_749 : decode cL_law 749 = .ok (.invokevirtual 83, 3) := by decide +kernel
theorem dL_law_752 : decode cL_law 752 = .ok (.iload 5, 2) := by decide +kernel
theorem dL_law_754 : decode cL_law 754 = .ok (.if_icmp .eq 5, 3) := by decide +kernel
theorem dL_law_757 : decode cL_law 757 = .ok (.iconst 0, 1) := by decide +kernel
theorem dL_law_758 : decode cL_law 758 = .ok (.ireturn, 1) := by decide +kernel
theorem dL_law_759 : decode cL_law 759 = .ok (.iload 5, 2) := by decide +kernel
theorem dL_law_761 : decode cL_law 761 = .ok (.ifCond .ne 15, 3) := by decide +kernel
theorem dL_law_764 : decode cL_law 764 = .ok (.aload_n 3, 1) := by decide +kernel
theorem dL_law_765 : decode cL_law 765 = .ok (.iconst 0, 1) := by decide +kernel
theorem dL_law_766 : decode cL_law 766 = .ok (.laload, 1) := by decide +kernel
theorem dL_law_767 : decode cL_law 767 = .ok (.iload 6, 2) := by decide +kernel
theorem dL_law_769 : decode cL_law 769 = .ok (.i2l, 1) := by decide +kernel
theorem dL_law_770 : decode cL_law 770 = .ok (.lcmp, 1) := by decide +kernel
theorem dL_law_771 : decode cL_law 771 = .ok (.ifCond .eq 5, 3) := by decide +kernel
theorem dL_law_774 : decode cL_law 774 = .ok (.iconst 0, 1) := by decide +kernel
theorem dL_law_775 : decode cL_law 775 = .ok (.ireturn, 1) := by decide +kernel
theorem dL_law_776 : decode cL_law 776 = .ok (.goto 554, 3) := by decide +kernel
theorem dL_law_779 : decode cL_law 779 = .ok (.aload_n 1, 1) := by decide +kernel
theorem dL_law_780 : decode cL_law 780 = .ok (.aload_n 0, 1) := by decide +kernel
theorem dL_law_781 : decode cL_law 781 = .ok (.iload 4, 2) := by decide +kernel
theorem dL_law_783 : decode cL_law 783 = .ok (.iconst 1, 1) := by decide +kernel
theorem dL_law_784 : decode cL_law 784 = .ok (.iadd, 1) := by decide +kernel
theorem dL_law_785 : decode cL_law 785 = .ok (.iaload, 1) := by decide +kernel
theorem dL_law_786 : decode cL_law 786 = .ok (.aload_n 3, 1) := by decide +kernel
theorem dL_law_787 : decode cL_law 787 = .ok (.invokestatic 117, 3) := by decide +kernel
theorem dL_law_790 : decode cL_law 790 = .ok (.istore 5, 2) := by decide +kernel
theorem dL_law_792 : decode cL_law 792 = .ok (.aload_n 2, 1) := by decide +kernel
theorem dL_law_793 : decode cL_law 793 = .ok (.aload_n 0, 1) := by decide +kernel
theorem dL_law_794 : decode cL_law 794 = .ok (.iload 4, 2) := by decide +kernel
theorem dL_law_796 : decode cL_law 796 = .ok (.iconst 1, 1) := by decide +kernel
theorem dL_law_797 : decode cL_law 797 = .ok (.iadd, 1) := by decide +kernel
theorem dL_law_798 : decode cL_law 798 = .ok (.iaload, 1) := by decide +kernel
theorem dL_law_799 : decode cL_law 799 = .ok (.invokevirtual 119, 3) := by decide +kernel
theorem dL_law_802 : decode cL_law 802 = .ok (.istore 6, 2) := by decide +kernel
theorem dL_law_804 : decode cL_law 804 = .ok (.aload_n 2, 1) := by decide +kernel
theorem dL_law_805 : decode cL_law 805 = .ok (.invokevirtual 83, 3) := by decide +kernel
theorem dL_law_808 : decode cL_law 808 = .ok (.iload 5, 2) := by decide +kernel
theorem dL_law_810 : decode cL_law 810 = .ok (.if_icmp .eq 5, 3) := by decide +kernel
theorem dL_law_813 : decode cL_law 813 = .ok (.iconst 0, 1) := by decide +kernel
theorem dL_law_814 : decode cL_law 814 = .ok (.ireturn, 1) := by decide +kernel
theorem dL_law_815 : decode cL_law 815 = .ok (.iload 5, 2) := by decide +kernel
theorem dL_law_817 : decode cL_law 817 = .ok (.ifCond .ne 15, 3) := by decide +kernel
theorem dL_law_820 : decode cL_law 820 = .ok (.aload_n 3, 1) := by decide +kernel
theorem dL_law_821 : decode cL_law 821 = .ok (.iconst 0, 1) := by decide +kernel
theorem dL_law_822 : decode cL_law 822 = .ok (.laload, 1) := by decide +kernel
theorem dL_law_823 : decode cL_law 823 = .ok (.iload 6, 2) := by decide +kernel
theorem dL_law_825 : decode cL_law 825 = .ok (.i2l, 1) := by decide +kernel
theorem dL_law_826 : decode cL_law 826 = .ok (.lcmp, 1) := by decide +kernel
theorem dL_law_827 : decode cL_law 827 = .ok (.ifCond .eq 5, 3) := by decide +kernel
theorem dL_law_830 : decode cL_law 830 = .ok (.iconst 0, 1) := by decide +kernel
theorem dL_law_831 : decode cL_law 831 = .ok (.ireturn, 1) := by decide +kernel
theorem dL_law_832 : decode cL_law 832 = .ok (.goto 498, 3) := by decide +kernel
theorem dL_law_835 : decode cL_law 835 = .ok (.aload_n 1, 1) := by decide +kernel
theorem dL_law_836 : decode cL_law 836 = .ok (.aload_n 0, 1) := by decide +kernel
theorem dL_law_837 : decode cL_law 837 = .ok (.iload 4, 2) := by decide +kernel
theorem dL_law_839 : decode cL_law 839 = .ok (.iconst 1, 1) := by decide +kernel
theorem dL_law_840 : decode cL_law 840 = .ok (.iadd, 1) := by decide +kernel
theorem dL_law_841 : decode cL_law 841 = .ok (.iaload, 1) := by decide +kernel
theorem dL_law_842 : decode cL_law 842 = .ok (.aload_n 3, 1) := by decide +kernel
theorem dL_law_843 : decode cL_law 843 = .ok (.invokestatic 120, 3) := by decide +kernel
theorem dL_law_846 : decode cL_law 846 = .ok (.istore 5, 2) := by decide +kernel
theorem dL_law_848 : decode cL_law 848 = .ok (.aload_n 2, 1) := by decide +kernel
theorem dL_law_849 : decode cL_law 849 = .ok (.aload_n 0, 1) := by decide +kernel
theorem dL_law_850 : decode cL_law 850 = .ok (.iload 4, 2) := by decide +kernel
theorem dL_law_852 : decode cL_law 852 = .ok (.iconst 1, 1) := by decide +kernel
theorem dL_law_853 : decode cL_law 853 = .ok (.iadd, 1) := by decide +kernel
theorem dL_law_854 : decode cL_law 854 = .ok (.iaload, 1) := by decide +kernel
theorem dL_law_855 : decode cL_law 855 = .ok (.invokevirtual 122, 3) := by decide +kernel
theorem dL_law_858 : decode cL_law 858 = .ok (.istore 6, 2) := by decide +kernel
theorem dL_law_860 : decode cL_law 860 = .ok (.aload_n 2, 1) := by decide +kernel
theorem dL_law_861 : decode cL_law 861 = .ok (.invokevirtual 83, 3) := by decide +kernel
theorem dL_law_864 : decode cL_law 864 = .ok (.iload 5, 2) := by decide +kernel
theorem dL_law_866 : decode cL_law 866 = .ok (.if_icmp .eq 5, 3) := by decide +kernel
theorem dL_law_869 : decode cL_law 869 = .ok (.iconst 0, 1) := by decide +kernel
theorem dL_law_870 : decode cL_law 870 = .ok (.ireturn, 1) := by decide +kernel
theorem dL_law_871 : decode cL_law 871 = .ok (.iload 5, 2) := by decide +kernel
theorem dL_law_873 : decode cL_law 873 = .ok (.ifCond .ne 15, 3) := by decide +kernel
theorem dL_law_876 : decode cL_law 876 = .ok (.aload_n 3, 1) := by decide +kernel
theorem dL_law_877 : decode cL_law 877 = .ok (.iconst 0, 1) := by decide +kernel
theorem dL_law_878 : decode cL_law 878 = .ok (.laload, 1) := by decide +kernel
theorem dL_law_879 : decode cL_law 879 = .ok (.iload 6, 2) := by decide +kernel
theorem dL_law_881 : decode cL_law 881 = .ok (.i2l, 1) := by decide +kernel
theorem dL_law_882 : decode cL_law 882 = .ok (.lcmp, 1) := by decide +kernel
theorem dL_law_883 : decode cL_law 883 = .ok (.ifCond .eq 5, 3) := by decide +kernel
theorem dL_law_886 : decode cL_law 886 = .ok (.iconst 0, 1) := by decide +kernel
theorem dL_law_887 : decode cL_law 887 = .ok (.ireturn, 1) := by decide +kernel
theorem dL_law_888 : decode cL_law 888 = .ok (.goto 442, 3) := by decide +kernel
theorem dL_law_891 : decode cL_law 891 = .ok (.aload_n 1, 1) := by decide +kernel
theorem dL_law_892 : decode cL_law 892 = .ok (.invokevirtual 123, 3) := by decide +kernel
theorem dL_law_895 : decode cL_law 895 = .ok (.aload_n 2, 1) := by decide +kernel
theorem dL_law_896 : decode cL_law 896 = .ok (.invokevirtual 126, 3) := by decide +kernel
theorem dL_law_899 : decode cL_law 899 = .ok (.if_icmp .eq 431, 3) := by decide +kernel
theorem dL_law_902 : decode cL_law 902 = .ok (.iconst 0, 1) := by decide +kernel
theorem dL_law_903 : decode cL_law 903 = .ok (.ireturn, 1) := by decide +kernel
theorem dL_law_904 : decode cL_law 904 = .ok (.aload_n 1, 1) := by decide +kernel
theorem dL_law_905 : decode cL_law 905 = .ok (.invokevirtual 127, 3) := by decide +kernel
theorem dL_law_908 : decode cL_law 908 = .ok (.aload_n 2, 1) := by decide +kernel
theorem dL_law_909 : decode cL_law 909 = .ok (.invokevirtual 130, 3) := by decide +kernel
theorem dL_law_912 : decode cL_law 912 = .ok (.if_icmp .eq 418, 3) := by decide +kernel
theorem dL_law_915 : decode cL_law 915 = .ok (.iconst 0, 1) := by decide +kernel
theorem dL_law_916 : decode cL_law 916 = .ok (.ireturn, 1) := by decide +kernel
theorem dL_law_917 : decode cL_law 917 = .ok (.aload_n 1, 1) := by decide +kernel
theorem dL_law_918 : decode cL_law 918 = .ok (.aload_n 0, 1) := by decide +kernel
theorem dL_law_919 : decode cL_law 919 = .ok (.iload 4, 2) := by decide +kernel
theorem dL_law_921 : decode cL_law 921 = .ok (.iconst 1, 1) := by decide +kernel
theorem dL_law_922 : decode cL_law 922 = .ok (.iadd, 1) := by decide +kernel
theorem dL_law_923 : decode cL_law 923 = .ok (.iaload, 1) := by decide +kernel
theorem dL_law_924 : decode cL_law 924 = .ok (.aload_n 3, 1) := by decide +kernel
theorem dL_law_925 : decode cL_law 925 = .ok (.invokestatic 131, 3) := by decide +kernel
theorem dL_law_928 : decode cL_law 928 = .ok (.istore 5, 2) := by decide +kernel
theorem dL_law_930 : decode cL_law 930 = .ok (.aload_n 2, 1) := by decide +kernel
theorem dL_law_931 : decode cL_law 931 = .ok (.aload_n 0, 1) := by decide +kernel
theorem dL_law_932 : decode cL_law 932 = .ok (.iload 4, 2) := by decide +kernel
theorem dL_law_934 : decode cL_law 934 = .ok (.iconst 1, 1) := by decide +kernel
theorem dL_law_935 : decode cL_law 935 = .ok (.iadd, 1) := by decide +kernel
theorem dL_law_936 : decode cL_law 936 = .ok (.iaload, 1) := by decide +kernel
theorem dL_law_937 : decode cL_law 937 = .ok (.invokevirtual 133, 3) := by decide +kernel
theorem dL_law_940 : decode cL_law 940 = .ok (.istore 6, 2) := by decide +kernel
theorem dL_law_942 : decode cL_law 942 = .ok (.aload_n 2, 1) := by decide +kernel
theorem dL_law_943 : decode cL_law 943 = .ok (.invokevirtual 83, 3) := by decide +kernel
theorem dL_law_946 : decode cL_law 946 = .ok (.iload 5, 2) := by decide +kernel
theorem dL_law_948 : decode cL_law 948 = .ok (.if_icmp .eq 5, 3) := by decide +kernel
theorem dL_law_951 : decode cL_law 951 = .ok (.iconst 0, 1) := by decide +kernel
theorem dL_law_952 : decode cL_law 952 = .ok (.ireturn, 1) := by decide +kernel
theorem dL_law_953 : decode cL_law 953 = .ok (.iload 5, 2) := by decide +kernel
theorem dL_law_955 : decode cL_law 955 = .ok (.ifCond .ne 15, 3) := by decide +kernel
theorem dL_law_958 : decode cL_law 958 = .ok (.aload_n 3, 1) := by decide +kernel
theorem dL_law_959 : decode cL_law 959 = .ok (.iconst 0, 1) := by decide +kernel
theorem dL_law_960 : decode cL_law 960 = .ok (.laload, 1) := by decide +kernel
theorem dL_law_961 : decode cL_law 961 = .ok (.iload 6, 2) := by decide +kernel
theorem dL_law_963 : decode cL_law 963 = .ok (.i2l, 1) := by decide +kernel
theorem dL_law_964 : decode cL_law 964 = .ok (.lcmp, 1) := by decide +kernel
theorem dL_law_965 : decode cL_law 965 = .ok (.ifCond .eq 5, 3) := by decide +kernel
theorem dL_law_968 : decode cL_law 968 = .ok (.iconst 0, 1) := by decide +kernel
theorem dL_law_969 : decode cL_law 969 = .ok (.ireturn, 1) := by decide +kernel
theorem dL_law_970 : decode cL_law 970 = .ok (.goto 360, 3) := by decide +kernel
theorem dL_law_973 : decode cL_law 973 = .ok (.aload_n 1, 1) := by decide +kernel
theorem dL_law_974 : decode cL_law 974 = .ok (.aload_n 0, 1) := by decide +kernel
theorem dL_law_975 : decode cL_law 975 = .ok (.iload 4, 2) := by decide +kernel
theorem dL_law_977 : decode cL_law 977 = .ok (.iconst 1, 1) := by decide +kernel
theorem dL_law_978 : decode cL_law 978 = .ok (.iadd, 1) := by decide +kernel
theorem dL_law_979 : decode cL_law 979 = .ok (.iaload, 1) := by decide +kernel
theorem dL_law_980 : decode cL_law 980 = .ok (.aload_n 0, 1) := by decide +kernel
theorem dL_law_981 : decode cL_law 981 = .ok (.iload 4, 2) := by decide +kernel
theorem dL_law_983 : decode cL_law 983 = .ok (.iconst 2, 1) := by decide +kernel
theorem dL_law_984 : decode cL_law 984 = .ok (.iadd, 1) := by decide +kernel
theorem dL_law_985 : decode cL_law 985 = .ok (.iaload, 1) := by decide +kernel
theorem dL_law_986 : decode cL_law 986 = .ok (.aload_n 3, 1) := by decide +kernel
theorem dL_law_987 : decode cL_law 987 = .ok (.invokestatic 134, 3) := by decide +kernel
theorem dL_law_990 : decode cL_law 990 = .ok (.istore 5, 2) := by decide +kernel
theorem dL_law_992 : decode cL_law 992 = .ok (.aload_n 2, 1) := by decide +kernel
theorem dL_law_993 : decode cL_law 993 = .ok (.aload_n 0, 1) := by decide +kernel
theorem dL_law_994 : decode cL_law 994 = .ok (.iload 4, 2) := by decide +kernel
theorem dL_law_996 : decode cL_law 996 = .ok (.iconst 1, 1) := by decide +kernel
theorem dL_law_997 : decode cL_law 997 = .ok (.iadd, 1) := by decide +kernel
theorem dL_law_998 : decode cL_law 998 = .ok (.iaload, 1) := by decide +kernel
theorem dL_law_999 : decode cL_law 999 = .ok (.aload_n 0, 1) := by decide +kernel
theorem dL_law_1000 : decode cL_law 1000 = .ok (.iload 4, 2) := by decide +kernel
theorem dL_law_1002 : decode cL_law 1002 = .ok (.iconst 2, 1) := by decide +kernel
theorem dL_law_1003 : decode cL_law 1003 = .ok (.iadd, 1) := by decide +kernel
theorem dL_law_1004 : decode cL_law 1004 = .ok (.iaload, 1) := by decide +kernel
theorem dL_law_1005 : decode cL_law 1005 = .ok (.invokevirtual 136, 3) := by decide +kernel
theorem dL_law_1008 : decode cL_law 1008 = .ok (.istore 6, 2) := by decide +kernel
theorem dL_law_1010 : decode cL_law 1010 = .ok (.aload_n 2, 1) := by decide +kernel
theorem dL_law_1011 : decode cL_law 1011 = .ok (.invokevirtual 83, 3) := by decide +kernel
theorem dL_law_1014 : decode cL_law 1014 = .ok (.iload 5, 2) := by decide +kernel
theorem dL_law_1016 : decode cL_law 1016 = .ok (.if_icmp .eq 5, 3) := by decide +kernel
theorem dL_law_1019 : decode cL_law 1019 = .ok (.iconst 0, 1) := by decide +kernel
theorem dL_law_1020 : decode cL_law 1020 = .ok (.ireturn, 1) := by decide +kernel
theorem dL_law_1021 : decode cL_law 1021 = .ok (.iload 5, 2) := by decide +kernel
theorem dL_law_1023 : decode cL_law 1023 = .ok (.ifCond .ne 15, 3) := by decide +kernel
theorem dL_law_1026 : decode cL_law 1026 = .ok (.aload_n 3, 1) := by decide +kernel
theorem dL_law_1027 : decode cL_law 1027 = .ok (.iconst 0, 1) := by decide +kernel
theorem dL_law_1028 : decode cL_law 1028 = .ok (.laload, 1) := by decide +kernel
theorem dL_law_1029 : decode cL_law 1029 = .ok (.iload 6, 2) := by decide +kernel
theorem dL_law_1031 : decode cL_law 1031 = .ok (.i2l, 1) := by decide +kernel
theorem dL_law_1032 : decode cL_law 1032 = .ok (.lcmp, 1) := by decide +kernel
theorem dL_law_1033 : decode cL_law 1033 = .ok (.ifCond .eq 5, 3) := by decide +kernel
theorem dL_law_1036 : decode cL_law 1036 = .ok (.iconst 0, 1) := by decide +kernel
theorem dL_law_1037 : decode cL_law 1037 = .ok (.ireturn, 1) := by decide +kernel
theorem dL_law_1038 : decode cL_law 1038 = .ok (.goto 292, 3) := by decide +kernel
theorem dL_law_1041 : decode cL_law 1041 = .ok (.aload_n 1, 1) := by decide +kernel
theorem dL_law_1042 : decode cL_law 1042 = .ok (.aload_n 0, 1) := by decide +kernel
theorem dL_law_1043 : decode cL_law 1043 = .ok (.iload 4, 2) := by decide +kernel
theorem dL_law_1045 : decode cL_law 1045 = .ok (.iconst 1, 1) := by decide +kernel
theorem dL_law_1046 : decode cL_law 1046 = .ok (.iadd, 1) := by decide +kernel
theorem dL_law_1047 : decode cL_law 1047 = .ok (.iaload, 1) := by decide +kernel
theorem dL_law_1048 : decode cL_law 1048 = .ok (.aload_n 0, 1) := by decide +kernel
theorem dL_law_1049 : decode cL_law 1049 = .ok (.iload 4, 2) := by decide +kernel
theorem dL_law_1051 : decode cL_law 1051 = .ok (.iconst 2, 1) := by decide +kernel
theorem dL_law_1052 : decode cL_law 1052 = .ok (.iadd, 1) := by decide +kernel
theorem dL_law_1053 : decode cL_law 1053 = .ok (.iaload, 1) := by decide +kernel
theorem dL_law_1054 : decode cL_law 1054 = .ok (.aload_n 3, 1) := by decide +kernel
theorem dL_law_1055 : decode cL_law 1055 = .ok (.invokestatic 137, 3) := by decide +kernel
theorem dL_law_1058 : decode cL_law 1058 = .ok (.istore 5, 2) := by decide +kernel
theorem dL_law_1060 : decode cL_law 1060 = .ok (.aload_n 2, 1) := by decide +kernel
theorem dL_law_1061 : decode cL_law 1061 = .ok (.aload_n 0, 1) := by decide +kernel
theorem dL_law_1062 : decode cL_law 1062 = .ok (.iload 4, 2) := by decide +kernel
theorem dL_law_1064 : decode cL_law 1064 = .ok (.iconst 1, 1) := by decide +kernel
theorem dL_law_1065 : decode cL_law 1065 = .ok (.iadd, 1) := by decide +kernel
theorem dL_law_1066 : decode cL_law 1066 = .ok (.iaload, 1) := by decide +kernel
theorem dL_law_1067 : decode cL_law 1067 = .ok (.aload_n 0, 1) := by decide +kernel
theorem dL_law_1068 : decode cL_law 1068 = .ok (.iload 4, 2) := by decide +kernel
theorem dL_law_1070 : decode cL_law 1070 = .ok (.iconst 2, 1) := by decide +kernel
theorem dL_law_1071 : decode cL_law 1071 = .ok (.iadd, 1) := by decide +kernel
theorem dL_law_1072 : decode cL_law 1072 = .ok (.iaload, 1) := by decide +kernel
theorem dL_law_1073 : decode cL_law 1073 = .ok (.invokevirtual 139, 3) := by decide +kernel
theorem dL_law_1076 : decode cL_law 1076 = .ok (.istore 6, 2) := by decide +kernel
theorem dL_law_1078 : decode cL_law 1078 = .ok (.aload_n 2, 1) := by decide +kernel
theorem dL_law_1079 : decode cL_law 1079 = .ok (.invokevirtual 83, 3) := by decide +kernel
theorem dL_law_1082 : decode cL_law 1082 = .ok (.iload 5, 2) := by decide +kernel
theorem dL_law_1084 : decode cL_law 1084 = .ok (.if_icmp .eq 5, 3) := by decide +kernel
theorem dL_law_1087 : decode cL_law 1087 = .ok (.iconst 0, 1) := by decide +kernel
theorem dL_law_1088 : decode cL_law 1088 = .ok (.ireturn, 1) := by decide +kernel
theorem dL_law_1089 : decode cL_law 1089 = .ok (.iload 5, 2) := by decide +kernel
theorem dL_law_1091 : decode cL_law 1091 = .ok (.ifCond .ne 15, 3) := by decide +kernel
theorem dL_law_1094 : decode cL_law 1094 = .ok (.aload_n 3, 1) := by decide +kernel
theorem dL_law_1095 : decode cL_law 1095 = .ok (.iconst 0, 1) := by decide +kernel
theorem dL_law_1096 : decode cL_law 1096 = .ok (.laload, 1) := by decide +kernel
theorem dL_law_1097 : decode cL_law 1097 = .ok (.iload 6, 2) := by decide +kernel
theorem dL_law_1099 : decode cL_law 1099 = .ok (.i2l, 1) := by decide +kernel
theorem dL_law_1100 : decode cL_law 1100 = .ok (.lcmp, 1) := by decide +kernel
theorem dL_law_1101 : decode cL_law 1101 = .ok (.ifCond .eq 5, 3) := by decide +kernel
theorem dL_law_1104 : decode cL_law 1104 = .ok (.iconst 0, 1) := by decide +kernel
theorem dL_law_1105 : decode cL_law 1105 = .ok (.ireturn, 1) := by decide +kernel
theorem dL_law_1106 : decode cL_law 1106 = .ok (.goto 224, 3) := by decide +kernel
theorem dL_law_1109 : decode cL_law 1109 = .ok (.aload_n 1, 1) := by decide +kernel
theorem dL_law_1110 : decode cL_law 1110 = .ok (.aload_n 0, 1) := by decide +kernel
theorem dL_law_1111 : decode cL_law 1111 = .ok (.iload 4, 2) := by decide +kernel
theorem dL_law_1113 : decode cL_law 1113 = .ok (.iconst 1, 1) := by decide +kernel
theorem dL_law_1114 : decode cL_law 1114 = .ok (.iadd, 1) := by decide +kernel
theorem dL_law_1115 : decode cL_law 1115 = .ok (.iaload, 1) := by decide +kernel
theorem dL_law_1116 : decode cL_law 1116 = .ok (.aload_n 0, 1) := by decide +kernel
theorem dL_law_1117 : decode cL_law 1117 = .ok (.iload 4, 2) := by decide +kernel
theorem dL_law_1119 : decode cL_law 1119 = .ok (.iconst 2, 1) := by decide +kernel
theorem dL_law_1120 : decode cL_law 1120 = .ok (.iadd, 1) := by decide +kernel
theorem dL_law_1121 : decode cL_law 1121 = .ok (.iaload, 1) := by decide +kernel
theorem dL_law_1122 : decode cL_law 1122 = .ok (.aload_n 3, 1) := by decide +kernel
theorem dL_law_1123 : decode cL_law 1123 = .ok (.invokestatic 140, 3) := by decide +kernel
theorem dL_law_1126 : decode cL_law 1126 = .ok (.istore 5, 2) := by decide +kernel
theorem dL_law_1128 : decode cL_law 1128 = .ok (.aload_n 2, 1) := by decide +kernel
theorem dL_law_1129 : decode cL_law 1129 = .ok (.aload_n 0, 1) := by decide +kernel
theorem dL_law_1130 : decode cL_law 1130 = .ok (.iload 4, 2) := by decide +kernel
theorem dL_law_1132 : decode cL_law 1132 = .ok (.iconst 1, 1) := by decide +kernel
theorem dL_law_1133 : decode cL_law 1133 = .ok (.iadd, 1) := by decide +kernel
theorem dL_law_1134 : decode cL_law 1134 = .ok (.iaload, 1) := by decide +kernel
theorem dL_law_1135 : decode cL_law 1135 = .ok (.aload_n 0, 1) := by decide +kernel
theorem dL_law_1136 : decode cL_law 1136 = .ok (.iload 4, 2) := by decide +kernel
theorem dL_law_1138 : decode cL_law 1138 = .ok (.iconst 2, 1) := by decide +kernel
theorem dL_law_1139 : decode cL_law 1139 = .ok (.iadd, 1) := by decide +kernel
theorem dL_law_1140 : decode cL_law 1140 = .ok (.iaload, 1) := by decide +kernel
theorem dL_law_1141 : decode cL_law 1141 = .ok (.invokevirtual 142, 3) := by decide +kernel
theorem dL_law_1144 : decode cL_law 1144 = .ok (.istore 6, 2) := by decide +kernel
theorem dL_law_1146 : decode cL_law 1146 = .ok (.aload_n 2, 1) := by decide +kernel
theorem dL_law_1147 : decode cL_law 1147 = .ok (.invokevirtual 83, 3) := by decide +kernel
theorem dL_law_1150 : decode cL_law 1150 = .ok (.iload 5, 2) := by decide +kernel
theorem dL_law_1152 : decode cL_law 1152 = .ok (.if_icmp .eq 5, 3) := by decide +kernel
theorem dL_law_1155 : decode cL_law 1155 = .ok (.iconst 0, 1) := by decide +kernel
theorem dL_law_1156 : decode cL_law 1156 = .ok (.ireturn, 1) := by decide +kernel
theorem dL_law_1157 : decode cL_law 1157 = .ok (.iload 5, 2) := by decide +kernel
theorem dL_law_1159 : decode cL_law 1159 = .ok (.ifCond .ne 15, 3) := by decide +kernel
theorem dL_law_1162 : decode cL_law 1162 = .ok (.aload_n 3, 1) := by decide +kernel
theorem dL_law_1163 : decode cL_law 1163 = .ok (.iconst 0, 1) := by decide +kernel
theorem dL_law_1164 : decode cL_law 1164 = .ok (.laload, 1) := by decide +kernel
theorem dL_law_1165 : decode cL_law 1165 = .ok (.iload 6, 2) := by decide +kernel
theorem dL_law_1167 : decode cL_law 1167 = .ok (.i2l, 1) := by decide +kernel
theorem dL_law_1168 : decode cL_law 1168 = .ok (.lcmp, 1) := by decide +kernel
theorem dL_law_1169 : decode cL_law 1169 = .ok (.ifCond .eq 5, 3) := by decide +kernel
theorem dL_law_1172 : decode cL_law 1172 = .ok (.iconst 0, 1) := by decide +kernel
theorem dL_law_1173 : decode cL_law 1173 = .ok (.ireturn, 1) := by decide +kernel
theorem dL_law_1174 : decode cL_law 1174 = .ok (.goto 156, 3) := by decide +kernel
theorem dL_law_1177 : decode cL_law 1177 = .ok (.aload_n 1, 1) := by decide +kernel
theorem dL_law_1178 : decode cL_law 1178 = .ok (.aload_n 0, 1) := by decide +kernel
theorem dL_law_1179 : decode cL_law 1179 = .ok (.iload 4, 2) := by decide +kernel
theorem dL_law_1181 : decode cL_law 1181 = .ok (.iconst 1, 1) := by decide +kernel
theorem dL_law_1182 : decode cL_law 1182 = .ok (.iadd, 1) := by decide +kernel
theorem dL_law_1183 : decode cL_law 1183 = .ok (.iaload, 1) := by decide +kernel
theorem dL_law_1184 : decode cL_law 1184 = .ok (.aload_n 3, 1) := by decide +kernel
theorem dL_law_1185 : decode cL_law 1185 = .ok (.invokestatic 143, 3) := by decide +kernel
theorem dL_law_1188 : decode cL_law 1188 = .ok (.istore 5, 2) := by decide +kernel
theorem dL_law_1190 : decode cL_law 1190 = .ok (.aload_n 2, 1) := by decide +kernel
theorem dL_law_1191 : decode cL_law 1191 = .ok (.aload_n 0, 1) := by decide +kernel
theorem dL_law_1192 : decode cL_law 1192 = .ok (.iload 4, 2) := by decide +kernel
theorem dL_law_1194 : decode cL_law 1194 = .ok (.iconst 1, 1) := by decide +kernel
theorem dL_law_1195 : decode cL_law 1195 = .ok (.iadd, 1) := by decide +kernel
theorem dL_law_1196 : decode cL_law 1196 = .ok (.iaload, 1) := by decide +kernel
theorem dL_law_1197 : decode cL_law 1197 = .ok (.invokevirtual 145, 3) := by decide +kernel
theorem dL_law_1200 : decode cL_law 1200 = .ok (.istore 6, 2) := by decide +kernel
theorem dL_law_1202 : decode cL_law 1202 = .ok (.aload_n 2, 1) := by decide +kernel
theorem dL_law_1203 : decode cL_law 1203 = .ok (.invokevirtual 83, 3) := by decide +kernel
theorem dL_law_1206 : decode cL_law 1206 = .ok (.iload 5, 2) := by decide +kernel
theorem dL_law_1208 : decode cL_law 1208 = .ok (.if_icmp .eq 5, 3) := by decide +kernel
theorem dL_law_1211 : decode cL_law 1211 = .ok (.iconst 0, 1) := by decide +kernel
theorem dL_law_1212 : decode cL_law 1212 = .ok (.ireturn, 1) := by decide +kernel
theorem dL_law_1213 : decode cL_law 1213 = .ok (.iload 5, 2) := by decide +kernel
theorem dL_law_1215 : decode cL_law 1215 = .ok (.ifCond .ne 15, 3) := by decide +kernel
theorem dL_law_1218 : decode cL_law 1218 = .ok (.aload_n 3, 1) := by decide +kernel
theorem dL_law_1219 : decode cL_law 1219 = .ok (.iconst 0, 1) := by decide +kernel
theorem dL_law_1220 : decode cL_law 1220 = .ok (.laload, 1) := by decide +kernel
theorem dL_law_1221 : decode cL_law 1221 = .ok (.iload 6, 2) := by decide +kernel
theorem dL_law_1223 : decode cL_law 1223 = .ok (.i2l, 1) := by decide +kernel
theorem dL_law_1224 : decode cL_law 1224 = .ok (.lcmp, 1) := by decide +kernel
theorem dL_law_1225 : decode cL_law 1225 = .ok (.ifCond .eq 5, 3) := by decide +kernel
theorem dL_law_1228 : decode cL_law 1228 = .ok (.iconst 0, 1) := by decide +kernel
theorem dL_law_1229 : decode cL_law 1229 = .ok (.ireturn, 1) := by decide +kernel
theorem dL_law_1230 : decode cL_law 1230 = .ok (.goto 100, 3) := by decide +kernel
theorem dL_law_1233 : decode cL_law 1233 = .ok (.aload_n 1, 1) := by decide +kernel
theorem dL_law_1234 : decode cL_law 1234 = .ok (.aload_n 0, 1) := by decide +kernel
theorem dL_law_1235 : decode cL_law 1235 = .ok (.iload 4, 2) := by decide +kernel
theorem dL_law_1237 : decode cL_law 1237 = .ok (.iconst 1, 1) := by decide +kernel
theorem dL_law_1238 : decode cL_law 1238 = .ok (.iadd, 1) := by decide +kernel
theorem dL_law_1239 : decode cL_law 1239 = .ok (.iaload, 1) := by decide +kernel
theorem dL_law_1240 : decode cL_law 1240 = .ok (.aload_n 3, 1) := by decide +kernel
theorem dL_law_1241 : decode cL_law 1241 = .ok (.invokestatic 146, 3) := by decide +kernel
theorem dL_law_1244 : decode cL_law 1244 = .ok (.istore 5, 2) := by decide +kernel
theorem dL_law_1246 : decode cL_law 1246 = .ok (.aload_n 2, 1) := by decide +kernel
theorem dL_law_1247 : decode cL_law 1247 = .ok (.aload_n 0, 1) := by decide +kernel
theorem dL_law_1248 : decode cL_law 1248 = .ok (.iload 4, 2) := by decide +kernel
theorem dL_law_1250 : decode cL_law 1250 = .ok (.iconst 1, 1) := by decide +kernel
theorem dL_law_1251 : decode cL_law 1251 = .ok (.iadd, 1) := by decide +kernel
theorem dL_law_1252 : decode cL_law 1252 = .ok (.iaload, 1) := by decide +kernel
theorem dL_law_1253 : decode cL_law 1253 = .ok (.invokevirtual 148, 3) := by decide +kernel
theorem dL_law_1256 : decode cL_law 1256 = .ok (.istore 6, 2) := by decide +kernel
theorem dL_law_1258 : decode cL_law 1258 = .ok (.aload_n 2, 1) := by decide +kernel
theorem dL_law_1259 : decode cL_law 1259 = .ok (.invokevirtual 83, 3) := by decide +kernel
theorem dL_law_1262 : decode cL_law 1262 = .ok (.iload 5, 2) := by decide +kernel
theorem dL_law_1264 : decode cL_law 1264 = .ok (.if_icmp .eq 5, 3) := by decide +kernel
theorem dL_law_1267 : decode cL_law 1267 = .ok (.iconst 0, 1) := by decide +kernel
theorem dL_law_1268 : decode cL_law 1268 = .ok (.ireturn, 1) := by decide +kernel
theorem dL_law_1269 : decode cL_law 1269 = .ok (.iload 5, 2) := by decide +kernel
theorem dL_law_1271 : decode cL_law 1271 = .ok (.ifCond .ne 15, 3) := by decide +kernel
theorem dL_law_1274 : decode cL_law 1274 = .ok (.aload_n 3, 1) := by decide +kernel
theorem dL_law_1275 : decode cL_law 1275 = .ok (.iconst 0, 1) := by decide +kernel
theorem dL_law_1276 : decode cL_law 1276 = .ok (.laload, 1) := by decide +kernel
theorem dL_law_1277 : decode cL_law 1277 = .ok (.iload 6, 2) := by decide +kernel
theorem dL_law_1279 : decode cL_law 1279 = .ok (.i2l, 1) := by decide +kernel
theorem dL_law_1280 : decode cL_law 1280 = .ok (.lcmp, 1) := by decide +kernel
theorem dL_law_1281 : decode cL_law 1281 = .ok (.ifCond .eq 5, 3) := by decide +kernel
theorem dL_law_1284 : decode cL_law 1284 = .ok (.iconst 0, 1) := by decide +kernel
theorem dL_law_1285 : decode cL_law 1285 = .ok (.ireturn, 1) := by decide +kernel
theorem dL_law_1286 : decode cL_law 1286 = .ok (.goto 44, 3) := by decide +kernel
theorem dL_law_1289 : decode cL_law 1289 = .ok (.aload_n 1, 1) := by decide +kernel
theorem dL_law_1290 : decode cL_law 1290 = .ok (.aload_n 0, 1) := by decide +kernel
theorem dL_law_1291 : decode cL_law 1291 = .ok (.iload 4, 2) := by decide +kernel
theorem dL_law_1293 : decode cL_law 1293 = .ok (.iconst 1, 1) := by decide +kernel
theorem dL_law_1294 : decode cL_law 1294 = .ok (.iadd, 1) := by decide +kernel
theorem dL_law_1295 : decode cL_law 1295 = .ok (.iaload, 1) := by decide +kernel
theorem dL_law_1296 : decode cL_law 1296 = .ok (.ifCond .eq 7, 3) := by decide +kernel
theorem dL_law_1299 : decode cL_law 1299 = .ok (.iconst 1, 1) := by decide +kernel
theorem dL_law_1300 : decode cL_law 1300 = .ok (.goto 4, 3) := by decide +kernel
theorem dL_law_1303 : decode cL_law 1303 = .ok (.iconst 0, 1) := by decide +kernel
theorem dL_law_1304 : decode cL_law 1304 = .ok (.invokevirtual 149, 3) := by decide +kernel
theorem dL_law_1307 : decode cL_law 1307 = .ok (.aload_n 2, 1) := by decide +kernel
theorem dL_law_1308 : decode cL_law 1308 = .ok (.aload_n 0, 1) := by decide +kernel
theorem dL_law_1309 : decode cL_law 1309 = .ok (.iload 4, 2) := by decide +kernel
theorem dL_law_1311 : decode cL_law 1311 = .ok (.iconst 1, 1) := by decide +kernel
theorem dL_law_1312 : decode cL_law 1312 = .ok (.iadd, 1) := by decide +kernel
theorem dL_law_1313 : decode cL_law 1313 = .ok (.iaload, 1) := by decide +kernel
theorem dL_law_1314 : decode cL_law 1314 = .ok (.ifCond .eq 7, 3) := by decide +kernel
theorem dL_law_1317 : decode cL_law 1317 = .ok (.iconst 1, 1) := by decide +kernel
theorem dL_law_1318 : decode cL_law 1318 = .ok (.goto 4, 3) := by decide +kernel
theorem dL_law_1321 : decode cL_law 1321 = .ok (.iconst 0, 1) := by decide +kernel
theorem dL_law_1322 : decode cL_law 1322 = .ok (.invokevirtual 153, 3) := by decide +kernel
theorem dL_law_1325 : decode cL_law 1325 = .ok (.if_icmp .eq 5, 3) := by decide +kernel
theorem dL_law_1328 : decode cL_law 1328 = .ok (.iconst 0, 1) := by decide +kernel
theorem dL_law_1329 : decode cL_law 1329 = .ok (.ireturn, 1) := by decide +kernel
theorem dL_law_1330 : decode cL_law 1330 = .ok (.iinc 4 4, 3) := by decide +kernel
theorem dL_law_1333 : decode cL_law 1333 = .ok (.goto (-1310), 3) := by decide +kernel
theorem dL_law_1336 : decode cL_law 1336 = .ok (.iconst 1, 1) := by decide +kernel
theorem dL_law_1337 : decode cL_law 1337 = .ok (.ireturn, 1) := by decide +kernel
abbrev vwCl : List vw_C := [(RX0, TX0, 6), (RX1, TX1, 4), (RX2, TX2, 4), (RX3, TX3, 9), (RX4, TX4, 3), (RX5, TX5, 15), (RX6, TX6, 20)]
/-- the objects of ShardHarbour$Change, kind 0: what each holds, by its address -/
structure wK_O_Change where
  f_hour : Nat → Int32
  f_earlier : Nat → Option Nat
  f_tenantBefore : Nat → Int32
  f_bytesBefore : Nat → Int32
  f_tenantBehind : Nat → Int32
  f_bytesBehind : Nat → Int32
/-- the objects of ShardHarbour$CutOver, kind 1: what each holds, by its address -/
structure wK_O_CutOver where
  f_first : Nat → Int32
  f_last : Nat → Int32
  f_machine : Nat → Int32
  f_earlier : Nat → Option Nat
/-- the objects of ShardHarbour$Machine, kind 2: what each holds, by its address -/
structure wK_O_Machine where
  f_number : Nat → Int32
  f_room : Nat → Int32
  f_isUp : Nat → Int32
  f_held : Nat → Int32
/-- the objects of ShardHarbour$Shard, kind 3: what each holds, by its address -/
structure wK_O_Shard where
  f_first : Nat → Int32
  f_last : Nat → Int32
  f_home : Nat → Option Nat
  f_target : Nat → Option Nat
  f_nextToCopy : Nat → Int32
  f_mayCopy : Nat → Int32
  f_copied : Nat → Int32
  f_bytes : Nat → Int32
  f_heat : Nat → Int32
/-- the objects of ShardHarbour$Tenant, kind 4: what each holds, by its address -/
structure wK_O_Tenant where
  f_bytes : Nat → Int32
  f_quota : Nat → Int32
  f_bill : Nat → Int32
/-- the objects of ShardHarbour, kind 5: what each holds, by its address -/
structure wK_O_ShardHarbour where
  f_nowhere : Nat → Option Nat
  f_bytesAt : Nat → Option Nat
  f_tenantAt : Nat → Option Nat
  f_tenants : Nat → Option Nat
  f_machines : Nat → Option Nat
  f_machineCount : Nat → Int32
  f_shards : Nat → Option Nat
  f_shardCount : Nat → Int32
  f_hour : Nat → Int32
  f_heatLimit : Nat → Int32
  f_movesDone : Nat → Int32
  f_movesFailed : Nat → Int32
  f_lastChange : Nat → Option Nat
  f_changeCount : Nat → Int32
  f_lastCutOver : Nat → Option Nat
/-- the objects of ShardHarbourModel, kind 6: what each holds, by its address -/
structure wK_O_ShardHarbourModel where
  f_thrown : Nat → Int32
  f_hour : Nat → Int32
  f_machines : Nat → Int32
  f_room : Nat → Option Nat
  f_isDown : Nat → Option Nat
  f_quota : Nat → Option Nat
  f_bill : Nat → Option Nat
  f_limit : Nat → Int32
  f_logged : Nat → Int32
  f_done : Nat → Int32
  f_failed : Nat → Int32
  f_owner : Nat → Option Nat
  f_bytes : Nat → Option Nat
  f_shards : Nat → Int32
  f_first : Nat → Option Nat
  f_on : Nat → Option Nat
  f_to : Nat → Option Nat
  f_next : Nat → Option Nat
  f_left : Nat → Option Nat
  f_heat : Nat → Option Nat
/-- the arrays of kind 7: what each holds, by its address -/
structure wK_R_I where
  len : Nat → Nat
  row : Nat → Nat → Int32
/-- the arrays of kind 8: what each holds, by its address -/
structure wK_R_Z where
  len : Nat → Nat
  row : Nat → Nat → Int32
/-- the arrays of kind 9: what each holds, by its address -/
structure wK_R_Machine where
  len : Nat → Nat
  row : Nat → Nat → Option Nat
/-- the arrays of kind 10: what each holds, by its address -/
structure wK_R_Shard where
  len : Nat → Nat
  row : Nat → Nat → Option Nat
/-- the arrays of kind 11: what each holds, by its address -/
structure wK_R_Tenant where
  len : Nat → Nat
  row : Nat → Nat → Option Nat
/-- the pool: the addresses, the kind of each, and the kinds -/
structure wPS where
  L : List Nat
  K : Nat → Nat
  O_Change : wK_O_Change
  O_CutOver : wK_O_CutOver
  O_Machine : wK_O_Machine
  O_Shard : wK_O_Shard
  O_Tenant : wK_O_Tenant
  O_ShardHarbour : wK_O_ShardHarbour
  O_ShardHarbourModel : wK_O_ShardHarbourModel
  R_I : wK_R_I
  R_Z : wK_R_Z
  R_Machine : wK_R_Machine
  R_Shard : wK_R_Shard
  R_Tenant : wK_R_Tenant
/-- the empty pool -/
abbrev wP0 : wPS := { L := [], K := (fun _ => 0), O_Change := { f_hour := (fun _ => 0), f_earlier := (fun _ => none), f_tenantBefore := (fun _ => 0), f_bytesBefore := (fun _ => 0), f_tenantBehind := (fun _ => 0), f_bytesBehind := (fun _ => 0) }, O_CutOver := { f_first := (fun _ => 0), f_last := (fun _ => 0), f_machine := (fun _ => 0), f_earlier := (fun _ => none) }, O_Machine := { f_number := (fun _ => 0), f_room := (fun _ => 0), f_isUp := (fun _ => 0), f_held := (fun _ => 0) }, O_Shard := { f_first := (fun _ => 0), f_last := (fun _ => 0), f_home := (fun _ => none), f_target := (fun _ => none), f_nextToCopy := (fun _ => 0), f_mayCopy := (fun _ => 0), f_copied := (fun _ => 0), f_bytes := (fun _ => 0), f_heat := (fun _ => 0) }, O_Tenant := { f_bytes := (fun _ => 0), f_quota := (fun _ => 0), f_bill := (fun _ => 0) }, O_ShardHarbour := { f_nowhere := (fun _ => none), f_bytesAt := (fun _ => none), f_tenantAt := (fun _ => none), f_tenants := (fun _ => none), f_machines := (fun _ => none), f_machineCount := (fun _ => 0), f_shards := (fun _ => none), f_shardCount := (fun _ => 0), f_hour := (fun _ => 0), f_heatLimit := (fun _ => 0), f_movesDone := (fun _ => 0), f_movesFailed := (fun _ => 0), f_lastChange := (fun _ => none), f_changeCount := (fun _ => 0), f_lastCutOver := (fun _ => none) }, O_ShardHarbourModel := { f_thrown := (fun _ => 0), f_hour := (fun _ => 0), f_machines := (fun _ => 0), f_room := (fun _ => none), f_isDown := (fun _ => none), f_quota := (fun _ => none), f_bill := (fun _ => none), f_limit := (fun _ => 0), f_logged := (fun _ => 0), f_done := (fun _ => 0), f_failed := (fun _ => 0), f_owner := (fun _ => none), f_bytes := (fun _ => none), f_shards := (fun _ => 0), f_first := (fun _ => none), f_on := (fun _ => none), f_to := (fun _ => none), f_next := (fun _ => none), f_left := (fun _ => none), f_heat := (fun _ => none) }, R_I := { len := (fun _ => 0), row := (fun _ _ => 0) }, R_Z := { len := (fun _ => 0), row := (fun _ _ => 0) }, R_Machine := { len := (fun _ => 0), row := (fun _ _ => none) }, R_Shard := { len := (fun _ => 0), row := (fun _ _ => none) }, R_Tenant := { len := (fun _ => 0), row := (fun _ _ => none) } }
/-- the pool's rows by their kinds -/
abbrev wPF (cyI : ClassId) (cyZ : ClassId) (cyO8866d : ClassId) (cyO72d3f : ClassId) (cyO7b988 : ClassId) (S : wPS) : Nat → va_E := fun a => if S.K a = 0 then .inr (0, [.int (S.O_Change.f_hour a), va_rf (S.O_Change.f_earlier a), .int (S.O_Change.f_tenantBefore a), .int (S.O_Change.f_bytesBefore a), .int (S.O_Change.f_tenantBehind a), .int (S.O_Change.f_bytesBehind a)]) else if S.K a = 1 then .inr (1, [.int (S.O_CutOver.f_first a), .int (S.O_CutOver.f_last a), .int (S.O_CutOver.f_machine a), va_rf (S.O_CutOver.f_earlier a)]) else if S.K a = 2 then .inr (2, [.int (S.O_Machine.f_number a), .int (S.O_Machine.f_room a), .int (S.O_Machine.f_isUp a), .int (S.O_Machine.f_held a)]) else if S.K a = 3 then .inr (3, [.int (S.O_Shard.f_first a), .int (S.O_Shard.f_last a), va_rf (S.O_Shard.f_home a), va_rf (S.O_Shard.f_target a), .int (S.O_Shard.f_nextToCopy a), .int (S.O_Shard.f_mayCopy a), .int (S.O_Shard.f_copied a), .int (S.O_Shard.f_bytes a), .int (S.O_Shard.f_heat a)]) else if S.K a = 4 then .inr (4, [.int (S.O_Tenant.f_bytes a), .int (S.O_Tenant.f_quota a), .int (S.O_Tenant.f_bill a)]) else if S.K a = 5 then .inr (5, [va_rf (S.O_ShardHarbour.f_nowhere a), va_rf (S.O_ShardHarbour.f_bytesAt a), va_rf (S.O_ShardHarbour.f_tenantAt a), va_rf (S.O_ShardHarbour.f_tenants a), va_rf (S.O_ShardHarbour.f_machines a), .int (S.O_ShardHarbour.f_machineCount a), va_rf (S.O_ShardHarbour.f_shards a), .int (S.O_ShardHarbour.f_shardCount a), .int (S.O_ShardHarbour.f_hour a), .int (S.O_ShardHarbour.f_heatLimit a), .int (S.O_ShardHarbour.f_movesDone a), .int (S.O_ShardHarbour.f_movesFailed a), va_rf (S.O_ShardHarbour.f_lastChange a), .int (S.O_ShardHarbour.f_changeCount a), va_rf (S.O_ShardHarbour.f_lastCutOver a)]) else if S.K a = 6 then .inr (6, [.int (S.O_ShardHarbourModel.f_thrown a), .int (S.O_ShardHarbourModel.f_hour a), .int (S.O_ShardHarbourModel.f_machines a), va_rf (S.O_ShardHarbourModel.f_room a), va_rf (S.O_ShardHarbourModel.f_isDown a), va_rf (S.O_ShardHarbourModel.f_quota a), va_rf (S.O_ShardHarbourModel.f_bill a), .int (S.O_ShardHarbourModel.f_limit a), .int (S.O_ShardHarbourModel.f_logged a), .int (S.O_ShardHarbourModel.f_done a), .int (S.O_ShardHarbourModel.f_failed a), va_rf (S.O_ShardHarbourModel.f_owner a), va_rf (S.O_ShardHarbourModel.f_bytes a), .int (S.O_ShardHarbourModel.f_shards a), va_rf (S.O_ShardHarbourModel.f_first a), va_rf (S.O_ShardHarbourModel.f_on a), va_rf (S.O_ShardHarbourModel.f_to a), va_rf (S.O_ShardHarbourModel.f_next a), va_rf (S.O_ShardHarbourModel.f_left a), va_rf (S.O_ShardHarbourModel.f_heat a)]) else if S.K a = 7 then .inl (cyI, S.R_I.len a, .inl (S.R_I.row a)) else if S.K a = 8 then .inl (cyZ, S.R_Z.len a, .inl (S.R_Z.row a)) else if S.K a = 9 then .inl (cyO8866d, S.R_Machine.len a, .inr (.inr (.inr (.inr (S.R_Machine.row a))))) else if S.K a = 10 then .inl (cyO72d3f, S.R_Shard.len a, .inr (.inr (.inr (.inr (S.R_Shard.row a))))) else .inl (cyO7b988, S.R_Tenant.len a, .inr (.inr (.inr (.inr (S.R_Tenant.row a)))))
theorem wAt_O_Change (cyI : ClassId) (cyZ : ClassId) (cyO8866d : ClassId) (cyO72d3f : ClassId) (cyO7b988 : ClassId) (S : wPS) {a : Nat} (h : S.K a = 0) : wPF cyI cyZ cyO8866d cyO72d3f cyO7b988 S a = .inr (0, [.int (S.O_Change.f_hour a), va_rf (S.O_Change.f_earlier a), .int (S.O_Change.f_tenantBefore a), .int (S.O_Change.f_bytesBefore a), .int (S.O_Change.f_tenantBehind a), .int (S.O_Change.f_bytesBehind a)]) := by simp [wPF, h]
theorem wGt_O_Change (cyI : ClassId) (cyZ : ClassId) (cyO8866d : ClassId) (cyO72d3f : ClassId) (cyO7b988 : ClassId) (X : va_W) (S : wPS) {a : Nat} (hL : a ∈ S.L) (h : S.K a = 0) : ∃ k : Nat, (X ++ va_pl S.L (wPF cyI cyZ cyO8866d cyO72d3f cyO7b988 S))[k]? = some (a, wPF cyI cyZ cyO8866d cyO72d3f cyO7b988 S a) ∧ (X ++ va_pl S.L (wPF cyI cyZ cyO8866d cyO72d3f cyO7b988 S))[k]? = some (a, .inr (0, [.int (S.O_Change.f_hour a), va_rf (S.O_Change.f_earlier a), .int (S.O_Change.f_tenantBefore a), .int (S.O_Change.f_bytesBefore a), .int (S.O_Change.f_tenantBehind a), .int (S.O_Change.f_bytesBehind a)])) := by
  obtain ⟨k, hk⟩ := va_pl_get (X := X) (f := wPF cyI cyZ cyO8866d cyO72d3f cyO7b988 S) hL
  exact ⟨k, hk, hk.trans (congrArg (fun e => some (a, e)) (wAt_O_Change cyI cyZ cyO8866d cyO72d3f cyO7b988 S h))⟩
theorem wSt_O_Change_f_hour (cyI : ClassId) (cyZ : ClassId) (cyO8866d : ClassId) (cyO72d3f : ClassId) (cyO7b988 : ClassId) (S : wPS) {a : Nat} (h : S.K a = 0) (v : Int32) (b : Nat) : va_up (wPF cyI cyZ cyO8866d cyO72d3f cyO7b988 S) a (.inr (0, [.int v, va_rf (S.O_Change.f_earlier a), .int (S.O_Change.f_tenantBefore a), .int (S.O_Change.f_bytesBefore a), .int (S.O_Change.f_tenantBehind a), .int (S.O_Change.f_bytesBehind a)])) b = wPF cyI cyZ cyO8866d cyO72d3f cyO7b988 { S with O_Change := { S.O_Change with f_hour := va_up S.O_Change.f_hour a v } } b := by by_cases hb : b = a <;> first | (simp only [wPF, va_up_ne _ _ hb]; done) | (simp only [wPF, va_up, if_neg hb]; done) | simp [wPF, va_re, va_up, va_rf, hb, h]
theorem wPu_O_Change_f_hour (cyI : ClassId) (cyZ : ClassId) (cyO8866d : ClassId) (cyO72d3f : ClassId) (cyO7b988 : ClassId) (X : va_W) (S : wPS) {A : Nat → Prop} {a k : Nat} (hD : va_D A (X ++ va_pl S.L (wPF cyI cyZ cyO8866d cyO72d3f cyO7b988 S))) (hL : a ∈ S.L) (h : S.K a = 0) (hk : (X ++ va_pl S.L (wPF cyI cyZ cyO8866d cyO72d3f cyO7b988 S))[k]? = some (a, wPF cyI cyZ cyO8866d cyO72d3f cyO7b988 S a)) (v : Int32) : (X ++ va_pl S.L (wPF cyI cyZ cyO8866d cyO72d3f cyO7b988 S)).set k (a, .inr (0, [.int v, va_rf (S.O_Change.f_earlier a), .int (S.O_Change.f_tenantBefore a), .int (S.O_Change.f_bytesBefore a), .int (S.O_Change.f_tenantBehind a), .int (S.O_Change.f_bytesBehind a)])) = X ++ va_pl S.L (wPF cyI cyZ cyO8866d cyO72d3f cyO7b988 { S with O_Change := { S.O_Change with f_hour := va_up S.O_Change.f_hour a v } }) := by
  rw [va_pl_set hD hL hk]
  exact congrArg (fun l => X ++ l) (va_pl_congr (wSt_O_Change_f_hour cyI cyZ cyO8866d cyO72d3f cyO7b988 S h v))
theorem wSt_O_Change_f_earlier (cyI : ClassId) (cyZ : ClassId) (cyO8866d : ClassId) (cyO72d3f : ClassId) (cyO7b988 : ClassId) (S : wPS) {a : Nat} (h : S.K a = 0) (v : Option Nat) (b : Nat) : va_up (wPF cyI cyZ cyO8866d cyO72d3f cyO7b988 S) a (.inr (0, [.int (S.O_Change.f_hour a), va_rf v, .int (S.O_Change.f_tenantBefore a), .int (S.O_Change.f_bytesBefore a), .int (S.O_Change.f_tenantBehind a), .int (S.O_Change.f_bytesBehind a)])) b = wPF cyI cyZ cyO8866d cyO72d3f cyO7b988 { S with O_Change := { S.O_Change with f_earlier := va_up S.O_Change.f_earlier a v } } b := by by_cases hb : b = a <;> first | (simp only [wPF, va_up_ne _ _ hb]; done) | (simp only [wPF, va_up, if_neg hb]; done) | simp [wPF, va_re, va_up, va_rf, hb, h]
theorem wPu_O_Change_f_earlier (cyI : ClassId) (cyZ : ClassId) (cyO8866d : ClassId) (cyO72d3f : ClassId) (cyO7b988 : ClassId) (X : va_W) (S : wPS) {A : Nat → Prop} {a k : Nat} (hD : va_D A (X ++ va_pl S.L (wPF cyI cyZ cyO8866d cyO72d3f cyO7b988 S))) (hL : a ∈ S.L) (h : S.K a = 0) (hk : (X ++ va_pl S.L (wPF cyI cyZ cyO8866d cyO72d3f cyO7b988 S))[k]? = some (a, wPF cyI cyZ cyO8866d cyO72d3f cyO7b988 S a)) (v : Option Nat) : (X ++ va_pl S.L (wPF cyI cyZ cyO8866d cyO72d3f cyO7b988 S)).set k (a, .inr (0, [.int (S.O_Change.f_hour a), va_rf v, .int (S.O_Change.f_tenantBefore a), .int (S.O_Change.f_bytesBefore a), .int (S.O_Change.f_tenantBehind a), .int (S.O_Change.f_bytesBehind a)])) = X ++ va_pl S.L (wPF cyI cyZ cyO8866d cyO72d3f cyO7b988 { S with O_Change := { S.O_Change with f_earlier := va_up S.O_Change.f_earlier a v } }) := by
  rw [va_pl_set hD hL hk]
  exact congrArg (fun l => X ++ l) (va_pl_congr (wSt_O_Change_f_earlier cyI cyZ cyO8866d cyO72d3f cyO7b988 S h v))
theorem wSt_O_Change_f_tenantBefore (cyI : ClassId) (cyZ : ClassId) (cyO8866d : ClassId) (cyO72d3f : ClassId) (cyO7b988 : ClassId) (S : wPS) {a : Nat} (h : S.K a = 0) (v : Int32) (b : Nat) : va_up (wPF cyI cyZ cyO8866d cyO72d3f cyO7b988 S) a (.inr (0, [.int (S.O_Change.f_hour a), va_rf (S.O_Change.f_earlier a), .int v, .int (S.O_Change.f_bytesBefore a), .int (S.O_Change.f_tenantBehind a), .int (S.O_Change.f_bytesBehind a)])) b = wPF cyI cyZ cyO8866d cyO72d3f cyO7b988 { S with O_Change := { S.O_Change with f_tenantBefore := va_up S.O_Change.f_tenantBefore a v } } b := by by_cases hb : b = a <;> first | (simp only [wPF, va_up_ne _ _ hb]; done) | (simp only [wPF, va_up, if_neg hb]; done) | simp [wPF, va_re, va_up, va_rf, hb, h]
theorem wPu_O_Change_f_tenantBefore (cyI : ClassId) (cyZ : ClassId) (cyO8866d : ClassId) (cyO72d3f : ClassId) (cyO7b988 : ClassId) (X : va_W) (S : wPS) {A : Nat → Prop} {a k : Nat} (hD : va_D A (X ++ va_pl S.L (wPF cyI cyZ cyO8866d cyO72d3f cyO7b988 S))) (hL : a ∈ S.L) (h : S.K a = 0) (hk : (X ++ va_pl S.L (wPF cyI cyZ cyO8866d cyO72d3f cyO7b988 S))[k]? = some (a, wPF cyI cyZ cyO8866d cyO72d3f cyO7b988 S a)) (v : Int32) : (X ++ va_pl S.L (wPF cyI cyZ cyO8866d cyO72d3f cyO7b988 S)).set k (a, .inr (0, [.int (S.O_Change.f_hour a), va_rf (S.O_Change.f_earlier a), .int v, .int (S.O_Change.f_bytesBefore a), .int (S.O_Change.f_tenantBehind a), .int (S.O_Change.f_bytesBehind a)])) = X ++ va_pl S.L (wPF cyI cyZ cyO8866d cyO72d3f cyO7b988 { S with O_Change := { S.O_Change with f_tenantBefore := va_up S.O_Change.f_tenantBefore a v } }) := by
  rw [va_pl_set hD hL hk]
  exact congrArg (fun l => X ++ l) (va_pl_congr (wSt_O_Change_f_tenantBefore cyI cyZ cyO8866d cyO72d3f cyO7b988 S h v))
theorem wSt_O_Change_f_bytesBefore (cyI : ClassId) (cyZ : ClassId) (cyO8866d : ClassId) (cyO72d3f : ClassId) (cyO7b988 : ClassId) (S : wPS) {a : Nat} (h : S.K a = 0) (v : Int32) (b : Nat) : va_up (wPF cyI cyZ cyO8866d cyO72d3f cyO7b988 S) a (.inr (0, [.int (S.O_Change.f_hour a), va_rf (S.O_Change.f_earlier a), .int (S.O_Change.f_tenantBefore a), .int v, .int (S.O_Change.f_tenantBehind a), .int (S.O_Change.f_bytesBehind a)])) b = wPF cyI cyZ cyO8866d cyO72d3f cyO7b988 { S with O_Change := { S.O_Change with f_bytesBefore := va_up S.O_Change.f_bytesBefore a v } } b := by by_cases hb : b = a <;> first | (simp only [wPF, va_up_ne _ _ hb]; done) | (simp only [wPF, va_up, if_neg hb]; done) | simp [wPF, va_re, va_up, va_rf, hb, h]
theorem wPu_O_Change_f_bytesBefore (cyI : ClassId) (cyZ : ClassId) (cyO8866d : ClassId) (cyO72d3f : ClassId) (cyO7b988 : ClassId) (X : va_W) (S : wPS) {A : Nat → Prop} {a k : Nat} (hD : va_D A (X ++ va_pl S.L (wPF cyI cyZ cyO8866d cyO72d3f cyO7b988 S))) (hL : a ∈ S.L) (h : S.K a = 0) (hk : (X ++ va_pl S.L (wPF cyI cyZ cyO8866d cyO72d3f cyO7b988 S))[k]? = some (a, wPF cyI cyZ cyO8866d cyO72d3f cyO7b988 S a)) (v : Int32) : (X ++ va_pl S.L (wPF cyI cyZ cyO8866d cyO72d3f cyO7b988 S)).set k (a, .inr (0, [.int (S.O_Change.f_hour a), va_rf (S.O_Change.f_earlier a), .int (S.O_Change.f_tenantBefore a), .int v, .int (S.O_Change.f_tenantBehind a), .int (S.O_Change.f_bytesBehind a)])) = X ++ va_pl S.L (wPF cyI cyZ cyO8866d cyO72d3f cyO7b988 { S with O_Change := { S.O_Change with f_bytesBefore := va_up S.O_Change.f_bytesBefore a v } }) := by
  rw [va_pl_set hD hL hk]
  exact congrArg (fun l => X ++ l) (va_pl_congr (wSt_O_Change_f_bytesBefore cyI cyZ cyO8866d cyO72d3f cyO7b988 S h v))
theorem wSt_O_Change_f_tenantBehind (cyI : ClassId) (cyZ : ClassId) (cyO8866d : ClassId) (cyO72d3f : ClassId) (cyO7b988 : ClassId) (S : wPS) {a : Nat} (h : S.K a = 0) (v : Int32) (b : Nat) : va_up (wPF cyI cyZ cyO8866d cyO72d3f cyO7b988 S) a (.inr (0, [.int (S.O_Change.f_hour a), va_rf (S.O_Change.f_earlier a), .int (S.O_Change.f_tenantBefore a), .int (S.O_Change.f_bytesBefore a), .int v, .int (S.O_Change.f_bytesBehind a)])) b = wPF cyI cyZ cyO8866d cyO72d3f cyO7b988 { S with O_Change := { S.O_Change with f_tenantBehind := va_up S.O_Change.f_tenantBehind a v } } b := by by_cases hb : b = a <;> first | (simp only [wPF, va_up_ne _ _ hb]; done) | (simp only [wPF, va_up, if_neg hb]; done) | simp [wPF, va_re, va_up, va_rf, hb, h]
theorem wPu_O_Change_f_tenantBehind (cyI : ClassId) (cyZ : ClassId) (cyO8866d : ClassId) (cyO72d3f : ClassId) (cyO7b988 : ClassId) (X : va_W) (S : wPS) {A : Nat → Prop} {a k : Nat} (hD : va_D A (X ++ va_pl S.L (wPF cyI cyZ cyO8866d cyO72d3f cyO7b988 S))) (hL : a ∈ S.L) (h : S.K a = 0) (hk : (X ++ va_pl S.L (wPF cyI cyZ cyO8866d cyO72d3f cyO7b988 S))[k]? = some (a, wPF cyI cyZ cyO8866d cyO72d3f cyO7b988 S a)) (v : Int32) : (X ++ va_pl S.L (wPF cyI cyZ cyO8866d cyO72d3f cyO7b988 S)).set k (a, .inr (0, [.int (S.O_Change.f_hour a), va_rf (S.O_Change.f_earlier a), .int (S.O_Change.f_tenantBefore a), .int (S.O_Change.f_bytesBefore a), .int v, .int (S.O_Change.f_bytesBehind a)])) = X ++ va_pl S.L (wPF cyI cyZ cyO8866d cyO72d3f cyO7b988 { S with O_Change := { S.O_Change with f_tenantBehind := va_up S.O_Change.f_tenantBehind a v } }) := by
  rw [va_pl_set hD hL hk]
  exact congrArg (fun l => X ++ l) (va_pl_congr (wSt_O_Change_f_tenantBehind cyI cyZ cyO8866d cyO72d3f cyO7b988 S h v))
theorem wSt_O_Change_f_bytesBehind (cyI : ClassId) (cyZ : ClassId) (cyO8866d : ClassId) (cyO72d3f : ClassId) (cyO7b988 : ClassId) (S : wPS) {a : Nat} (h : S.K a = 0) (v : Int32) (b : Nat) : va_up (wPF cyI cyZ cyO8866d cyO72d3f cyO7b988 S) a (.inr (0, [.int (S.O_Change.f_hour a), va_rf (S.O_Change.f_earlier a), .int (S.O_Change.f_tenantBefore a), .int (S.O_Change.f_bytesBefore a), .int (S.O_Change.f_tenantBehind a), .int v])) b = wPF cyI cyZ cyO8866d cyO72d3f cyO7b988 { S with O_Change := { S.O_Change with f_bytesBehind := va_up S.O_Change.f_bytesBehind a v } } b := by by_cases hb : b = a <;> first | (simp only [wPF, va_up_ne _ _ hb]; done) | (simp only [wPF, va_up, if_neg hb]; done) | simp [wPF, va_re, va_up, va_rf, hb, h]
theorem wPu_O_Change_f_bytesBehind (cyI : ClassId) (cyZ : ClassId) (cyO8866d : ClassId) (cyO72d3f : ClassId) (cyO7b988 : ClassId) (X : va_W) (S : wPS) {A : Nat → Prop} {a k : Nat} (hD : va_D A (X ++ va_pl S.L (wPF cyI cyZ cyO8866d cyO72d3f cyO7b988 S))) (hL : a ∈ S.L) (h : S.K a = 0) (hk : (X ++ va_pl S.L (wPF cyI cyZ cyO8866d cyO72d3f cyO7b988 S))[k]? = some (a, wPF cyI cyZ cyO8866d cyO72d3f cyO7b988 S a)) (v : Int32) : (X ++ va_pl S.L (wPF cyI cyZ cyO8866d cyO72d3f cyO7b988 S)).set k (a, .inr (0, [.int (S.O_Change.f_hour a), va_rf (S.O_Change.f_earlier a), .int (S.O_Change.f_tenantBefore a), .int (S.O_Change.f_bytesBefore a), .int (S.O_Change.f_tenantBehind a), .int v])) = X ++ va_pl S.L (wPF cyI cyZ cyO8866d cyO72d3f cyO7b988 { S with O_Change := { S.O_Change with f_bytesBehind := va_up S.O_Change.f_bytesBehind a v } }) := by
  rw [va_pl_set hD hL hk]
  exact congrArg (fun l => X ++ l) (va_pl_congr (wSt_O_Change_f_bytesBehind cyI cyZ cyO8866d cyO72d3f cyO7b988 S h v))
theorem wNw_O_Change (cyI : ClassId) (cyZ : ClassId) (cyO8866d : ClassId) (cyO72d3f : ClassId) (cyO7b988 : ClassId) (S : wPS) (a b : Nat) : va_up (wPF cyI cyZ cyO8866d cyO72d3f cyO7b988 S) a (.inr (0, [.int 0, .null, .int 0, .int 0, .int 0, .int 0])) b = wPF cyI cyZ cyO8866d cyO72d3f cyO7b988 { S with L := S.L ++ [a], K := va_up S.K a 0, O_Change := { f_hour := va_up S.O_Change.f_hour a 0, f_earlier := va_up S.O_Change.f_earlier a none, f_tenantBefore := va_up S.O_Change.f_tenantBefore a 0, f_bytesBefore := va_up S.O_Change.f_bytesBefore a 0, f_tenantBehind := va_up S.O_Change.f_tenantBehind a 0, f_bytesBehind := va_up S.O_Change.f_bytesBehind a 0 } } b := by by_cases hb : b = a <;> first | (simp only [wPF, va_up_ne _ _ hb]; done) | (simp only [wPF, va_up, if_neg hb]; done) | simp [wPF, va_re, va_up, va_rf, hb]
theorem wPn_O_Change (cyI : ClassId) (cyZ : ClassId) (cyO8866d : ClassId) (cyO72d3f : ClassId) (cyO7b988 : ClassId) (X : va_W) (S : wPS) {a : Nat} (ha : a ∉ S.L) : (X ++ va_pl S.L (wPF cyI cyZ cyO8866d cyO72d3f cyO7b988 S)) ++ [(a, .inr (0, [.int 0, .null, .int 0, .int 0, .int 0, .int 0]))] = X ++ va_pl (S.L ++ [a]) (wPF cyI cyZ cyO8866d cyO72d3f cyO7b988 { S with L := S.L ++ [a], K := va_up S.K a 0, O_Change := { f_hour := va_up S.O_Change.f_hour a 0, f_earlier := va_up S.O_Change.f_earlier a none, f_tenantBefore := va_up S.O_Change.f_tenantBefore a 0, f_bytesBefore := va_up S.O_Change.f_bytesBefore a 0, f_tenantBehind := va_up S.O_Change.f_tenantBehind a 0, f_bytesBehind := va_up S.O_Change.f_bytesBehind a 0 } }) := by
  rw [List.append_assoc, va_pl_push ha]
  exact congrArg (fun l => X ++ l) (va_pl_congr (wNw_O_Change cyI cyZ cyO8866d cyO72d3f cyO7b988 S a))
theorem wAt_O_CutOver (cyI : ClassId) (cyZ : ClassId) (cyO8866d : ClassId) (cyO72d3f : ClassId) (cyO7b988 : ClassId) (S : wPS) {a : Nat} (h : S.K a = 1) : wPF cyI cyZ cyO8866d cyO72d3f cyO7b988 S a = .inr (1, [.int (S.O_CutOver.f_first a), .int (S.O_CutOver.f_last a), .int (S.O_CutOver.f_machine a), va_rf (S.O_CutOver.f_earlier a)]) := by simp [wPF, h]
theorem wGt_O_CutOver (cyI : ClassId) (cyZ : ClassId) (cyO8866d : ClassId) (cyO72d3f : ClassId) (cyO7b988 : ClassId) (X : va_W) (S : wPS) {a : Nat} (hL : a ∈ S.L) (h : S.K a = 1) : ∃ k : Nat, (X ++ va_pl S.L (wPF cyI cyZ cyO8866d cyO72d3f cyO7b988 S))[k]? = some (a, wPF cyI cyZ cyO8866d cyO72d3f cyO7b988 S a) ∧ (X ++ va_pl S.L (wPF cyI cyZ cyO8866d cyO72d3f cyO7b988 S))[k]? = some (a, .inr (1, [.int (S.O_CutOver.f_first a), .int (S.O_CutOver.f_last a), .int (S.O_CutOver.f_machine a), va_rf (S.O_CutOver.f_earlier a)])) := by
  obtain ⟨k, hk⟩ := va_pl_get (X := X) (f := wPF cyI cyZ cyO8866d cyO72d3f cyO7b988 S) hL
  exact ⟨k, hk, hk.trans (congrArg (fun e => some (a, e)) (wAt_O_CutOver cyI cyZ cyO8866d cyO72d3f cyO7b988 S h))⟩
theorem wSt_O_CutOver_f_first (cyI : ClassId) (cyZ : ClassId) (cyO8866d : ClassId) (cyO72d3f : ClassId) (cyO7b988 : ClassId) (S : wPS) {a : Nat} (h : S.K a = 1) (v : Int32) (b : Nat) : va_up (wPF cyI cyZ cyO8866d cyO72d3f cyO7b988 S) a (.inr (1, [.int v, .int (S.O_CutOver.f_last a), .int (S.O_CutOver.f_machine a), va_rf (S.O_CutOver.f_earlier a)])) b = wPF cyI cyZ cyO8866d cyO72d3f cyO7b988 { S with O_CutOver := { S.O_CutOver with f_first := va_up S.O_CutOver.f_first a v } } b := by by_cases hb : b = a <;> first | (simp only [wPF, va_up_ne _ _ hb]; done) | (simp only [wPF, va_up, if_neg hb]; done) | simp [wPF, va_re, va_up, va_rf, hb, h]
theorem wPu_O_CutOver_f_first (cyI : ClassId) (cyZ : ClassId) (cyO8866d : ClassId) (cyO72d3f : ClassId) (cyO7b988 : ClassId) (X : va_W) (S : wPS) {A : Nat → Prop} {a k : Nat} (hD : va_D A (X ++ va_pl S.L (wPF cyI cyZ cyO8866d cyO72d3f cyO7b988 S))) (hL : a ∈ S.L) (h : S.K a = 1) (hk : (X ++ va_pl S.L (wPF cyI cyZ cyO8866d cyO72d3f cyO7b988 S))[k]? = some (a, wPF cyI cyZ cyO8866d cyO72d3f cyO7b988 S a)) (v : Int32) : (X ++ va_pl S.L (wPF cyI cyZ cyO8866d cyO72d3f cyO7b988 S)).set k (a, .inr (1, [.int v, .int (S.O_CutOver.f_last a), .int (S.O_CutOver.f_machine a), va_rf (S.O_CutOver.f_earlier a)])) = X ++ va_pl S.L (wPF cyI cyZ cyO8866d cyO72d3f cyO7b988 { S with O_CutOver := { S.O_CutOver with f_first := va_up S.O_CutOver.f_first a v } }) := by
  rw [va_pl_set hD hL hk]
  exact congrArg (fun l => X ++ l) (va_pl_congr (wSt_O_CutOver_f_first cyI cyZ cyO8866d cyO72d3f cyO7b988 S h v))
theorem wSt_O_CutOver_f_last (cyI : ClassId) (cyZ : ClassId) (cyO8866d : ClassId) (cyO72d3f : ClassId) (cyO7b988 : ClassId) (S : wPS) {a : Nat} (h : S.K a = 1) (v : Int32) (b : Nat) : va_up (wPF cyI cyZ cyO8866d cyO72d3f cyO7b988 S) a (.inr (1, [.int (S.O_CutOver.f_first a), .int v, .int (S.O_CutOver.f_machine a), va_rf (S.O_CutOver.f_earlier a)])) b = wPF cyI cyZ cyO8866d cyO72d3f cyO7b988 { S with O_CutOver := { S.O_CutOver with f_last := va_up S.O_CutOver.f_last a v } } b := by by_cases hb : b = a <;> first | (simp only [wPF, va_up_ne _ _ hb]; done) | (simp only [wPF, va_up, if_neg hb]; done) | simp [wPF, va_re, va_up, va_rf, hb, h]
theorem wPu_O_CutOver_f_last (cyI : ClassId) (cyZ : ClassId) (cyO8866d : ClassId) (cyO72d3f : ClassId) (cyO7b988 : ClassId) (X : va_W) (S : wPS) {A : Nat → Prop} {a k : Nat} (hD : va_D A (X ++ va_pl S.L (wPF cyI cyZ cyO8866d cyO72d3f cyO7b988 S))) (hL : a ∈ S.L) (h : S.K a = 1) (hk : (X ++ va_pl S.L (wPF cyI cyZ cyO8866d cyO72d3f cyO7b988 S))[k]? = some (a, wPF cyI cyZ cyO8866d cyO72d3f cyO7b988 S a)) (v : Int32) : (X ++ va_pl S.L (wPF cyI cyZ cyO8866d cyO72d3f cyO7b988 S)).set k (a, .inr (1, [.int (S.O_CutOver.f_first a), .int v, .int (S.O_CutOver.f_machine a), va_rf (S.O_CutOver.f_earlier a)])) = X ++ va_pl S.L (wPF cyI cyZ cyO8866d cyO72d3f cyO7b988 { S with O_CutOver := { S.O_CutOver with f_last := va_up S.O_CutOver.f_last a v } }) := by
  rw [va_pl_set hD hL hk]
  exact congrArg (fun l => X ++ l) (va_pl_congr (wSt_O_CutOver_f_last cyI cyZ cyO8866d cyO72d3f cyO7b988 S h v))
theorem wSt_O_CutOver_f_machine (cyI : ClassId) (cyZ : ClassId) (cyO8866d : ClassId) (cyO72d3f : ClassId) (cyO7b988 : ClassId) (S : wPS) {a : Nat} (h : S.K a = 1) (v : Int32) (b : Nat) : va_up (wPF cyI cyZ cyO8866d cyO72d3f cyO7b988 S) a (.inr (1, [.int (S.O_CutOver.f_first a), .int (S.O_CutOver.f_last a), .int v, va_rf (S.O_CutOver.f_earlier a)])) b = wPF cyI cyZ cyO8866d cyO72d3f cyO7b988 { S with O_CutOver := { S.O_CutOver with f_machine := va_up S.O_CutOver.f_machine a v } } b := by by_cases hb : b = a <;> first | (simp only [wPF, va_up_ne _ _ hb]; done) | (simp only [wPF, va_up, if_neg hb]; done) | simp [wPF, va_re, va_up, va_rf, hb, h]
theorem wPu_O_CutOver_f_machine (cyI : ClassId) (cyZ : ClassId) (cyO8866d : ClassId) (cyO72d3f : ClassId) (cyO7b988 : ClassId) (X : va_W) (S : wPS) {A : Nat → Prop} {a k : Nat} (hD : va_D A (X ++ va_pl S.L (wPF cyI cyZ cyO8866d cyO72d3f cyO7b988 S))) (hL : a ∈ S.L) (h : S.K a = 1) (hk : (X ++ va_pl S.L (wPF cyI cyZ cyO8866d cyO72d3f cyO7b988 S))[k]? = some (a, wPF cyI cyZ cyO8866d cyO72d3f cyO7b988 S a)) (v : Int32) : (X ++ va_pl S.L (wPF cyI cyZ cyO8866d cyO72d3f cyO7b988 S)).set k (a, .inr (1, [.int (S.O_CutOver.f_first a), .int (S.O_CutOver.f_last a), .int v, va_rf (S.O_CutOver.f_earlier a)])) = X ++ va_pl S.L (wPF cyI cyZ cyO8866d cyO72d3f cyO7b988 { S with O_CutOver := { S.O_CutOver with f_machine := va_up S.O_CutOver.f_machine a v } }) := by
  rw [va_pl_set hD hL hk]
  exact congrArg (fun l => X ++ l) (va_pl_congr (wSt_O_CutOver_f_machine cyI cyZ cyO8866d cyO72d3f cyO7b988 S h v))
theorem wSt_O_CutOver_f_earlier (cyI : ClassId) (cyZ : ClassId) (cyO8866d : ClassId) (cyO72d3f : ClassId) (cyO7b988 : ClassId) (S : wPS) {a : Nat} (h : S.K a = 1) (v : Option Nat) (b : Nat) : va_up (wPF cyI cyZ cyO8866d cyO72d3f cyO7b988 S) a (.inr (1, [.int (S.O_CutOver.f_first a), .int (S.O_CutOver.f_last a), .int (S.O_CutOver.f_machine a), va_rf v])) b = wPF cyI cyZ cyO8866d cyO72d3f cyO7b988 { S with O_CutOver := { S.O_CutOver with f_earlier := va_up S.O_CutOver.f_earlier a v } } b := by by_cases hb : b = a <;> first | (simp only [wPF, va_up_ne _ _ hb]; done) | (simp only [wPF, va_up, if_neg hb]; done) | simp [wPF, va_re, va_up, va_rf, hb, h]
theorem wPu_O_CutOver_f_earlier (cyI : ClassId) (cyZ : ClassId) (cyO8866d : ClassId) (cyO72d3f : ClassId) (cyO7b988 : ClassId) (X : va_W) (S : wPS) {A : Nat → Prop} {a k : Nat} (hD : va_D A (X ++ va_pl S.L (wPF cyI cyZ cyO8866d cyO72d3f cyO7b988 S))) (hL : a ∈ S.L) (h : S.K a = 1) (hk : (X ++ va_pl S.L (wPF cyI cyZ cyO8866d cyO72d3f cyO7b988 S))[k]? = some (a, wPF cyI cyZ cyO8866d cyO72d3f cyO7b988 S a)) (v : Option Nat) : (X ++ va_pl S.L (wPF cyI cyZ cyO8866d cyO72d3f cyO7b988 S)).set k (a, .inr (1, [.int (S.O_CutOver.f_first a), .int (S.O_CutOver.f_last a), .int (S.O_CutOver.f_machine a), va_rf v])) = X ++ va_pl S.L (wPF cyI cyZ cyO8866d cyO72d3f cyO7b988 { S with O_CutOver := { S.O_CutOver with f_earlier := va_up S.O_CutOver.f_earlier a v } }) := by
  rw [va_pl_set hD hL hk]
  exact congrArg (fun l => X ++ l) (va_pl_congr (wSt_O_CutOver_f_earlier cyI cyZ cyO8866d cyO72d3f cyO7b988 S h v))
theorem wNw_O_CutOver (cyI : ClassId) (cyZ : ClassId) (cyO8866d : ClassId) (cyO72d3f : ClassId) (cyO7b988 : ClassId) (S : wPS) (a b : Nat) : va_up (wPF cyI cyZ cyO8866d cyO72d3f cyO7b988 S) a (.inr (1, [.int 0, .int 0, .int 0, .null])) b = wPF cyI cyZ cyO8866d cyO72d3f cyO7b988 { S with L := S.L ++ [a], K := va_up S.K a 1, O_CutOver := { f_first := va_up S.O_CutOver.f_first a 0, f_last := va_up S.O_CutOver.f_last a 0, f_machine := va_up S.O_CutOver.f_machine a 0, f_earlier := va_up S.O_CutOver.f_earlier a none } } b := by by_cases hb : b = a <;> first | (simp only [wPF, va_up_ne _ _ hb]; done) | (simp only [wPF, va_up, if_neg hb]; done) | simp [wPF, va_re, va_up, va_rf, hb]
theorem wPn_O_CutOver (cyI : ClassId) (cyZ : ClassId) (cyO8866d : ClassId) (cyO72d3f : ClassId) (cyO7b988 : ClassId) (X : va_W) (S : wPS) {a : Nat} (ha : a ∉ S.L) : (X ++ va_pl S.L (wPF cyI cyZ cyO8866d cyO72d3f cyO7b988 S)) ++ [(a, .inr (1, [.int 0, .int 0, .int 0, .null]))] = X ++ va_pl (S.L ++ [a]) (wPF cyI cyZ cyO8866d cyO72d3f cyO7b988 { S with L := S.L ++ [a], K := va_up S.K a 1, O_CutOver := { f_first := va_up S.O_CutOver.f_first a 0, f_last := va_up S.O_CutOver.f_last a 0, f_machine := va_up S.O_CutOver.f_machine a 0, f_earlier := va_up S.O_CutOver.f_earlier a none } }) := by
  rw [List.append_assoc, va_pl_push ha]
  exact congrArg (fun l => X ++ l) (va_pl_congr (wNw_O_CutOver cyI cyZ cyO8866d cyO72d3f cyO7b988 S a))
theorem wAt_O_Machine (cyI : ClassId) (cyZ : ClassId) (cyO8866d : ClassId) (cyO72d3f : ClassId) (cyO7b988 : ClassId) (S : wPS) {a : Nat} (h : S.K a = 2) : wPF cyI cyZ cyO8866d cyO72d3f cyO7b988 S a = .inr (2, [.int (S.O_Machine.f_number a), .int (S.O_Machine.f_room a), .int (S.O_Machine.f_isUp a), .int (S.O_Machine.f_held a)]) := by simp [wPF, h]
theorem wGt_O_Machine (cyI : ClassId) (cyZ : ClassId) (cyO8866d : ClassId) (cyO72d3f : ClassId) (cyO7b988 : ClassId) (X : va_W) (S : wPS) {a : Nat} (hL : a ∈ S.L) (h : S.K a = 2) : ∃ k : Nat, (X ++ va_pl S.L (wPF cyI cyZ cyO8866d cyO72d3f cyO7b988 S))[k]? = some (a, wPF cyI cyZ cyO8866d cyO72d3f cyO7b988 S a) ∧ (X ++ va_pl S.L (wPF cyI cyZ cyO8866d cyO72d3f cyO7b988 S))[k]? = some (a, .inr (2, [.int (S.O_Machine.f_number a), .int (S.O_Machine.f_room a), .int (S.O_Machine.f_isUp a), .int (S.O_Machine.f_held a)])) := by
  obtain ⟨k, hk⟩ := va_pl_get (X := X) (f := wPF cyI cyZ cyO8866d cyO72d3f cyO7b988 S) hL
  exact ⟨k, hk, hk.trans (congrArg (fun e => some (a, e)) (wAt_O_Machine cyI cyZ cyO8866d cyO72d3f cyO7b988 S h))⟩
theorem wSt_O_Machine_f_number (cyI : ClassId) (cyZ : ClassId) (cyO8866d : ClassId) (cyO72d3f : ClassId) (cyO7b988 : ClassId) (S : wPS) {a : Nat} (h : S.K a = 2) (v : Int32) (b : Nat) : va_up (wPF cyI cyZ cyO8866d cyO72d3f cyO7b988 S) a (.inr (2, [.int v, .int (S.O_Machine.f_room a), .int (S.O_Machine.f_isUp a), .int (S.O_Machine.f_held a)])) b = wPF cyI cyZ cyO8866d cyO72d3f cyO7b988 { S with O_Machine := { S.O_Machine with f_number := va_up S.O_Machine.f_number a v } } b := by by_cases hb : b = a <;> first | (simp only [wPF, va_up_ne _ _ hb]; done) | (simp only [wPF, va_up, if_neg hb]; done) | simp [wPF, va_re, va_up, va_rf, hb, h]
theorem wPu_O_Machine_f_number (cyI : ClassId) (cyZ : ClassId) (cyO8866d : ClassId) (cyO72d3f : ClassId) (cyO7b988 : ClassId) (X : va_W) (S : wPS) {A : Nat → Prop} {a k : Nat} (hD : va_D A (X ++ va_pl S.L (wPF cyI cyZ cyO8866d cyO72d3f cyO7b988 S))) (hL : a ∈ S.L) (h : S.K a = 2) (hk : (X ++ va_pl S.L (wPF cyI cyZ cyO8866d cyO72d3f cyO7b988 S))[k]? = some (a, wPF cyI cyZ cyO8866d cyO72d3f cyO7b988 S a)) (v : Int32) : (X ++ va_pl S.L (wPF cyI cyZ cyO8866d cyO72d3f cyO7b988 S)).set k (a, .inr (2, [.int v, .int (S.O_Machine.f_room a), .int (S.O_Machine.f_isUp a), .int (S.O_Machine.f_held a)])) = X ++ va_pl S.L (wPF cyI cyZ cyO8866d cyO72d3f cyO7b988 { S with O_Machine := { S.O_Machine with f_number := va_up S.O_Machine.f_number a v } }) := by
  rw [va_pl_set hD hL hk]
  exact congrArg (fun l => X ++ l) (va_pl_congr (wSt_O_Machine_f_number cyI cyZ cyO8866d cyO72d3f cyO7b988 S h v))
theorem wSt_O_Machine_f_room (cyI : ClassId) (cyZ : ClassId) (cyO8866d : ClassId) (cyO72d3f : ClassId) (cyO7b988 : ClassId) (S : wPS) {a : Nat} (h : S.K a = 2) (v : Int32) (b : Nat) : va_up (wPF cyI cyZ cyO8866d cyO72d3f cyO7b988 S) a (.inr (2, [.int (S.O_Machine.f_number a), .int v, .int (S.O_Machine.f_isUp a), .int (S.O_Machine.f_held a)])) b = wPF cyI cyZ cyO8866d cyO72d3f cyO7b988 { S with O_Machine := { S.O_Machine with f_room := va_up S.O_Machine.f_room a v } } b := by by_cases hb : b = a <;> first | (simp only [wPF, va_up_ne _ _ hb]; done) | (simp only [wPF, va_up, if_neg hb]; done) | simp [wPF, va_re, va_up, va_rf, hb, h]
theorem wPu_O_Machine_f_room (cyI : ClassId) (cyZ : ClassId) (cyO8866d : ClassId) (cyO72d3f : ClassId) (cyO7b988 : ClassId) (X : va_W) (S : wPS) {A : Nat → Prop} {a k : Nat} (hD : va_D A (X ++ va_pl S.L (wPF cyI cyZ cyO8866d cyO72d3f cyO7b988 S))) (hL : a ∈ S.L) (h : S.K a = 2) (hk : (X ++ va_pl S.L (wPF cyI cyZ cyO8866d cyO72d3f cyO7b988 S))[k]? = some (a, wPF cyI cyZ cyO8866d cyO72d3f cyO7b988 S a)) (v : Int32) : (X ++ va_pl S.L (wPF cyI cyZ cyO8866d cyO72d3f cyO7b988 S)).set k (a, .inr (2, [.int (S.O_Machine.f_number a), .int v, .int (S.O_Machine.f_isUp a), .int (S.O_Machine.f_held a)])) = X ++ va_pl S.L (wPF cyI cyZ cyO8866d cyO72d3f cyO7b988 { S with O_Machine := { S.O_Machine with f_room := va_up S.O_Machine.f_room a v } }) := by
  rw [va_pl_set hD hL hk]
  exact congrArg (fun l => X ++ l) (va_pl_congr (wSt_O_Machine_f_room cyI cyZ cyO8866d cyO72d3f cyO7b988 S h v))
theorem wSt_O_Machine_f_isUp (cyI : ClassId) (cyZ : ClassId) (cyO8866d : ClassId) (cyO72d3f : ClassId) (cyO7b988 : ClassId) (S : wPS) {a : Nat} (h : S.K a = 2) (v : Int32) (b : Nat) : va_up (wPF cyI cyZ cyO8866d cyO72d3f cyO7b988 S) a (.inr (2, [.int (S.O_Machine.f_number a), .int (S.O_Machine.f_room a), .int v, .int (S.O_Machine.f_held a)])) b = wPF cyI cyZ cyO8866d cyO72d3f cyO7b988 { S with O_Machine := { S.O_Machine with f_isUp := va_up S.O_Machine.f_isUp a v } } b := by by_cases hb : b = a <;> first | (simp only [wPF, va_up_ne _ _ hb]; done) | (simp only [wPF, va_up, if_neg hb]; done) | simp [wPF, va_re, va_up, va_rf, hb, h]
theorem wPu_O_Machine_f_isUp (cyI : ClassId) (cyZ : ClassId) (cyO8866d : ClassId) (cyO72d3f : ClassId) (cyO7b988 : ClassId) (X : va_W) (S : wPS) {A : Nat → Prop} {a k : Nat} (hD : va_D A (X ++ va_pl S.L (wPF cyI cyZ cyO8866d cyO72d3f cyO7b988 S))) (hL : a ∈ S.L) (h : S.K a = 2) (hk : (X ++ va_pl S.L (wPF cyI cyZ cyO8866d cyO72d3f cyO7b988 S))[k]? = some (a, wPF cyI cyZ cyO8866d cyO72d3f cyO7b988 S a)) (v : Int32) : (X ++ va_pl S.L (wPF cyI cyZ cyO8866d cyO72d3f cyO7b988 S)).set k (a, .inr (2, [.int (S.O_Machine.f_number a), .int (S.O_Machine.f_room a), .int v, .int (S.O_Machine.f_held a)])) = X ++ va_pl S.L (wPF cyI cyZ cyO8866d cyO72d3f cyO7b988 { S with O_Machine := { S.O_Machine with f_isUp := va_up S.O_Machine.f_isUp a v } }) := by
  rw [va_pl_set hD hL hk]
  exact congrArg (fun l => X ++ l) (va_pl_congr (wSt_O_Machine_f_isUp cyI cyZ cyO8866d cyO72d3f cyO7b988 S h v))
theorem wSt_O_Machine_f_held (cyI : ClassId) (cyZ : ClassId) (cyO8866d : ClassId) (cyO72d3f : ClassId) (cyO7b988 : ClassId) (S : wPS) {a : Nat} (h : S.K a = 2) (v : Int32) (b : Nat) : va_up (wPF cyI cyZ cyO8866d cyO72d3f cyO7b988 S) a (.inr (2, [.int (S.O_Machine.f_number a), .int (S.O_Machine.f_room a), .int (S.O_Machine.f_isUp a), .int v])) b = wPF cyI cyZ cyO8866d cyO72d3f cyO7b988 { S with O_Machine := { S.O_Machine with f_held := va_up S.O_Machine.f_held a v } } b := by by_cases hb : b = a <;> first | (simp only [wPF, va_up_ne _ _ hb]; done) | (simp only [wPF, va_up, if_neg hb]; done) | simp [wPF, va_re, va_up, va_rf, hb, h]
theorem wPu_O_Machine_f_held (cyI : ClassId) (cyZ : ClassId) (cyO8866d : ClassId) (cyO72d3f : ClassId) (cyO7b988 : ClassId) (X : va_W) (S : wPS) {A : Nat → Prop} {a k : Nat} (hD : va_D A (X ++ va_pl S.L (wPF cyI cyZ cyO8866d cyO72d3f cyO7b988 S))) (hL : a ∈ S.L) (h : S.K a = 2) (hk : (X ++ va_pl S.L (wPF cyI cyZ cyO8866d cyO72d3f cyO7b988 S))[k]? = some (a, wPF cyI cyZ cyO8866d cyO72d3f cyO7b988 S a)) (v : Int32) : (X ++ va_pl S.L (wPF cyI cyZ cyO8866d cyO72d3f cyO7b988 S)).set k (a, .inr (2, [.int (S.O_Machine.f_number a), .int (S.O_Machine.f_room a), .int (S.O_Machine.f_isUp a), .int v])) = X ++ va_pl S.L (wPF cyI cyZ cyO8866d cyO72d3f cyO7b988 { S with O_Machine := { S.O_Machine with f_held := va_up S.O_Machine.f_held a v } }) := by
  rw [va_pl_set hD hL hk]
  exact congrArg (fun l => X ++ l) (va_pl_congr (wSt_O_Machine_f_held cyI cyZ cyO8866d cyO72d3f cyO7b988 S h v))
theorem wNw_O_Machine (cyI : ClassId) (cyZ : ClassId) (cyO8866d : ClassId) (cyO72d3f : ClassId) (cyO7b988 : ClassId) (S : wPS) (a b : Nat) : va_up (wPF cyI cyZ cyO8866d cyO72d3f cyO7b988 S) a (.inr (2, [.int 0, .int 0, .int 0, .int 0])) b = wPF cyI cyZ cyO8866d cyO72d3f cyO7b988 { S with L := S.L ++ [a], K := va_up S.K a 2, O_Machine := { f_number := va_up S.O_Machine.f_number a 0, f_room := va_up S.O_Machine.f_room a 0, f_isUp := va_up S.O_Machine.f_isUp a 0, f_held := va_up S.O_Machine.f_held a 0 } } b := by by_cases hb : b = a <;> first | (simp only [wPF, va_up_ne _ _ hb]; done) | (simp only [wPF, va_up, if_neg hb]; done) | simp [wPF, va_re, va_up, va_rf, hb]
theorem wPn_O_Machine (cyI : ClassId) (cyZ : ClassId) (cyO8866d : ClassId) (cyO72d3f : ClassId) (cyO7b988 : ClassId) (X : va_W) (S : wPS) {a : Nat} (ha : a ∉ S.L) : (X ++ va_pl S.L (wPF cyI cyZ cyO8866d cyO72d3f cyO7b988 S)) ++ [(a, .inr (2, [.int 0, .int 0, .int 0, .int 0]))] = X ++ va_pl (S.L ++ [a]) (wPF cyI cyZ cyO8866d cyO72d3f cyO7b988 { S with L := S.L ++ [a], K := va_up S.K a 2, O_Machine := { f_number := va_up S.O_Machine.f_number a 0, f_room := va_up S.O_Machine.f_room a 0, f_isUp := va_up S.O_Machine.f_isUp a 0, f_held := va_up S.O_Machine.f_held a 0 } }) := by
  rw [List.append_assoc, va_pl_push ha]
  exact congrArg (fun l => X ++ l) (va_pl_congr (wNw_O_Machine cyI cyZ cyO8866d cyO72d3f cyO7b988 S a))
theorem wAt_O_Shard (cyI : ClassId) (cyZ : ClassId) (cyO8866d : ClassId) (cyO72d3f : ClassId) (cyO7b988 : ClassId) (S : wPS) {a : Nat} (h : S.K a = 3) : wPF cyI cyZ cyO8866d cyO72d3f cyO7b988 S a = .inr (3, [.int (S.O_Shard.f_first a), .int (S.O_Shard.f_last a), va_rf (S.O_Shard.f_home a), va_rf (S.O_Shard.f_target a), .int (S.O_Shard.f_nextToCopy a), .int (S.O_Shard.f_mayCopy a), .int (S.O_Shard.f_copied a), .int (S.O_Shard.f_bytes a), .int (S.O_Shard.f_heat a)]) := by simp [wPF, h]
theorem wGt_O_Shard (cyI : ClassId) (cyZ : ClassId) (cyO8866d : ClassId) (cyO72d3f : ClassId) (cyO7b988 : ClassId) (X : va_W) (S : wPS) {a : Nat} (hL : a ∈ S.L) (h : S.K a = 3) : ∃ k : Nat, (X ++ va_pl S.L (wPF cyI cyZ cyO8866d cyO72d3f cyO7b988 S))[k]? = some (a, wPF cyI cyZ cyO8866d cyO72d3f cyO7b988 S a) ∧ (X ++ va_pl S.L (wPF cyI cyZ cyO8866d cyO72d3f cyO7b988 S))[k]? = some (a, .inr (3, [.int (S.O_Shard.f_first a), .int (S.O_Shard.f_last a), va_rf (S.O_Shard.f_home a), va_rf (S.O_Shard.f_target a), .int (S.O_Shard.f_nextToCopy a), .int (S.O_Shard.f_mayCopy a), .int (S.O_Shard.f_copied a), .int (S.O_Shard.f_bytes a), .int (S.O_Shard.f_heat a)])) := by
  obtain ⟨k, hk⟩ := va_pl_get (X := X) (f := wPF cyI cyZ cyO8866d cyO72d3f cyO7b988 S) hL
  exact ⟨k, hk, hk.trans (congrArg (fun e => some (a, e)) (wAt_O_Shard cyI cyZ cyO8866d cyO72d3f cyO7b988 S h))⟩
theorem wSt_O_Shard_f_first (cyI : ClassId) (cyZ : ClassId) (cyO8866d : ClassId) (cyO72d3f : ClassId) (cyO7b988 : ClassId) (S : wPS) {a : Nat} (h : S.K a = 3) (v : Int32) (b : Nat) : va_up (wPF cyI cyZ cyO8866d cyO72d3f cyO7b988 S) a (.inr (3, [.int v, .int (S.O_Shard.f_last a), va_rf (S.O_Shard.f_home a), va_rf (S.O_Shard.f_target a), .int (S.O_Shard.f_nextToCopy a), .int (S.O_Shard.f_mayCopy a), .int (S.O_Shard.f_copied a), .int (S.O_Shard.f_bytes a), .int (S.O_Shard.f_heat a)])) b = wPF cyI cyZ cyO8866d cyO72d3f cyO7b988 { S with O_Shard := { S.O_Shard with f_first := va_up S.O_Shard.f_first a v } } b := by by_cases hb : b = a <;> first | (simp only [wPF, va_up_ne _ _ hb]; done) | (simp only [wPF, va_up, if_neg hb]; done) | simp [wPF, va_re, va_up, va_rf, hb, h]
theorem wPu_O_Shard_f_first (cyI : ClassId) (cyZ : ClassId) (cyO8866d : ClassId) (cyO72d3f : ClassId) (cyO7b988 : ClassId) (X : va_W) (S : wPS) {A : Nat → Prop} {a k : Nat} (hD : va_D A (X ++ va_pl S.L (wPF cyI cyZ cyO8866d cyO72d3f cyO7b988 S))) (hL : a ∈ S.L) (h : S.K a = 3) (hk : (X ++ va_pl S.L (wPF cyI cyZ cyO8866d cyO72d3f cyO7b988 S))[k]? = some (a, wPF cyI cyZ cyO8866d cyO72d3f cyO7b988 S a)) (v : Int32) : (X ++ va_pl S.L (wPF cyI cyZ cyO8866d cyO72d3f cyO7b988 S)).set k (a, .inr (3, [.int v, .int (S.O_Shard.f_last a), va_rf (S.O_Shard.f_home a), va_rf (S.O_Shard.f_target a), .int (S.O_Shard.f_nextToCopy a), .int (S.O_Shard.f_mayCopy a), .int (S.O_Shard.f_copied a), .int (S.O_Shard.f_bytes a), .int (S.O_Shard.f_heat a)])) = X ++ va_pl S.L (wPF cyI cyZ cyO8866d cyO72d3f cyO7b988 { S with O_Shard := { S.O_Shard with f_first := va_up S.O_Shard.f_first a v } }) := by
  rw [va_pl_set hD hL hk]
  exact congrArg (fun l => X ++ l) (va_pl_congr (wSt_O_Shard_f_first cyI cyZ cyO8866d cyO72d3f cyO7b988 S h v))
theorem wSt_O_Shard_f_last (cyI : ClassId) (cyZ : ClassId) (cyO8866d : ClassId) (cyO72d3f : ClassId) (cyO7b988 : ClassId) (S : wPS) {a : Nat} (h : S.K a = 3) (v : Int32) (b : Nat) : va_up (wPF cyI cyZ cyO8866d cyO72d3f cyO7b988 S) a (.inr (3, [.int (S.O_Shard.f_first a), .int v, va_rf (S.O_Shard.f_home a), va_rf (S.O_Shard.f_target a), .int (S.O_Shard.f_nextToCopy a), .int (S.O_Shard.f_mayCopy a), .int (S.O_Shard.f_copied a), .int (S.O_Shard.f_bytes a), .int (S.O_Shard.f_heat a)])) b = wPF cyI cyZ cyO8866d cyO72d3f cyO7b988 { S with O_Shard := { S.O_Shard with f_last := va_up S.O_Shard.f_last a v } } b := by by_cases hb : b = a <;> first | (simp only [wPF, va_up_ne _ _ hb]; done) | (simp only [wPF, va_up, if_neg hb]; done) | simp [wPF, va_re, va_up, va_rf, hb, h]
theorem wPu_O_Shard_f_last (cyI : ClassId) (cyZ : ClassId) (cyO8866d : ClassId) (cyO72d3f : ClassId) (cyO7b988 : ClassId) (X : va_W) (S : wPS) {A : Nat → Prop} {a k : Nat} (hD : va_D A (X ++ va_pl S.L (wPF cyI cyZ cyO8866d cyO72d3f cyO7b988 S))) (hL : a ∈ S.L) (h : S.K a = 3) (hk : (X ++ va_pl S.L (wPF cyI cyZ cyO8866d cyO72d3f cyO7b988 S))[k]? = some (a, wPF cyI cyZ cyO8866d cyO72d3f cyO7b988 S a)) (v : Int32) : (X ++ va_pl S.L (wPF cyI cyZ cyO8866d cyO72d3f cyO7b988 S)).set k (a, .inr (3, [.int (S.O_Shard.f_first a), .int v, va_rf (S.O_Shard.f_home a), va_rf (S.O_Shard.f_target a), .int (S.O_Shard.f_nextToCopy a), .int (S.O_Shard.f_mayCopy a), .int (S.O_Shard.f_copied a), .int (S.O_Shard.f_bytes a), .int (S.O_Shard.f_heat a)])) = X ++ va_pl S.L (wPF cyI cyZ cyO8866d cyO72d3f cyO7b988 { S with O_Shard := { S.O_Shard with f_last := va_up S.O_Shard.f_last a v } }) := by
  rw [va_pl_set hD hL hk]
  exact congrArg (fun l => X ++ l) (va_pl_congr (wSt_O_Shard_f_last cyI cyZ cyO8866d cyO72d3f cyO7b988 S h v))
theorem wSt_O_Shard_f_home (cyI : ClassId) (cyZ : ClassId) (cyO8866d : ClassId) (cyO72d3f : ClassId) (cyO7b988 : ClassId) (S : wPS) {a : Nat} (h : S.K a = 3) (v : Option Nat) (b : Nat) : va_up (wPF cyI cyZ cyO8866d cyO72d3f cyO7b988 S) a (.inr (3, [.int (S.O_Shard.f_first a), .int (S.O_Shard.f_last a), va_rf v, va_rf (S.O_Shard.f_target a), .int (S.O_Shard.f_nextToCopy a), .int (S.O_Shard.f_mayCopy a), .int (S.O_Shard.f_copied a), .int (S.O_Shard.f_bytes a), .int (S.O_Shard.f_heat a)])) b = wPF cyI cyZ cyO8866d cyO72d3f cyO7b988 { S with O_Shard := { S.O_Shard with f_home := va_up S.O_Shard.f_home a v } } b := by by_cases hb : b = a <;> first | (simp only [wPF, va_up_ne _ _ hb]; done) | (simp only [wPF, va_up, if_neg hb]; done) | simp [wPF, va_re, va_up, va_rf, hb, h]
theorem wPu_O_Shard_f_home (cyI : ClassId) (cyZ : ClassId) (cyO8866d : ClassId) (cyO72d3f : ClassId) (cyO7b988 : ClassId) (X : va_W) (S : wPS) {A : Nat → Prop} {a k : Nat} (hD : va_D A (X ++ va_pl S.L (wPF cyI cyZ cyO8866d cyO72d3f cyO7b988 S))) (hL : a ∈ S.L) (h : S.K a = 3) (hk : (X ++ va_pl S.L (wPF cyI cyZ cyO8866d cyO72d3f cyO7b988 S))[k]? = some (a, wPF cyI cyZ cyO8866d cyO72d3f cyO7b988 S a)) (v : Option Nat) : (X ++ va_pl S.L (wPF cyI cyZ cyO8866d cyO72d3f cyO7b988 S)).set k (a, .inr (3, [.int (S.O_Shard.f_first a), .int (S.O_Shard.f_last a), va_rf v, va_rf (S.O_Shard.f_target a), .int (S.O_Shard.f_nextToCopy a), .int (S.O_Shard.f_mayCopy a), .int (S.O_Shard.f_copied a), .int (S.O_Shard.f_bytes a), .int (S.O_Shard.f_heat a)])) = X ++ va_pl S.L (wPF cyI cyZ cyO8866d cyO72d3f cyO7b988 { S with O_Shard := { S.O_Shard with f_home := va_up S.O_Shard.f_home a v } }) := by
  rw [va_pl_set hD hL hk]
  exact congrArg (fun l => X ++ l) (va_pl_congr (wSt_O_Shard_f_home cyI cyZ cyO8866d cyO72d3f cyO7b988 S h v))
theorem wSt_O_Shard_f_target (cyI : ClassId) (cyZ : ClassId) (cyO8866d : ClassId) (cyO72d3f : ClassId) (cyO7b988 : ClassId) (S : wPS) {a : Nat} (h : S.K a = 3) (v : Option Nat) (b : Nat) : va_up (wPF cyI cyZ cyO8866d cyO72d3f cyO7b988 S) a (.inr (3, [.int (S.O_Shard.f_first a), .int (S.O_Shard.f_last a), va_rf (S.O_Shard.f_home a), va_rf v, .int (S.O_Shard.f_nextToCopy a), .int (S.O_Shard.f_mayCopy a), .int (S.O_Shard.f_copied a), .int (S.O_Shard.f_bytes a), .int (S.O_Shard.f_heat a)])) b = wPF cyI cyZ cyO8866d cyO72d3f cyO7b988 { S with O_Shard := { S.O_Shard with f_target := va_up S.O_Shard.f_target a v } } b := by by_cases hb : b = a <;> first | (simp only [wPF, va_up_ne _ _ hb]; done) | (simp only [wPF, va_up, if_neg hb]; done) | simp [wPF, va_re, va_up, va_rf, hb, h]
theorem wPu_O_Shard_f_target (cyI : ClassId) (cyZ : ClassId) (cyO8866d : ClassId) (cyO72d3f : ClassId) (cyO7b988 : ClassId) (X : va_W) (S : wPS) {A : Nat → Prop} {a k : Nat} (hD : va_D A (X ++ va_pl S.L (wPF cyI cyZ cyO8866d cyO72d3f cyO7b988 S))) (hL : a ∈ S.L) (h : S.K a = 3) (hk : (X ++ va_pl S.L (wPF cyI cyZ cyO8866d cyO72d3f cyO7b988 S))[k]? = some (a, wPF cyI cyZ cyO8866d cyO72d3f cyO7b988 S a)) (v : Option Nat) : (X ++ va_pl S.L (wPF cyI cyZ cyO8866d cyO72d3f cyO7b988 S)).set k (a, .inr (3, [.int (S.O_Shard.f_first a), .int (S.O_Shard.f_last a), va_rf (S.O_Shard.f_home a), va_rf v, .int (S.O_Shard.f_nextToCopy a), .int (S.O_Shard.f_mayCopy a), .int (S.O_Shard.f_copied a), .int (S.O_Shard.f_bytes a), .int (S.O_Shard.f_heat a)])) = X ++ va_pl S.L (wPF cyI cyZ cyO8866d cyO72d3f cyO7b988 { S with O_Shard := { S.O_Shard with f_target := va_up S.O_Shard.f_target a v } }) := by
  rw [va_pl_set hD hL hk]
  exact congrArg (fun l => X ++ l) (va_pl_congr (wSt_O_Shard_f_target cyI cyZ cyO8866d cyO72d3f cyO7b988 S h v))
theorem wSt_O_Shard_f_nextToCopy (cyI : ClassId) (cyZ : ClassId) (cyO8866d : ClassId) (cyO72d3f : ClassId) (cyO7b988 : ClassId) (S : wPS) {a : Nat} (h : S.K a = 3) (v : Int32) (b : Nat) : va_up (wPF cyI cyZ cyO8866d cyO72d3f cyO7b988 S) a (.inr (3, [.int (S.O_Shard.f_first a), .int (S.O_Shard.f_last a), va_rf (S.O_Shard.f_home a), va_rf (S.O_Shard.f_target a), .int v, .int (S.O_Shard.f_mayCopy a), .int (S.O_Shard.f_copied a), .int (S.O_Shard.f_bytes a), .int (S.O_Shard.f_heat a)])) b = wPF cyI cyZ cyO8866d cyO72d3f cyO7b988 { S with O_Shard := { S.O_Shard with f_nextToCopy := va_up S.O_Shard.f_nextToCopy a v } } b := by by_cases hb : b = a <;> first | (simp only [wPF, va_up_ne _ _ hb]; done) | (simp only [wPF, va_up, if_neg hb]; done) | simp [wPF, va_re, va_up, va_rf, hb, h]
theorem wPu_O_Shard_f_nextToCopy (cyI : ClassId) (cyZ : ClassId) (cyO8866d : ClassId) (cyO72d3f : ClassId) (cyO7b988 : ClassId) (X : va_W) (S : wPS) {A : Nat → Prop} {a k : Nat} (hD : va_D A (X ++ va_pl S.L (wPF cyI cyZ cyO8866d cyO72d3f cyO7b988 S))) (hL : a ∈ S.L) (h : S.K a = 3) (hk : (X ++ va_pl S.L (wPF cyI cyZ cyO8866d cyO72d3f cyO7b988 S))[k]? = some (a, wPF cyI cyZ cyO8866d cyO72d3f cyO7b988 S a)) (v : Int32) : (X ++ va_pl S.L (wPF cyI cyZ cyO8866d cyO72d3f cyO7b988 S)).set k (a, .inr (3, [.int (S.O_Shard.f_first a), .int (S.O_Shard.f_last a), va_rf (S.O_Shard.f_home a), va_rf (S.O_Shard.f_target a), .int v, .int (S.O_Shard.f_mayCopy a), .int (S.O_Shard.f_copied a), .int (S.O_Shard.f_bytes a), .int (S.O_Shard.f_heat a)])) = X ++ va_pl S.L (wPF cyI cyZ cyO8866d cyO72d3f cyO7b988 { S with O_Shard := { S.O_Shard with f_nextToCopy := va_up S.O_Shard.f_nextToCopy a v } }) := by
  rw [va_pl_set hD hL hk]
  exact congrArg (fun l => X ++ l) (va_pl_congr (wSt_O_Shard_f_nextToCopy cyI cyZ cyO8866d cyO72d3f cyO7b988 S h v))
theorem wSt_O_Shard_f_mayCopy (cyI : ClassId) (cyZ : ClassId) (cyO8866d : ClassId) (cyO72d3f : ClassId) (cyO7b988 : ClassId) (S : wPS) {a : Nat} (h : S.K a = 3) (v : Int32) (b : Nat) : va_up (wPF cyI cyZ cyO8866d cyO72d3f cyO7b988 S) a (.inr (3, [.int (S.O_Shard.f_first a), .int (S.O_Shard.f_last a), va_rf (S.O_Shard.f_home a), va_rf (S.O_Shard.f_target a), .int (S.O_Shard.f_nextToCopy a), .int v, .int (S.O_Shard.f_copied a), .int (S.O_Shard.f_bytes a), .int (S.O_Shard.f_heat a)])) b = wPF cyI cyZ cyO8866d cyO72d3f cyO7b988 { S with O_Shard := { S.O_Shard with f_mayCopy := va_up S.O_Shard.f_mayCopy a v } } b := by by_cases hb : b = a <;> first | (simp only [wPF, va_up_ne _ _ hb]; done) | (simp only [wPF, va_up, if_neg hb]; done) | simp [wPF, va_re, va_up, va_rf, hb, h]
theorem wPu_O_Shard_f_mayCopy (cyI : ClassId) (cyZ : ClassId) (cyO8866d : ClassId) (cyO72d3f : ClassId) (cyO7b988 : ClassId) (X : va_W) (S : wPS) {A : Nat → Prop} {a k : Nat} (hD : va_D A (X ++ va_pl S.L (wPF cyI cyZ cyO8866d cyO72d3f cyO7b988 S))) (hL : a ∈ S.L) (h : S.K a = 3) (hk : (X ++ va_pl S.L (wPF cyI cyZ cyO8866d cyO72d3f cyO7b988 S))[k]? = some (a, wPF cyI cyZ cyO8866d cyO72d3f cyO7b988 S a)) (v : Int32) : (X ++ va_pl S.L (wPF cyI cyZ cyO8866d cyO72d3f cyO7b988 S)).set k (a, .inr (3, [.int (S.O_Shard.f_first a), .int (S.O_Shard.f_last a), va_rf (S.O_Shard.f_home a), va_rf (S.O_Shard.f_target a), .int (S.O_Shard.f_nextToCopy a), .int v, .int (S.O_Shard.f_copied a), .int (S.O_Shard.f_bytes a), .int (S.O_Shard.f_heat a)])) = X ++ va_pl S.L (wPF cyI cyZ cyO8866d cyO72d3f cyO7b988 { S with O_Shard := { S.O_Shard with f_mayCopy := va_up S.O_Shard.f_mayCopy a v } }) := by
  rw [va_pl_set hD hL hk]
  exact congrArg (fun l => X ++ l) (va_pl_congr (wSt_O_Shard_f_mayCopy cyI cyZ cyO8866d cyO72d3f cyO7b988 S h v))
theorem wSt_O_Shard_f_copied (cyI : ClassId) (cyZ : ClassId) (cyO8866d : ClassId) (cyO72d3f : ClassId) (cyO7b988 : ClassId) (S : wPS) {a : Nat} (h : S.K a = 3) (v : Int32) (b : Nat) : va_up (wPF cyI cyZ cyO8866d cyO72d3f cyO7b988 S) a (.inr (3, [.int (S.O_Shard.f_first a), .int (S.O_Shard.f_last a), va_rf (S.O_Shard.f_home a), va_rf (S.O_Shard.f_target a), .int (S.O_Shard.f_nextToCopy a), .int (S.O_Shard.f_mayCopy a), .int v, .int (S.O_Shard.f_bytes a), .int (S.O_Shard.f_heat a)])) b = wPF cyI cyZ cyO8866d cyO72d3f cyO7b988 { S with O_Shard := { S.O_Shard with f_copied := va_up S.O_Shard.f_copied a v } } b := by by_cases hb : b = a <;> first | (simp only [wPF, va_up_ne _ _ hb]; done) | (simp only [wPF, va_up, if_neg hb]; done) | simp [wPF, va_re, va_up, va_rf, hb, h]
theorem wPu_O_Shard_f_copied (cyI : ClassId) (cyZ : ClassId) (cyO8866d : ClassId) (cyO72d3f : ClassId) (cyO7b988 : ClassId) (X : va_W) (S : wPS) {A : Nat → Prop} {a k : Nat} (hD : va_D A (X ++ va_pl S.L (wPF cyI cyZ cyO8866d cyO72d3f cyO7b988 S))) (hL : a ∈ S.L) (h : S.K a = 3) (hk : (X ++ va_pl S.L (wPF cyI cyZ cyO8866d cyO72d3f cyO7b988 S))[k]? = some (a, wPF cyI cyZ cyO8866d cyO72d3f cyO7b988 S a)) (v : Int32) : (X ++ va_pl S.L (wPF cyI cyZ cyO8866d cyO72d3f cyO7b988 S)).set k (a, .inr (3, [.int (S.O_Shard.f_first a), .int (S.O_Shard.f_last a), va_rf (S.O_Shard.f_home a), va_rf (S.O_Shard.f_target a), .int (S.O_Shard.f_nextToCopy a), .int (S.O_Shard.f_mayCopy a), .int v, .int (S.O_Shard.f_bytes a), .int (S.O_Shard.f_heat a)])) = X ++ va_pl S.L (wPF cyI cyZ cyO8866d cyO72d3f cyO7b988 { S with O_Shard := { S.O_Shard with f_copied := va_up S.O_Shard.f_copied a v } }) := by
  rw [va_pl_set hD hL hk]
  exact congrArg (fun l => X ++ l) (va_pl_congr (wSt_O_Shard_f_copied cyI cyZ cyO8866d cyO72d3f cyO7b988 S h v))
theorem wSt_O_Shard_f_bytes (cyI : ClassId) (cyZ : ClassId) (cyO8866d : ClassId) (cyO72d3f : ClassId) (cyO7b988 : ClassId) (S : wPS) {a : Nat} (h : S.K a = 3) (v : Int32) (b : Nat) : va_up (wPF cyI cyZ cyO8866d cyO72d3f cyO7b988 S) a (.inr (3, [.int (S.O_Shard.f_first a), .int (S.O_Shard.f_last a), va_rf (S.O_Shard.f_home a), va_rf (S.O_Shard.f_target a), .int (S.O_Shard.f_nextToCopy a), .int (S.O_Shard.f_mayCopy a), .int (S.O_Shard.f_copied a), .int v, .int (S.O_Shard.f_heat a)])) b = wPF cyI cyZ cyO8866d cyO72d3f cyO7b988 { S with O_Shard := { S.O_Shard with f_bytes := va_up S.O_Shard.f_bytes a v } } b := by by_cases hb : b = a <;> first | (simp only [wPF, va_up_ne _ _ hb]; done) | (simp only [wPF, va_up, if_neg hb]; done) | simp [wPF, va_re, va_up, va_rf, hb, h]
theorem wPu_O_Shard_f_bytes (cyI : ClassId) (cyZ : ClassId) (cyO8866d : ClassId) (cyO72d3f : ClassId) (cyO7b988 : ClassId) (X : va_W) (S : wPS) {A : Nat → Prop} {a k : Nat} (hD : va_D A (X ++ va_pl S.L (wPF cyI cyZ cyO8866d cyO72d3f cyO7b988 S))) (hL : a ∈ S.L) (h : S.K a = 3) (hk : (X ++ va_pl S.L (wPF cyI cyZ cyO8866d cyO72d3f cyO7b988 S))[k]? = some (a, wPF cyI cyZ cyO8866d cyO72d3f cyO7b988 S a)) (v : Int32) : (X ++ va_pl S.L (wPF cyI cyZ cyO8866d cyO72d3f cyO7b988 S)).set k (a, .inr (3, [.int (S.O_Shard.f_first a), .int (S.O_Shard.f_last a), va_rf (S.O_Shard.f_home a), va_rf (S.O_Shard.f_target a), .int (S.O_Shard.f_nextToCopy a), .int (S.O_Shard.f_mayCopy a), .int (S.O_Shard.f_copied a), .int v, .int (S.O_Shard.f_heat a)])) = X ++ va_pl S.L (wPF cyI cyZ cyO8866d cyO72d3f cyO7b988 { S with O_Shard := { S.O_Shard with f_bytes := va_up S.O_Shard.f_bytes a v } }) := by
  rw [va_pl_set hD hL hk]
  exact congrArg (fun l => X ++ l) (va_pl_congr (wSt_O_Shard_f_bytes cyI cyZ cyO8866d cyO72d3f cyO7b988 S h v))
theorem wSt_O_Shard_f_heat (cyI : ClassId) (cyZ : ClassId) (cyO8866d : ClassId) (cyO72d3f : ClassId) (cyO7b988 : ClassId) (S : wPS) {a : Nat} (h : S.K a = 3) (v : Int32) (b : Nat) : va_up (wPF cyI cyZ cyO8866d cyO72d3f cyO7b988 S) a (.inr (3, [.int (S.O_Shard.f_first a), .int (S.O_Shard.f_last a), va_rf (S.O_Shard.f_home a), va_rf (S.O_Shard.f_target a), .int (S.O_Shard.f_nextToCopy a), .int (S.O_Shard.f_mayCopy a), .int (S.O_Shard.f_copied a), .int (S.O_Shard.f_bytes a), .int v])) b = wPF cyI cyZ cyO8866d cyO72d3f cyO7b988 { S with O_Shard := { S.O_Shard with f_heat := va_up S.O_Shard.f_heat a v } } b := by by_cases hb : b = a <;> first | (simp only [wPF, va_up_ne _ _ hb]; done) | (simp only [wPF, va_up, if_neg hb]; done) | simp [wPF, va_re, va_up, va_rf, hb, h]
theorem wPu_O_Shard_f_heat (cyI : ClassId) (cyZ : ClassId) (cyO8866d : ClassId) (cyO72d3f : ClassId) (cyO7b988 : ClassId) (X : va_W) (S : wPS) {A : Nat → Prop} {a k : Nat} (hD : va_D A (X ++ va_pl S.L (wPF cyI cyZ cyO8866d cyO72d3f cyO7b988 S))) (hL : a ∈ S.L) (h : S.K a = 3) (hk : (X ++ va_pl S.L (wPF cyI cyZ cyO8866d cyO72d3f cyO7b988 S))[k]? = some (a, wPF cyI cyZ cyO8866d cyO72d3f cyO7b988 S a)) (v : Int32) : (X ++ va_pl S.L (wPF cyI cyZ cyO8866d cyO72d3f cyO7b988 S)).set k (a, .inr (3, [.int (S.O_Shard.f_first a), .int (S.O_Shard.f_last a), va_rf (S.O_Shard.f_home a), va_rf (S.O_Shard.f_target a), .int (S.O_Shard.f_nextToCopy a), .int (S.O_Shard.f_mayCopy a), .int (S.O_Shard.f_copied a), .int (S.O_Shard.f_bytes a), .int v])) = X ++ va_pl S.L (wPF cyI cyZ cyO8866d cyO72d3f cyO7b988 { S with O_Shard := { S.O_Shard with f_heat := va_up S.O_Shard.f_heat a v } }) := by
  rw [va_pl_set hD hL hk]
  exact congrArg (fun l => X ++ l) (va_pl_congr (wSt_O_Shard_f_heat cyI cyZ cyO8866d cyO72d3f cyO7b988 S h v))
theorem wNw_O_Shard (cyI : ClassId) (cyZ : ClassId) (cyO8866d : ClassId) (cyO72d3f : ClassId) (cyO7b988 : ClassId) (S : wPS) (a b : Nat) : va_up (wPF cyI cyZ cyO8866d cyO72d3f cyO7b988 S) a (.inr (3, [.int 0, .int 0, .null, .null, .int 0, .int 0, .int 0, .int 0, .int 0])) b = wPF cyI cyZ cyO8866d cyO72d3f cyO7b988 { S with L := S.L ++ [a], K := va_up S.K a 3, O_Shard := { f_first := va_up S.O_Shard.f_first a 0, f_last := va_up S.O_Shard.f_last a 0, f_home := va_up S.O_Shard.f_home a none, f_target := va_up S.O_Shard.f_target a none, f_nextToCopy := va_up S.O_Shard.f_nextToCopy a 0, f_mayCopy := va_up S.O_Shard.f_mayCopy a 0, f_copied := va_up S.O_Shard.f_copied a 0, f_bytes := va_up S.O_Shard.f_bytes a 0, f_heat := va_up S.O_Shard.f_heat a 0 } } b := by by_cases hb : b = a <;> first | (simp only [wPF, va_up_ne _ _ hb]; done) | (simp only [wPF, va_up, if_neg hb]; done) | simp [wPF, va_re, va_up, va_rf, hb]
theorem wPn_O_Shard (cyI : ClassId) (cyZ : ClassId) (cyO8866d : ClassId) (cyO72d3f : ClassId) (cyO7b988 : ClassId) (X : va_W) (S : wPS) {a : Nat} (ha : a ∉ S.L) : (X ++ va_pl S.L (wPF cyI cyZ cyO8866d cyO72d3f cyO7b988 S)) ++ [(a, .inr (3, [.int 0, .int 0, .null, .null, .int 0, .int 0, .int 0, .int 0, .int 0]))] = X ++ va_pl (S.L ++ [a]) (wPF cyI cyZ cyO8866d cyO72d3f cyO7b988 { S with L := S.L ++ [a], K := va_up S.K a 3, O_Shard := { f_first := va_up S.O_Shard.f_first a 0, f_last := va_up S.O_Shard.f_last a 0, f_home := va_up S.O_Shard.f_home a none, f_target := va_up S.O_Shard.f_target a none, f_nextToCopy := va_up S.O_Shard.f_nextToCopy a 0, f_mayCopy := va_up S.O_Shard.f_mayCopy a 0, f_copied := va_up S.O_Shard.f_copied a 0, f_bytes := va_up S.O_Shard.f_bytes a 0, f_heat := va_up S.O_Shard.f_heat a 0 } }) := by
  rw [List.append_assoc, va_pl_push ha]
  exact congrArg (fun l => X ++ l) (va_pl_congr (wNw_O_Shard cyI cyZ cyO8866d cyO72d3f cyO7b988 S a))
theorem wAt_O_Tenant (cyI : ClassId) (cyZ : ClassId) (cyO8866d : ClassId) (cyO72d3f : ClassId) (cyO7b988 : ClassId) (S : wPS) {a : Nat} (h : S.K a = 4) : wPF cyI cyZ cyO8866d cyO72d3f cyO7b988 S a = .inr (4, [.int (S.O_Tenant.f_bytes a), .int (S.O_Tenant.f_quota a), .int (S.O_Tenant.f_bill a)]) := by simp [wPF, h]
theorem wGt_O_Tenant (cyI : ClassId) (cyZ : ClassId) (cyO8866d : ClassId) (cyO72d3f : ClassId) (cyO7b988 : ClassId) (X : va_W) (S : wPS) {a : Nat} (hL : a ∈ S.L) (h : S.K a = 4) : ∃ k : Nat, (X ++ va_pl S.L (wPF cyI cyZ cyO8866d cyO72d3f cyO7b988 S))[k]? = some (a, wPF cyI cyZ cyO8866d cyO72d3f cyO7b988 S a) ∧ (X ++ va_pl S.L (wPF cyI cyZ cyO8866d cyO72d3f cyO7b988 S))[k]? = some (a, .inr (4, [.int (S.O_Tenant.f_bytes a), .int (S.O_Tenant.f_quota a), .int (S.O_Tenant.f_bill a)])) := by
  obtain ⟨k, hk⟩ := va_pl_get (X := X) (f := wPF cyI cyZ cyO8866d cyO72d3f cyO7b988 S) hL
  exact ⟨k, hk, hk.trans (congrArg (fun e => some (a, e)) (wAt_O_Tenant cyI cyZ cyO8866d cyO72d3f cyO7b988 S h))⟩
theorem wSt_O_Tenant_f_bytes (cyI : ClassId) (cyZ : ClassId) (cyO8866d : ClassId) (cyO72d3f : ClassId) (cyO7b988 : ClassId) (S : wPS) {a : Nat} (h : S.K a = 4) (v : Int32) (b : Nat) : va_up (wPF cyI cyZ cyO8866d cyO72d3f cyO7b988 S) a (.inr (4, [.int v, .int (S.O_Tenant.f_quota a), .int (S.O_Tenant.f_bill a)])) b = wPF cyI cyZ cyO8866d cyO72d3f cyO7b988 { S with O_Tenant := { S.O_Tenant with f_bytes := va_up S.O_Tenant.f_bytes a v } } b := by by_cases hb : b = a <;> first | (simp only [wPF, va_up_ne _ _ hb]; done) | (simp only [wPF, va_up, if_neg hb]; done) | simp [wPF, va_re, va_up, va_rf, hb, h]
theorem wPu_O_Tenant_f_bytes (cyI : ClassId) (cyZ : ClassId) (cyO8866d : ClassId) (cyO72d3f : ClassId) (cyO7b988 : ClassId) (X : va_W) (S : wPS) {A : Nat → Prop} {a k : Nat} (hD : va_D A (X ++ va_pl S.L (wPF cyI cyZ cyO8866d cyO72d3f cyO7b988 S))) (hL : a ∈ S.L) (h : S.K a = 4) (hk : (X ++ va_pl S.L (wPF cyI cyZ cyO8866d cyO72d3f cyO7b988 S))[k]? = some (a, wPF cyI cyZ cyO8866d cyO72d3f cyO7b988 S a)) (v : Int32) : (X ++ va_pl S.L (wPF cyI cyZ cyO8866d cyO72d3f cyO7b988 S)).set k (a, .inr (4, [.int v, .int (S.O_Tenant.f_quota a), .int (S.O_Tenant.f_bill a)])) = X ++ va_pl S.L (wPF cyI cyZ cyO8866d cyO72d3f cyO7b988 { S with O_Tenant := { S.O_Tenant with f_bytes := va_up S.O_Tenant.f_bytes a v } }) := by
  rw [va_pl_set hD hL hk]
  exact congrArg (fun l => X ++ l) (va_pl_congr (wSt_O_Tenant_f_bytes cyI cyZ cyO8866d cyO72d3f cyO7b988 S h v))
theorem wSt_O_Tenant_f_quota (cyI : ClassId) (cyZ : ClassId) (cyO8866d : ClassId) (cyO72d3f : ClassId) (cyO7b988 : ClassId) (S : wPS) {a : Nat} (h : S.K a = 4) (v : Int32) (b : Nat) : va_up (wPF cyI cyZ cyO8866d cyO72d3f cyO7b988 S) a (.inr (4, [.int (S.O_Tenant.f_bytes a), .int v, .int (S.O_Tenant.f_bill a)])) b = wPF cyI cyZ cyO8866d cyO72d3f cyO7b988 { S with O_Tenant := { S.O_Tenant with f_quota := va_up S.O_Tenant.f_quota a v } } b := by by_cases hb : b = a <;> first | (simp only [wPF, va_up_ne _ _ hb]; done) | (simp only [wPF, va_up, if_neg hb]; done) | simp [wPF, va_re, va_up, va_rf, hb, h]
theorem wPu_O_Tenant_f_quota (cyI : ClassId) (cyZ : ClassId) (cyO8866d : ClassId) (cyO72d3f : ClassId) (cyO7b988 : ClassId) (X : va_W) (S : wPS) {A : Nat → Prop} {a k : Nat} (hD : va_D A (X ++ va_pl S.L (wPF cyI cyZ cyO8866d cyO72d3f cyO7b988 S))) (hL : a ∈ S.L) (h : S.K a = 4) (hk : (X ++ va_pl S.L (wPF cyI cyZ cyO8866d cyO72d3f cyO7b988 S))[k]? = some (a, wPF cyI cyZ cyO8866d cyO72d3f cyO7b988 S a)) (v : Int32) : (X ++ va_pl S.L (wPF cyI cyZ cyO8866d cyO72d3f cyO7b988 S)).set k (a, .inr (4, [.int (S.O_Tenant.f_bytes a), .int v, .int (S.O_Tenant.f_bill a)])) = X ++ va_pl S.L (wPF cyI cyZ cyO8866d cyO72d3f cyO7b988 { S with O_Tenant := { S.O_Tenant with f_quota := va_up S.O_Tenant.f_quota a v } }) := by
  rw [va_pl_set hD hL hk]
  exact congrArg (fun l => X ++ l) (va_pl_congr (wSt_O_Tenant_f_quota cyI cyZ cyO8866d cyO72d3f cyO7b988 S h v))
theorem wSt_O_Tenant_f_bill (cyI : ClassId) (cyZ : ClassId) (cyO8866d : ClassId) (cyO72d3f : ClassId) (cyO7b988 : ClassId) (S : wPS) {a : Nat} (h : S.K a = 4) (v : Int32) (b : Nat) : va_up (wPF cyI cyZ cyO8866d cyO72d3f cyO7b988 S) a (.inr (4, [.int (S.O_Tenant.f_bytes a), .int (S.O_Tenant.f_quota a), .int v])) b = wPF cyI cyZ cyO8866d cyO72d3f cyO7b988 { S with O_Tenant := { S.O_Tenant with f_bill := va_up S.O_Tenant.f_bill a v } } b := by by_cases hb : b = a <;> first | (simp only [wPF, va_up_ne _ _ hb]; done) | (simp only [wPF, va_up, if_neg hb]; done) | simp [wPF, va_re, va_up, va_rf, hb, h]
theorem wPu_O_Tenant_f_bill (cyI : ClassId) (cyZ : ClassId) (cyO8866d : ClassId) (cyO72d3f : ClassId) (cyO7b988 : ClassId) (X : va_W) (S : wPS) {A : Nat → Prop} {a k : Nat} (hD : va_D A (X ++ va_pl S.L (wPF cyI cyZ cyO8866d cyO72d3f cyO7b988 S))) (hL : a ∈ S.L) (h : S.K a = 4) (hk : (X ++ va_pl S.L (wPF cyI cyZ cyO8866d cyO72d3f cyO7b988 S))[k]? = some (a, wPF cyI cyZ cyO8866d cyO72d3f cyO7b988 S a)) (v : Int32) : (X ++ va_pl S.L (wPF cyI cyZ cyO8866d cyO72d3f cyO7b988 S)).set k (a, .inr (4, [.int (S.O_Tenant.f_bytes a), .int (S.O_Tenant.f_quota a), .int v])) = X ++ va_pl S.L (wPF cyI cyZ cyO8866d cyO72d3f cyO7b988 { S with O_Tenant := { S.O_Tenant with f_bill := va_up S.O_Tenant.f_bill a v } }) := by
  rw [va_pl_set hD hL hk]
  exact congrArg (fun l => X ++ l) (va_pl_congr (wSt_O_Tenant_f_bill cyI cyZ cyO8866d cyO72d3f cyO7b988 S h v))
theorem wNw_O_Tenant (cyI : ClassId) (cyZ : ClassId) (cyO8866d : ClassId) (cyO72d3f : ClassId) (cyO7b988 : ClassId) (S : wPS) (a b : Nat) : va_up (wPF cyI cyZ cyO8866d cyO72d3f cyO7b988 S) a (.inr (4, [.int 0, .int 0, .int 0])) b = wPF cyI cyZ cyO8866d cyO72d3f cyO7b988 { S with L := S.L ++ [a], K := va_up S.K a 4, O_Tenant := { f_bytes := va_up S.O_Tenant.f_bytes a 0, f_quota := va_up S.O_Tenant.f_quota a 0, f_bill := va_up S.O_Tenant.f_bill a 0 } } b := by by_cases hb : b = a <;> first | (simp only [wPF, va_up_ne _ _ hb]; done) | (simp only [wPF, va_up, if_neg hb]; done) | simp [wPF, va_re, va_up, va_rf, hb]
theorem wPn_O_Tenant (cyI : ClassId) (cyZ : ClassId) (cyO8866d : ClassId) (cyO72d3f : ClassId) (cyO7b988 : ClassId) (X : va_W) (S : wPS) {a : Nat} (ha : a ∉ S.L) : (X ++ va_pl S.L (wPF cyI cyZ cyO8866d cyO72d3f cyO7b988 S)) ++ [(a, .inr (4, [.int 0, .int 0, .int 0]))] = X ++ va_pl (S.L ++ [a]) (wPF cyI cyZ cyO8866d cyO72d3f cyO7b988 { S with L := S.L ++ [a], K := va_up S.K a 4, O_Tenant := { f_bytes := va_up S.O_Tenant.f_bytes a 0, f_quota := va_up S.O_Tenant.f_quota a 0, f_bill := va_up S.O_Tenant.f_bill a 0 } }) := by
  rw [List.append_assoc, va_pl_push ha]
  exact congrArg (fun l => X ++ l) (va_pl_congr (wNw_O_Tenant cyI cyZ cyO8866d cyO72d3f cyO7b988 S a))
theorem wAt_O_ShardHarbour (cyI : ClassId) (cyZ : ClassId) (cyO8866d : ClassId) (cyO72d3f : ClassId) (cyO7b988 : ClassId) (S : wPS) {a : Nat} (h : S.K a = 5) : wPF cyI cyZ cyO8866d cyO72d3f cyO7b988 S a = .inr (5, [va_rf (S.O_ShardHarbour.f_nowhere a), va_rf (S.O_ShardHarbour.f_bytesAt a), va_rf (S.O_ShardHarbour.f_tenantAt a), va_rf (S.O_ShardHarbour.f_tenants a), va_rf (S.O_ShardHarbour.f_machines a), .int (S.O_ShardHarbour.f_machineCount a), va_rf (S.O_ShardHarbour.f_shards a), .int (S.O_ShardHarbour.f_shardCount a), .int (S.O_ShardHarbour.f_hour a), .int (S.O_ShardHarbour.f_heatLimit a), .int (S.O_ShardHarbour.f_movesDone a), .int (S.O_ShardHarbour.f_movesFailed a), va_rf (S.O_ShardHarbour.f_lastChange a), .int (S.O_ShardHarbour.f_changeCount a), va_rf (S.O_ShardHarbour.f_lastCutOver a)]) := by simp [wPF, h]
theorem wGt_O_ShardHarbour (cyI : ClassId) (cyZ : ClassId) (cyO8866d : ClassId) (cyO72d3f : ClassId) (cyO7b988 : ClassId) (X : va_W) (S : wPS) {a : Nat} (hL : a ∈ S.L) (h : S.K a = 5) : ∃ k : Nat, (X ++ va_pl S.L (wPF cyI cyZ cyO8866d cyO72d3f cyO7b988 S))[k]? = some (a, wPF cyI cyZ cyO8866d cyO72d3f cyO7b988 S a) ∧ (X ++ va_pl S.L (wPF cyI cyZ cyO8866d cyO72d3f cyO7b988 S))[k]? = some (a, .inr (5, [va_rf (S.O_ShardHarbour.f_nowhere a), va_rf (S.O_ShardHarbour.f_bytesAt a), va_rf (S.O_ShardHarbour.f_tenantAt a), va_rf (S.O_ShardHarbour.f_tenants a), va_rf (S.O_ShardHarbour.f_machines a), .int (S.O_ShardHarbour.f_machineCount a), va_rf (S.O_ShardHarbour.f_shards a), .int (S.O_ShardHarbour.f_shardCount a), .int (S.O_ShardHarbour.f_hour a), .int (S.O_ShardHarbour.f_heatLimit a), .int (S.O_ShardHarbour.f_movesDone a), .int (S.O_ShardHarbour.f_movesFailed a), va_rf (S.O_ShardHarbour.f_lastChange a), .int (S.O_ShardHarbour.f_changeCount a), va_rf (S.O_ShardHarbour.f_lastCutOver a)])) := by
  obtain ⟨k, hk⟩ := va_pl_get (X := X) (f := wPF cyI cyZ cyO8866d cyO72d3f cyO7b988 S) hL
  exact ⟨k, hk, hk.trans (congrArg (fun e => some (a, e)) (wAt_O_ShardHarbour cyI cyZ cyO8866d cyO72d3f cyO7b988 S h))⟩
theorem wSt_O_ShardHarbour_f_nowhere (cyI : ClassId) (cyZ : ClassId) (cyO8866d : ClassId) (cyO72d3f : ClassId) (cyO7b988 : ClassId) (S : wPS) {a : Nat} (h : S.K a = 5) (v : Option Nat) (b : Nat) : va_up (wPF cyI cyZ cyO8866d cyO72d3f cyO7b988 S) a (.inr (5, [va_rf v, va_rf (S.O_ShardHarbour.f_bytesAt a), va_rf (S.O_ShardHarbour.f_tenantAt a), va_rf (S.O_ShardHarbour.f_tenants a), va_rf (S.O_ShardHarbour.f_machines a), .int (S.O_ShardHarbour.f_machineCount a), va_rf (S.O_ShardHarbour.f_shards a), .int (S.O_ShardHarbour.f_shardCount a), .int (S.O_ShardHarbour.f_hour a), .int (S.O_ShardHarbour.f_heatLimit a), .int (S.O_ShardHarbour.f_movesDone a), .int (S.O_ShardHarbour.f_movesFailed a), va_rf (S.O_ShardHarbour.f_lastChange a), .int (S.O_ShardHarbour.f_changeCount a), va_rf (S.O_ShardHarbour.f_lastCutOver a)])) b = wPF cyI cyZ cyO8866d cyO72d3f cyO7b988 { S with O_ShardHarbour := { S.O_ShardHarbour with f_nowhere := va_up S.O_ShardHarbour.f_nowhere a v } } b := by by_cases hb : b = a <;> first | (simp only [wPF, va_up_ne _ _ hb]; done) | (simp only [wPF, va_up, if_neg hb]; done) | simp [wPF, va_re, va_up, va_rf, hb, h]
theorem wPu_O_ShardHarbour_f_nowhere (cyI : ClassId) (cyZ : ClassId) (cyO8866d : ClassId) (cyO72d3f : ClassId) (cyO7b988 : ClassId) (X : va_W) (S : wPS) {A : Nat → Prop} {a k : Nat} (hD : va_D A (X ++ va_pl S.L (wPF cyI cyZ cyO8866d cyO72d3f cyO7b988 S))) (hL : a ∈ S.L) (h : S.K a = 5) (hk : (X ++ va_pl S.L (wPF cyI cyZ cyO8866d cyO72d3f cyO7b988 S))[k]? = some (a, wPF cyI cyZ cyO8866d cyO72d3f cyO7b988 S a)) (v : Option Nat) : (X ++ va_pl S.L (wPF cyI cyZ cyO8866d cyO72d3f cyO7b988 S)).set k (a, .inr (5, [va_rf v, va_rf (S.O_ShardHarbour.f_bytesAt a), va_rf (S.O_ShardHarbour.f_tenantAt a), va_rf (S.O_ShardHarbour.f_tenants a), va_rf (S.O_ShardHarbour.f_machines a), .int (S.O_ShardHarbour.f_machineCount a), va_rf (S.O_ShardHarbour.f_shards a), .int (S.O_ShardHarbour.f_shardCount a), .int (S.O_ShardHarbour.f_hour a), .int (S.O_ShardHarbour.f_heatLimit a), .int (S.O_ShardHarbour.f_movesDone a), .int (S.O_ShardHarbour.f_movesFailed a), va_rf (S.O_ShardHarbour.f_lastChange a), .int (S.O_ShardHarbour.f_changeCount a), va_rf (S.O_ShardHarbour.f_lastCutOver a)])) = X ++ va_pl S.L (wPF cyI cyZ cyO8866d cyO72d3f cyO7b988 { S with O_ShardHarbour := { S.O_ShardHarbour with f_nowhere := va_up S.O_ShardHarbour.f_nowhere a v } }) := by
  rw [va_pl_set hD hL hk]
  exact congrArg (fun l => X ++ l) (va_pl_congr (wSt_O_ShardHarbour_f_nowhere cyI cyZ cyO8866d cyO72d3f cyO7b988 S h v))
theorem wSt_O_ShardHarbour_f_bytesAt (cyI : ClassId) (cyZ : ClassId) (cyO8866d : ClassId) (cyO72d3f : ClassId) (cyO7b988 : ClassId) (S : wPS) {a : Nat} (h : S.K a = 5) (v : Option Nat) (b : Nat) : va_up (wPF cyI cyZ cyO8866d cyO72d3f cyO7b988 S) a (.inr (5, [va_rf (S.O_ShardHarbour.f_nowhere a), va_rf v, va_rf (S.O_ShardHarbour.f_tenantAt a), va_rf (S.O_ShardHarbour.f_tenants a), va_rf (S.O_ShardHarbour.f_machines a), .int (S.O_ShardHarbour.f_machineCount a), va_rf (S.O_ShardHarbour.f_shards a), .int (S.O_ShardHarbour.f_shardCount a), .int (S.O_ShardHarbour.f_hour a), .int (S.O_ShardHarbour.f_heatLimit a), .int (S.O_ShardHarbour.f_movesDone a), .int (S.O_ShardHarbour.f_movesFailed a), va_rf (S.O_ShardHarbour.f_lastChange a), .int (S.O_ShardHarbour.f_changeCount a), va_rf (S.O_ShardHarbour.f_lastCutOver a)])) b = wPF cyI cyZ cyO8866d cyO72d3f cyO7b988 { S with O_ShardHarbour := { S.O_ShardHarbour with f_bytesAt := va_up S.O_ShardHarbour.f_bytesAt a v } } b := by by_cases hb : b = a <;> first | (simp only [wPF, va_up_ne _ _ hb]; done) | (simp only [wPF, va_up, if_neg hb]; done) | simp [wPF, va_re, va_up, va_rf, hb, h]
theorem wPu_O_ShardHarbour_f_bytesAt (cyI : ClassId) (cyZ : ClassId) (cyO8866d : ClassId) (cyO72d3f : ClassId) (cyO7b988 : ClassId) (X : va_W) (S : wPS) {A : Nat → Prop} {a k : Nat} (hD : va_D A (X ++ va_pl S.L (wPF cyI cyZ cyO8866d cyO72d3f cyO7b988 S))) (hL : a ∈ S.L) (h : S.K a = 5) (hk : (X ++ va_pl S.L (wPF cyI cyZ cyO8866d cyO72d3f cyO7b988 S))[k]? = some (a, wPF cyI cyZ cyO8866d cyO72d3f cyO7b988 S a)) (v : Option Nat) : (X ++ va_pl S.L (wPF cyI cyZ cyO8866d cyO72d3f cyO7b988 S)).set k (a, .inr (5, [va_rf (S.O_ShardHarbour.f_nowhere a), va_rf v, va_rf (S.O_ShardHarbour.f_tenantAt a), va_rf (S.O_ShardHarbour.f_tenants a), va_rf (S.O_ShardHarbour.f_machines a), .int (S.O_ShardHarbour.f_machineCount a), va_rf (S.O_ShardHarbour.f_shards a), .int (S.O_ShardHarbour.f_shardCount a), .int (S.O_ShardHarbour.f_hour a), .int (S.O_ShardHarbour.f_heatLimit a), .int (S.O_ShardHarbour.f_movesDone a), .int (S.O_ShardHarbour.f_movesFailed a), va_rf (S.O_ShardHarbour.f_lastChange a), .int (S.O_ShardHarbour.f_changeCount a), va_rf (S.O_ShardHarbour.f_lastCutOver a)])) = X ++ va_pl S.L (wPF cyI cyZ cyO8866d cyO72d3f cyO7b988 { S with O_ShardHarbour := { S.O_ShardHarbour with f_bytesAt := va_up S.O_ShardHarbour.f_bytesAt a v } }) := by
  rw [va_pl_set hD hL hk]
  exact congrArg (fun l => X ++ l) (va_pl_congr (wSt_O_ShardHarbour_f_bytesAt cyI cyZ cyO8866d cyO72d3f cyO7b988 S h v))
theorem wSt_O_ShardHarbour_f_tenantAt (cyI : ClassId) (cyZ : ClassId) (cyO8866d : ClassId) (cyO72d3f : ClassId) (cyO7b988 : ClassId) (S : wPS) {a : Nat} (h : S.K a = 5) (v : Option Nat) (b : Nat) : va_up (wPF cyI cyZ cyO8866d cyO72d3f cyO7b988 S) a (.inr (5, [va_rf (S.O_ShardHarbour.f_nowhere a), va_rf (S.O_ShardHarbour.f_bytesAt a), va_rf v, va_rf (S.O_ShardHarbour.f_tenants a), va_rf (S.O_ShardHarbour.f_machines a), .int (S.O_ShardHarbour.f_machineCount a), va_rf (S.O_ShardHarbour.f_shards a), .int (S.O_ShardHarbour.f_shardCount a), .int (S.O_ShardHarbour.f_hour a), .int (S.O_ShardHarbour.f_heatLimit a), .int (S.O_ShardHarbour.f_movesDone a), .int (S.O_ShardHarbour.f_movesFailed a), va_rf (S.O_ShardHarbour.f_lastChange a), .int (S.O_ShardHarbour.f_changeCount a), va_rf (S.O_ShardHarbour.f_lastCutOver a)])) b = wPF cyI cyZ cyO8866d cyO72d3f cyO7b988 { S with O_ShardHarbour := { S.O_ShardHarbour with f_tenantAt := va_up S.O_ShardHarbour.f_tenantAt a v } } b := by by_cases hb : b = a <;> first | (simp only [wPF, va_up_ne _ _ hb]; done) | (simp only [wPF, va_up, if_neg hb]; done) | simp [wPF, va_re, va_up, va_rf, hb, h]
theorem wPu_O_ShardHarbour_f_tenantAt (cyI : ClassId) (cyZ : ClassId) (cyO8866d : ClassId) (cyO72d3f : ClassId) (cyO7b988 : ClassId) (X : va_W) (S : wPS) {A : Nat → Prop} {a k : Nat} (hD : va_D A (X ++ va_pl S.L (wPF cyI cyZ cyO8866d cyO72d3f cyO7b988 S))) (hL : a ∈ S.L) (h : S.K a = 5) (hk : (X ++ va_pl S.L (wPF cyI cyZ cyO8866d cyO72d3f cyO7b988 S))[k]? = some (a, wPF cyI cyZ cyO8866d cyO72d3f cyO7b988 S a)) (v : Option Nat) : (X ++ va_pl S.L (wPF cyI cyZ cyO8866d cyO72d3f cyO7b988 S)).set k (a, .inr (5, [va_rf (S.O_ShardHarbour.f_nowhere a), va_rf (S.O_ShardHarbour.f_bytesAt a), va_rf v, va_rf (S.O_ShardHarbour.f_tenants a), va_rf (S.O_ShardHarbour.f_machines a), .int (S.O_ShardHarbour.f_machineCount a), va_rf (S.O_ShardHarbour.f_shards a), .int (S.O_ShardHarbour.f_shardCount a), .int (S.O_ShardHarbour.f_hour a), .int (S.O_ShardHarbour.f_heatLimit a), .int (S.O_ShardHarbour.f_movesDone a), .int (S.O_ShardHarbour.f_movesFailed a), va_rf (S.O_ShardHarbour.f_lastChange a), .int (S.O_ShardHarbour.f_changeCount a), va_rf (S.O_ShardHarbour.f_lastCutOver a)])) = X ++ va_pl S.L (wPF cyI cyZ cyO8866d cyO72d3f cyO7b988 { S with O_ShardHarbour := { S.O_ShardHarbour with f_tenantAt := va_up S.O_ShardHarbour.f_tenantAt a v } }) := by
  rw [va_pl_set hD hL hk]
  exact congrArg (fun l => X ++ l) (va_pl_congr (wSt_O_ShardHarbour_f_tenantAt cyI cyZ cyO8866d cyO72d3f cyO7b988 S h v))
theorem wSt_O_ShardHarbour_f_tenants (cyI : ClassId) (cyZ : ClassId) (cyO8866d : ClassId) (cyO72d3f : ClassId) (cyO7b988 : ClassId) (S : wPS) {a : Nat} (h : S.K a = 5) (v : Option Nat) (b : Nat) : va_up (wPF cyI cyZ cyO8866d cyO72d3f cyO7b988 S) a (.inr (5, [va_rf (S.O_ShardHarbour.f_nowhere a), va_rf (S.O_ShardHarbour.f_bytesAt a), va_rf (S.O_ShardHarbour.f_tenantAt a), va_rf v, va_rf (S.O_ShardHarbour.f_machines a), .int (S.O_ShardHarbour.f_machineCount a), va_rf (S.O_ShardHarbour.f_shards a), .int (S.O_ShardHarbour.f_shardCount a), .int (S.O_ShardHarbour.f_hour a), .int (S.O_ShardHarbour.f_heatLimit a), .int (S.O_ShardHarbour.f_movesDone a), .int (S.O_ShardHarbour.f_movesFailed a), va_rf (S.O_ShardHarbour.f_lastChange a), .int (S.O_ShardHarbour.f_changeCount a), va_rf (S.O_ShardHarbour.f_lastCutOver a)])) b = wPF cyI cyZ cyO8866d cyO72d3f cyO7b988 { S with O_ShardHarbour := { S.O_ShardHarbour with f_tenants := va_up S.O_ShardHarbour.f_tenants a v } } b := by by_cases hb : b = a <;> first | (simp only [wPF, va_up_ne _ _ hb]; done) | (simp only [wPF, va_up, if_neg hb]; done) | simp [wPF, va_re, va_up, va_rf, hb, h]
theorem wPu_O_ShardHarbour_f_tenants (cyI : ClassId) (cyZ : ClassId) (cyO8866d : ClassId) (cyO72d3f : ClassId) (cyO7b988 : ClassId) (X : va_W) (S : wPS) {A : Nat → Prop} {a k : Nat} (hD : va_D A (X ++ va_pl S.L (wPF cyI cyZ cyO8866d cyO72d3f cyO7b988 S))) (hL : a ∈ S.L) (h : S.K a = 5) (hk : (X ++ va_pl S.L (wPF cyI cyZ cyO8866d cyO72d3f cyO7b988 S))[k]? = some (a, wPF cyI cyZ cyO8866d cyO72d3f cyO7b988 S a)) (v : Option Nat) : (X ++ va_pl S.L (wPF cyI cyZ cyO8866d cyO72d3f cyO7b988 S)).set k (a, .inr (5, [va_rf (S.O_ShardHarbour.f_nowhere a), va_rf (S.O_ShardHarbour.f_bytesAt a), va_rf (S.O_ShardHarbour.f_tenantAt a), va_rf v, va_rf (S.O_ShardHarbour.f_machines a), .int (S.O_ShardHarbour.f_machineCount a), va_rf (S.O_ShardHarbour.f_shards a), .int (S.O_ShardHarbour.f_shardCount a), .int (S.O_ShardHarbour.f_hour a), .int (S.O_ShardHarbour.f_heatLimit a), .int (S.O_ShardHarbour.f_movesDone a), .int (S.O_ShardHarbour.f_movesFailed a), va_rf (S.O_ShardHarbour.f_lastChange a), .int (S.O_ShardHarbour.f_changeCount a), va_rf (S.O_ShardHarbour.f_lastCutOver a)])) = X ++ va_pl S.L (wPF cyI cyZ cyO8866d cyO72d3f cyO7b988 { S with O_ShardHarbour := { S.O_ShardHarbour with f_tenants := va_up S.O_ShardHarbour.f_tenants a v } }) := by
  rw [va_pl_set hD hL hk]
  exact congrArg (fun l => X ++ l) (va_pl_congr (wSt_O_ShardHarbour_f_tenants cyI cyZ cyO8866d cyO72d3f cyO7b988 S h v))
theorem wSt_O_ShardHarbour_f_machines (cyI : ClassId) (cyZ : ClassId) (cyO8866d : ClassId) (cyO72d3f : ClassId) (cyO7b988 : ClassId) (S : wPS) {a : Nat} (h : S.K a = 5) (v : Option Nat) (b : Nat) : va_up (wPF cyI cyZ cyO8866d cyO72d3f cyO7b988 S) a (.inr (5, [va_rf (S.O_ShardHarbour.f_nowhere a), va_rf (S.O_ShardHarbour.f_bytesAt a), va_rf (S.O_ShardHarbour.f_tenantAt a), va_rf (S.O_ShardHarbour.f_tenants a), va_rf v, .int (S.O_ShardHarbour.f_machineCount a), va_rf (S.O_ShardHarbour.f_shards a), .int (S.O_ShardHarbour.f_shardCount a), .int (S.O_ShardHarbour.f_hour a), .int (S.O_ShardHarbour.f_heatLimit a), .int (S.O_ShardHarbour.f_movesDone a), .int (S.O_ShardHarbour.f_movesFailed a), va_rf (S.O_ShardHarbour.f_lastChange a), .int (S.O_ShardHarbour.f_changeCount a), va_rf (S.O_ShardHarbour.f_lastCutOver a)])) b = wPF cyI cyZ cyO8866d cyO72d3f cyO7b988 { S with O_ShardHarbour := { S.O_ShardHarbour with f_machines := va_up S.O_ShardHarbour.f_machines a v } } b := by by_cases hb : b = a <;> first | (simp only [wPF, va_up_ne _ _ hb]; done) | (simp only [wPF, va_up, if_neg hb]; done) | simp [wPF, va_re, va_up, va_rf, hb, h]
theorem wPu_O_ShardHarbour_f_machines (cyI : ClassId) (cyZ : ClassId) (cyO8866d : ClassId) (cyO72d3f : ClassId) (cyO7b988 : ClassId) (X : va_W) (S : wPS) {A : Nat → Prop} {a k : Nat} (hD : va_D A (X ++ va_pl S.L (wPF cyI cyZ cyO8866d cyO72d3f cyO7b988 S))) (hL : a ∈ S.L) (h : S.K a = 5) (hk : (X ++ va_pl S.L (wPF cyI cyZ cyO8866d cyO72d3f cyO7b988 S))[k]? = some (a, wPF cyI cyZ cyO8866d cyO72d3f cyO7b988 S a)) (v : Option Nat) : (X ++ va_pl S.L (wPF cyI cyZ cyO8866d cyO72d3f cyO7b988 S)).set k (a, .inr (5, [va_rf (S.O_ShardHarbour.f_nowhere a), va_rf (S.O_ShardHarbour.f_bytesAt a), va_rf (S.O_ShardHarbour.f_tenantAt a), va_rf (S.O_ShardHarbour.f_tenants a), va_rf v, .int (S.O_ShardHarbour.f_machineCount a), va_rf (S.O_ShardHarbour.f_shards a), .int (S.O_ShardHarbour.f_shardCount a), .int (S.O_ShardHarbour.f_hour a), .int (S.O_ShardHarbour.f_heatLimit a), .int (S.O_ShardHarbour.f_movesDone a), .int (S.O_ShardHarbour.f_movesFailed a), va_rf (S.O_ShardHarbour.f_lastChange a), .int (S.O_ShardHarbour.f_changeCount a), va_rf (S.O_ShardHarbour.f_lastCutOver a)])) = X ++ va_pl S.L (wPF cyI cyZ cyO8866d cyO72d3f cyO7b988 { S with O_ShardHarbour := { S.O_ShardHarbour with f_machines := va_up S.O_ShardHarbour.f_machines a v } }) := by
  rw [va_pl_set hD hL hk]
  exact congrArg (fun l => X ++ l) (va_pl_congr (wSt_O_ShardHarbour_f_machines cyI cyZ cyO8866d cyO72d3f cyO7b988 S h v))
theorem wSt_O_ShardHarbour_f_machineCount (cyI : ClassId) (cyZ : ClassId) (cyO8866d : ClassId) (cyO72d3f : ClassId) (cyO7b988 : ClassId) (S : wPS) {a : Nat} (h : S.K a = 5) (v : Int32) (b : Nat) : va_up (wPF cyI cyZ cyO8866d cyO72d3f cyO7b988 S) a (.inr (5, [va_rf (S.O_ShardHarbour.f_nowhere a), va_rf (S.O_ShardHarbour.f_bytesAt a), va_rf (S.O_ShardHarbour.f_tenantAt a), va_rf (S.O_ShardHarbour.f_tenants a), va_rf (S.O_ShardHarbour.f_machines a), .int v, va_rf (S.O_ShardHarbour.f_shards a), .int (S.O_ShardHarbour.f_shardCount a), .int (S.O_ShardHarbour.f_hour a), .int (S.O_ShardHarbour.f_heatLimit a), .int (S.O_ShardHarbour.f_movesDone a), .int (S.O_ShardHarbour.f_movesFailed a), va_rf (S.O_ShardHarbour.f_lastChange a), .int (S.O_ShardHarbour.f_changeCount a), va_rf (S.O_ShardHarbour.f_lastCutOver a)])) b = wPF cyI cyZ cyO8866d cyO72d3f cyO7b988 { S with O_ShardHarbour := { S.O_ShardHarbour with f_machineCount := va_up S.O_ShardHarbour.f_machineCount a v } } b := by by_cases hb : b = a <;> first | (simp only [wPF, va_up_ne _ _ hb]; done) | (simp only [wPF, va_up, if_neg hb]; done) | simp [wPF, va_re, va_up, va_rf, hb, h]
theorem wPu_O_ShardHarbour_f_machineCount (cyI : ClassId) (cyZ : ClassId) (cyO8866d : ClassId) (cyO72d3f : ClassId) (cyO7b988 : ClassId) (X : va_W) (S : wPS) {A : Nat → Prop} {a k : Nat} (hD : va_D A (X ++ va_pl S.L (wPF cyI cyZ cyO8866d cyO72d3f cyO7b988 S))) (hL : a ∈ S.L) (h : S.K a = 5) (hk : (X ++ va_pl S.L (wPF cyI cyZ cyO8866d cyO72d3f cyO7b988 S))[k]? = some (a, wPF cyI cyZ cyO8866d cyO72d3f cyO7b988 S a)) (v : Int32) : (X ++ va_pl S.L (wPF cyI cyZ cyO8866d cyO72d3f cyO7b988 S)).set k (a, .inr (5, [va_rf (S.O_ShardHarbour.f_nowhere a), va_rf (S.O_ShardHarbour.f_bytesAt a), va_rf (S.O_ShardHarbour.f_tenantAt a), va_rf (S.O_ShardHarbour.f_tenants a), va_rf (S.O_ShardHarbour.f_machines a), .int v, va_rf (S.O_ShardHarbour.f_shards a), .int (S.O_ShardHarbour.f_shardCount a), .int (S.O_ShardHarbour.f_hour a), .int (S.O_ShardHarbour.f_heatLimit a), .int (S.O_ShardHarbour.f_movesDone a), .int (S.O_ShardHarbour.f_movesFailed a), va_rf (S.O_ShardHarbour.f_lastChange a), .int (S.O_ShardHarbour.f_changeCount a), va_rf (S.O_ShardHarbour.f_lastCutOver a)])) = X ++ va_pl S.L (wPF cyI cyZ cyO8866d cyO72d3f cyO7b988 { S with O_ShardHarbour := { S.O_ShardHarbour with f_machineCount := va_up S.O_ShardHarbour.f_machineCount a v } }) := by
  rw [va_pl_set hD hL hk]
  exact congrArg (fun l => X ++ l) (va_pl_congr (wSt_O_ShardHarbour_f_machineCount cyI cyZ cyO8866d cyO72d3f cyO7b988 S h v))
theorem wSt_O_ShardHarbour_f_shards (cyI : ClassId) (cyZ : ClassId) (cyO8866d : ClassId) (cyO72d3f : ClassId) (cyO7b988 : ClassId) (S : wPS) {a : Nat} (h : S.K a = 5) (v : Option Nat) (b : Nat) : va_up (wPF cyI cyZ cyO8866d cyO72d3f cyO7b988 S) a (.inr (5, [va_rf (S.O_ShardHarbour.f_nowhere a), va_rf (S.O_ShardHarbour.f_bytesAt a), va_rf (S.O_ShardHarbour.f_tenantAt a), va_rf (S.O_ShardHarbour.f_tenants a), va_rf (S.O_ShardHarbour.f_machines a), .int (S.O_ShardHarbour.f_machineCount a), va_rf v, .int (S.O_ShardHarbour.f_shardCount a), .int (S.O_ShardHarbour.f_hour a), .int (S.O_ShardHarbour.f_heatLimit a), .int (S.O_ShardHarbour.f_movesDone a), .int (S.O_ShardHarbour.f_movesFailed a), va_rf (S.O_ShardHarbour.f_lastChange a), .int (S.O_ShardHarbour.f_changeCount a), va_rf (S.O_ShardHarbour.f_lastCutOver a)])) b = wPF cyI cyZ cyO8866d cyO72d3f cyO7b988 { S with O_ShardHarbour := { S.O_ShardHarbour with f_shards := va_up S.O_ShardHarbour.f_shards a v } } b := by by_cases hb : b = a <;> first | (simp only [wPF, va_up_ne _ _ hb]; done) | (simp only [wPF, va_up, if_neg hb]; done) | simp [wPF, va_re, va_up, va_rf, hb, h]
theorem wPu_O_ShardHarbour_f_shards (cyI : ClassId) (cyZ : ClassId) (cyO8866d : ClassId) (cyO72d3f : ClassId) (cyO7b988 : ClassId) (X : va_W) (S : wPS) {A : Nat → Prop} {a k : Nat} (hD : va_D A (X ++ va_pl S.L (wPF cyI cyZ cyO8866d cyO72d3f cyO7b988 S))) (hL : a ∈ S.L) (h : S.K a = 5) (hk : (X ++ va_pl S.L (wPF cyI cyZ cyO8866d cyO72d3f cyO7b988 S))[k]? = some (a, wPF cyI cyZ cyO8866d cyO72d3f cyO7b988 S a)) (v : Option Nat) : (X ++ va_pl S.L (wPF cyI cyZ cyO8866d cyO72d3f cyO7b988 S)).set k (a, .inr (5, [va_rf (S.O_ShardHarbour.f_nowhere a), va_rf (S.O_ShardHarbour.f_bytesAt a), va_rf (S.O_ShardHarbour.f_tenantAt a), va_rf (S.O_ShardHarbour.f_tenants a), va_rf (S.O_ShardHarbour.f_machines a), .int (S.O_ShardHarbour.f_machineCount a), va_rf v, .int (S.O_ShardHarbour.f_shardCount a), .int (S.O_ShardHarbour.f_hour a), .int (S.O_ShardHarbour.f_heatLimit a), .int (S.O_ShardHarbour.f_movesDone a), .int (S.O_ShardHarbour.f_movesFailed a), va_rf (S.O_ShardHarbour.f_lastChange a), .int (S.O_ShardHarbour.f_changeCount a), va_rf (S.O_ShardHarbour.f_lastCutOver a)])) = X ++ va_pl S.L (wPF cyI cyZ cyO8866d cyO72d3f cyO7b988 { S with O_ShardHarbour := { S.O_ShardHarbour with f_shards := va_up S.O_ShardHarbour.f_shards a v } }) := by
  rw [va_pl_set hD hL hk]
  exact congrArg (fun l => X ++ l) (va_pl_congr (wSt_O_ShardHarbour_f_shards cyI cyZ cyO8866d cyO72d3f cyO7b988 S h v))
theorem wSt_O_ShardHarbour_f_shardCount (cyI : ClassId) (cyZ : ClassId) (cyO8866d : ClassId) (cyO72d3f : ClassId) (cyO7b988 : ClassId) (S : wPS) {a : Nat} (h : S.K a = 5) (v : Int32) (b : Nat) : va_up (wPF cyI cyZ cyO8866d cyO72d3f cyO7b988 S) a (.inr (5, [va_rf (S.O_ShardHarbour.f_nowhere a), va_rf (S.O_ShardHarbour.f_bytesAt a), va_rf (S.O_ShardHarbour.f_tenantAt a), va_rf (S.O_ShardHarbour.f_tenants a), va_rf (S.O_ShardHarbour.f_machines a), .int (S.O_ShardHarbour.f_machineCount a), va_rf (S.O_ShardHarbour.f_shards a), .int v, .int (S.O_ShardHarbour.f_hour a), .int (S.O_ShardHarbour.f_heatLimit a), .int (S.O_ShardHarbour.f_movesDone a), .int (S.O_ShardHarbour.f_movesFailed a), va_rf (S.O_ShardHarbour.f_lastChange a), .int (S.O_ShardHarbour.f_changeCount a), va_rf (S.O_ShardHarbour.f_lastCutOver a)])) b = wPF cyI cyZ cyO8866d cyO72d3f cyO7b988 { S with O_ShardHarbour := { S.O_ShardHarbour with f_shardCount := va_up S.O_ShardHarbour.f_shardCount a v } } b := by by_cases hb : b = a <;> first | (simp only [wPF, va_up_ne _ _ hb]; done) | (simp only [wPF, va_up, if_neg hb]; done) | simp [wPF, va_re, va_up, va_rf, hb, h]
theorem wPu_O_ShardHarbour_f_shardCount (cyI : ClassId) (cyZ : ClassId) (cyO8866d : ClassId) (cyO72d3f : ClassId) (cyO7b988 : ClassId) (X : va_W) (S : wPS) {A : Nat → Prop} {a k : Nat} (hD : va_D A (X ++ va_pl S.L (wPF cyI cyZ cyO8866d cyO72d3f cyO7b988 S))) (hL : a ∈ S.L) (h : S.K a = 5) (hk : (X ++ va_pl S.L (wPF cyI cyZ cyO8866d cyO72d3f cyO7b988 S))[k]? = some (a, wPF cyI cyZ cyO8866d cyO72d3f cyO7b988 S a)) (v : Int32) : (X ++ va_pl S.L (wPF cyI cyZ cyO8866d cyO72d3f cyO7b988 S)).set k (a, .inr (5, [va_rf (S.O_ShardHarbour.f_nowhere a), va_rf (S.O_ShardHarbour.f_bytesAt a), va_rf (S.O_ShardHarbour.f_tenantAt a), va_rf (S.O_ShardHarbour.f_tenants a), va_rf (S.O_ShardHarbour.f_machines a), .int (S.O_ShardHarbour.f_machineCount a), va_rf (S.O_ShardHarbour.f_shards a), .int v, .int (S.O_ShardHarbour.f_hour a), .int (S.O_ShardHarbour.f_heatLimit a), .int (S.O_ShardHarbour.f_movesDone a), .int (S.O_ShardHarbour.f_movesFailed a), va_rf (S.O_ShardHarbour.f_lastChange a), .int (S.O_ShardHarbour.f_changeCount a), va_rf (S.O_ShardHarbour.f_lastCutOver a)])) = X ++ va_pl S.L (wPF cyI cyZ cyO8866d cyO72d3f cyO7b988 { S with O_ShardHarbour := { S.O_ShardHarbour with f_shardCount := va_up S.O_ShardHarbour.f_shardCount a v } }) := by
  rw [va_pl_set hD hL hk]
  exact congrArg (fun l => X ++ l) (va_pl_congr (wSt_O_ShardHarbour_f_shardCount cyI cyZ cyO8866d cyO72d3f cyO7b988 S h v))
theorem wSt_O_ShardHarbour_f_hour (cyI : ClassId) (cyZ : ClassId) (cyO8866d : ClassId) (cyO72d3f : ClassId) (cyO7b988 : ClassId) (S : wPS) {a : Nat} (h : S.K a = 5) (v : Int32) (b : Nat) : va_up (wPF cyI cyZ cyO8866d cyO72d3f cyO7b988 S) a (.inr (5, [va_rf (S.O_ShardHarbour.f_nowhere a), va_rf (S.O_ShardHarbour.f_bytesAt a), va_rf (S.O_ShardHarbour.f_tenantAt a), va_rf (S.O_ShardHarbour.f_tenants a), va_rf (S.O_ShardHarbour.f_machines a), .int (S.O_ShardHarbour.f_machineCount a), va_rf (S.O_ShardHarbour.f_shards a), .int (S.O_ShardHarbour.f_shardCount a), .int v, .int (S.O_ShardHarbour.f_heatLimit a), .int (S.O_ShardHarbour.f_movesDone a), .int (S.O_ShardHarbour.f_movesFailed a), va_rf (S.O_ShardHarbour.f_lastChange a), .int (S.O_ShardHarbour.f_changeCount a), va_rf (S.O_ShardHarbour.f_lastCutOver a)])) b = wPF cyI cyZ cyO8866d cyO72d3f cyO7b988 { S with O_ShardHarbour := { S.O_ShardHarbour with f_hour := va_up S.O_ShardHarbour.f_hour a v } } b := by by_cases hb : b = a <;> first | (simp only [wPF, va_up_ne _ _ hb]; done) | (simp only [wPF, va_up, if_neg hb]; done) | simp [wPF, va_re, va_up, va_rf, hb, h]
theorem wPu_O_ShardHarbour_f_hour (cyI : ClassId) (cyZ : ClassId) (cyO8866d : ClassId) (cyO72d3f : ClassId) (cyO7b988 : ClassId) (X : va_W) (S : wPS) {A : Nat → Prop} {a k : Nat} (hD : va_D A (X ++ va_pl S.L (wPF cyI cyZ cyO8866d cyO72d3f cyO7b988 S))) (hL : a ∈ S.L) (h : S.K a = 5) (hk : (X ++ va_pl S.L (wPF cyI cyZ cyO8866d cyO72d3f cyO7b988 S))[k]? = some (a, wPF cyI cyZ cyO8866d cyO72d3f cyO7b988 S a)) (v : Int32) : (X ++ va_pl S.L (wPF cyI cyZ cyO8866d cyO72d3f cyO7b988 S)).set k (a, .inr (5, [va_rf (S.O_ShardHarbour.f_nowhere a), va_rf (S.O_ShardHarbour.f_bytesAt a), va_rf (S.O_ShardHarbour.f_tenantAt a), va_rf (S.O_ShardHarbour.f_tenants a), va_rf (S.O_ShardHarbour.f_machines a), .int (S.O_ShardHarbour.f_machineCount a), va_rf (S.O_ShardHarbour.f_shards a), .int (S.O_ShardHarbour.f_shardCount a), .int v, .int (S.O_ShardHarbour.f_heatLimit a), .int (S.O_ShardHarbour.f_movesDone a), .int (S.O_ShardHarbour.f_movesFailed a), va_rf (S.O_ShardHarbour.f_lastChange a), .int (S.O_ShardHarbour.f_changeCount a), va_rf (S.O_ShardHarbour.f_lastCutOver a)])) = X ++ va_pl S.L (wPF cyI cyZ cyO8866d cyO72d3f cyO7b988 { S with O_ShardHarbour := { S.O_ShardHarbour with f_hour := va_up S.O_ShardHarbour.f_hour a v } }) := by
  rw [va_pl_set hD hL hk]
  exact congrArg (fun l => X ++ l) (va_pl_congr (wSt_O_ShardHarbour_f_hour cyI cyZ cyO8866d cyO72d3f cyO7b988 S h v))
theorem wSt_O_ShardHarbour_f_heatLimit (cyI : ClassId) (cyZ : ClassId) (cyO8866d : ClassId) (cyO72d3f : ClassId) (cyO7b988 : ClassId) (S : wPS) {a : Nat} (h : S.K a = 5) (v : Int32) (b : Nat) : va_up (wPF cyI cyZ cyO8866d cyO72d3f cyO7b988 S) a (.inr (5, [va_rf (S.O_ShardHarbour.f_nowhere a), va_rf (S.O_ShardHarbour.f_bytesAt a), va_rf (S.O_ShardHarbour.f_tenantAt a), va_rf (S.O_ShardHarbour.f_tenants a), va_rf (S.O_ShardHarbour.f_machines a), .int (S.O_ShardHarbour.f_machineCount a), va_rf (S.O_ShardHarbour.f_shards a), .int (S.O_ShardHarbour.f_shardCount a), .int (S.O_ShardHarbour.f_hour a), .int v, .int (S.O_ShardHarbour.f_movesDone a), .int (S.O_ShardHarbour.f_movesFailed a), va_rf (S.O_ShardHarbour.f_lastChange a), .int (S.O_ShardHarbour.f_changeCount a), va_rf (S.O_ShardHarbour.f_lastCutOver a)])) b = wPF cyI cyZ cyO8866d cyO72d3f cyO7b988 { S with O_ShardHarbour := { S.O_ShardHarbour with f_heatLimit := va_up S.O_ShardHarbour.f_heatLimit a v } } b := by by_cases hb : b = a <;> first | (simp only [wPF, va_up_ne _ _ hb]; done) | (simp only [wPF, va_up, if_neg hb]; done) | simp [wPF, va_re, va_up, va_rf, hb, h]
theorem wPu_O_ShardHarbour_f_heatLimit (cyI : ClassId) (cyZ : ClassId) (cyO8866d : ClassId) (cyO72d3f : ClassId) (cyO7b988 : ClassId) (X : va_W) (S : wPS) {A : Nat → Prop} {a k : Nat} (hD : va_D A (X ++ va_pl S.L (wPF cyI cyZ cyO8866d cyO72d3f cyO7b988 S))) (hL : a ∈ S.L) (h : S.K a = 5) (hk : (X ++ va_pl S.L (wPF cyI cyZ cyO8866d cyO72d3f cyO7b988 S))[k]? = some (a, wPF cyI cyZ cyO8866d cyO72d3f cyO7b988 S a)) (v : Int32) : (X ++ va_pl S.L (wPF cyI cyZ cyO8866d cyO72d3f cyO7b988 S)).set k (a, .inr (5, [va_rf (S.O_ShardHarbour.f_nowhere a), va_rf (S.O_ShardHarbour.f_bytesAt a), va_rf (S.O_ShardHarbour.f_tenantAt a), va_rf (S.O_ShardHarbour.f_tenants a), va_rf (S.O_ShardHarbour.f_machines a), .int (S.O_ShardHarbour.f_machineCount a), va_rf (S.O_ShardHarbour.f_shards a), .int (S.O_ShardHarbour.f_shardCount a), .int (S.O_ShardHarbour.f_hour a), .int v, .int (S.O_ShardHarbour.f_movesDone a), .int (S.O_ShardHarbour.f_movesFailed a), va_rf (S.O_ShardHarbour.f_lastChange a), .int (S.O_ShardHarbour.f_changeCount a), va_rf (S.O_ShardHarbour.f_lastCutOver a)])) = X ++ va_pl S.L (wPF cyI cyZ cyO8866d cyO72d3f cyO7b988 { S with O_ShardHarbour := { S.O_ShardHarbour with f_heatLimit := va_up S.O_ShardHarbour.f_heatLimit a v } }) := by
  rw [va_pl_set hD hL hk]
  exact congrArg (fun l => X ++ l) (va_pl_congr (wSt_O_ShardHarbour_f_heatLimit cyI cyZ cyO8866d cyO72d3f cyO7b988 S h v))
theorem wSt_O_ShardHarbour_f_movesDone (cyI : ClassId) (cyZ : ClassId) (cyO8866d : ClassId) (cyO72d3f : ClassId) (cyO7b988 : ClassId) (S : wPS) {a : Nat} (h : S.K a = 5) (v : Int32) (b : Nat) : va_up (wPF cyI cyZ cyO8866d cyO72d3f cyO7b988 S) a (.inr (5, [va_rf (S.O_ShardHarbour.f_nowhere a), va_rf (S.O_ShardHarbour.f_bytesAt a), va_rf (S.O_ShardHarbour.f_tenantAt a), va_rf (S.O_ShardHarbour.f_tenants a), va_rf (S.O_ShardHarbour.f_machines a), .int (S.O_ShardHarbour.f_machineCount a), va_rf (S.O_ShardHarbour.f_shards a), .int (S.O_ShardHarbour.f_shardCount a), .int (S.O_ShardHarbour.f_hour a), .int (S.O_ShardHarbour.f_heatLimit a), .int v, .int (S.O_ShardHarbour.f_movesFailed a), va_rf (S.O_ShardHarbour.f_lastChange a), .int (S.O_ShardHarbour.f_changeCount a), va_rf (S.O_ShardHarbour.f_lastCutOver a)])) b = wPF cyI cyZ cyO8866d cyO72d3f cyO7b988 { S with O_ShardHarbour := { S.O_ShardHarbour with f_movesDone := va_up S.O_ShardHarbour.f_movesDone a v } } b := by by_cases hb : b = a <;> first | (simp only [wPF, va_up_ne _ _ hb]; done) | (simp only [wPF, va_up, if_neg hb]; done) | simp [wPF, va_re, va_up, va_rf, hb, h]
theorem wPu_O_ShardHarbour_f_movesDone (cyI : ClassId) (cyZ : ClassId) (cyO8866d : ClassId) (cyO72d3f : ClassId) (cyO7b988 : ClassId) (X : va_W) (S : wPS) {A : Nat → Prop} {a k : Nat} (hD : va_D A (X ++ va_pl S.L (wPF cyI cyZ cyO8866d cyO72d3f cyO7b988 S))) (hL : a ∈ S.L) (h : S.K a = 5) (hk : (X ++ va_pl S.L (wPF cyI cyZ cyO8866d cyO72d3f cyO7b988 S))[k]? = some (a, wPF cyI cyZ cyO8866d cyO72d3f cyO7b988 S a)) (v : Int32) : (X ++ va_pl S.L (wPF cyI cyZ cyO8866d cyO72d3f cyO7b988 S)).set k (a, .inr (5, [va_rf (S.O_ShardHarbour.f_nowhere a), va_rf (S.O_ShardHarbour.f_bytesAt a), va_rf (S.O_ShardHarbour.f_tenantAt a), va_rf (S.O_ShardHarbour.f_tenants a), va_rf (S.O_ShardHarbour.f_machines a), .int (S.O_ShardHarbour.f_machineCount a), va_rf (S.O_ShardHarbour.f_shards a), .int (S.O_ShardHarbour.f_shardCount a), .int (S.O_ShardHarbour.f_hour a), .int (S.O_ShardHarbour.f_heatLimit a), .int v, .int (S.O_ShardHarbour.f_movesFailed a), va_rf (S.O_ShardHarbour.f_lastChange a), .int (S.O_ShardHarbour.f_changeCount a), va_rf (S.O_ShardHarbour.f_lastCutOver a)])) = X ++ va_pl S.L (wPF cyI cyZ cyO8866d cyO72d3f cyO7b988 { S with O_ShardHarbour := { S.O_ShardHarbour with f_movesDone := va_up S.O_ShardHarbour.f_movesDone a v } }) := by
  rw [va_pl_set hD hL hk]
  exact congrArg (fun l => X ++ l) (va_pl_congr (wSt_O_ShardHarbour_f_movesDone cyI cyZ cyO8866d cyO72d3f cyO7b988 S h v))
theorem wSt_O_ShardHarbour_f_movesFailed (cyI : ClassId) (cyZ : ClassId) (cyO8866d : ClassId) (cyO72d3f : ClassId) (cyO7b988 : ClassId) (S : wPS) {a : Nat} (h : S.K a = 5) (v : Int32) (b : Nat) : va_up (wPF cyI cyZ cyO8866d cyO72d3f cyO7b988 S) a (.inr (5, [va_rf (S.O_ShardHarbour.f_nowhere a), va_rf (S.O_ShardHarbour.f_bytesAt a), va_rf (S.O_ShardHarbour.f_tenantAt a), va_rf (S.O_ShardHarbour.f_tenants a), va_rf (S.O_ShardHarbour.f_machines a), .int (S.O_ShardHarbour.f_machineCount a), va_rf (S.O_ShardHarbour.f_shards a), .int (S.O_ShardHarbour.f_shardCount a), .int (S.O_ShardHarbour.f_hour a), .int (S.O_ShardHarbour.f_heatLimit a), .int (S.O_ShardHarbour.f_movesDone a), .int v, va_rf (S.O_ShardHarbour.f_lastChange a), .int (S.O_ShardHarbour.f_changeCount a), va_rf (S.O_ShardHarbour.f_lastCutOver a)])) b = wPF cyI cyZ cyO8866d cyO72d3f cyO7b988 { S with O_ShardHarbour := { S.O_ShardHarbour with f_movesFailed := va_up S.O_ShardHarbour.f_movesFailed a v } } b := by by_cases hb : b = a <;> first | (simp only [wPF, va_up_ne _ _ hb]; done) | (simp only [wPF, va_up, if_neg hb]; done) | simp [wPF, va_re, va_up, va_rf, hb, h]
theorem wPu_O_ShardHarbour_f_movesFailed (cyI : ClassId) (cyZ : ClassId) (cyO8866d : ClassId) (cyO72d3f : ClassId) (cyO7b988 : ClassId) (X : va_W) (S : wPS) {A : Nat → Prop} {a k : Nat} (hD : va_D A (X ++ va_pl S.L (wPF cyI cyZ cyO8866d cyO72d3f cyO7b988 S))) (hL : a ∈ S.L) (h : S.K a = 5) (hk : (X ++ va_pl S.L (wPF cyI cyZ cyO8866d cyO72d3f cyO7b988 S))[k]? = some (a, wPF cyI cyZ cyO8866d cyO72d3f cyO7b988 S a)) (v : Int32) : (X ++ va_pl S.L (wPF cyI cyZ cyO8866d cyO72d3f cyO7b988 S)).set k (a, .inr (5, [va_rf (S.O_ShardHarbour.f_nowhere a), va_rf (S.O_ShardHarbour.f_bytesAt a), va_rf (S.O_ShardHarbour.f_tenantAt a), va_rf (S.O_ShardHarbour.f_tenants a), va_rf (S.O_ShardHarbour.f_machines a), .int (S.O_ShardHarbour.f_machineCount a), va_rf (S.O_ShardHarbour.f_shards a), .int (S.O_ShardHarbour.f_shardCount a), .int (S.O_ShardHarbour.f_hour a), .int (S.O_ShardHarbour.f_heatLimit a), .int (S.O_ShardHarbour.f_movesDone a), .int v, va_rf (S.O_ShardHarbour.f_lastChange a), .int (S.O_ShardHarbour.f_changeCount a), va_rf (S.O_ShardHarbour.f_lastCutOver a)])) = X ++ va_pl S.L (wPF cyI cyZ cyO8866d cyO72d3f cyO7b988 { S with O_ShardHarbour := { S.O_ShardHarbour with f_movesFailed := va_up S.O_ShardHarbour.f_movesFailed a v } }) := by
  rw [va_pl_set hD hL hk]
  exact congrArg (fun l => X ++ l) (va_pl_congr (wSt_O_ShardHarbour_f_movesFailed cyI cyZ cyO8866d cyO72d3f cyO7b988 S h v))
theorem wSt_O_ShardHarbour_f_lastChange (cyI : ClassId) (cyZ : ClassId) (cyO8866d : ClassId) (cyO72d3f : ClassId) (cyO7b988 : ClassId) (S : wPS) {a : Nat} (h : S.K a = 5) (v : Option Nat) (b : Nat) : va_up (wPF cyI cyZ cyO8866d cyO72d3f cyO7b988 S) a (.inr (5, [va_rf (S.O_ShardHarbour.f_nowhere a), va_rf (S.O_ShardHarbour.f_bytesAt a), va_rf (S.O_ShardHarbour.f_tenantAt a), va_rf (S.O_ShardHarbour.f_tenants a), va_rf (S.O_ShardHarbour.f_machines a), .int (S.O_ShardHarbour.f_machineCount a), va_rf (S.O_ShardHarbour.f_shards a), .int (S.O_ShardHarbour.f_shardCount a), .int (S.O_ShardHarbour.f_hour a), .int (S.O_ShardHarbour.f_heatLimit a), .int (S.O_ShardHarbour.f_movesDone a), .int (S.O_ShardHarbour.f_movesFailed a), va_rf v, .int (S.O_ShardHarbour.f_changeCount a), va_rf (S.O_ShardHarbour.f_lastCutOver a)])) b = wPF cyI cyZ cyO8866d cyO72d3f cyO7b988 { S with O_ShardHarbour := { S.O_ShardHarbour with f_lastChange := va_up S.O_ShardHarbour.f_lastChange a v } } b := by by_cases hb : b = a <;> first | (simp only [wPF, va_up_ne _ _ hb]; done) | (simp only [wPF, va_up, if_neg hb]; done) | simp [wPF, va_re, va_up, va_rf, hb, h]
theorem wPu_O_ShardHarbour_f_lastChange (cyI : ClassId) (cyZ : ClassId) (cyO8866d : ClassId) (cyO72d3f : ClassId) (cyO7b988 : ClassId) (X : va_W) (S : wPS) {A : Nat → Prop} {a k : Nat} (hD : va_D A (X ++ va_pl S.L (wPF cyI cyZ cyO8866d cyO72d3f cyO7b988 S))) (hL : a ∈ S.L) (h : S.K a = 5) (hk : (X ++ va_pl S.L (wPF cyI cyZ cyO8866d cyO72d3f cyO7b988 S))[k]? = some (a, wPF cyI cyZ cyO8866d cyO72d3f cyO7b988 S a)) (v : Option Nat) : (X ++ va_pl S.L (wPF cyI cyZ cyO8866d cyO72d3f cyO7b988 S)).set k (a, .inr (5, [va_rf (S.O_ShardHarbour.f_nowhere a), va_rf (S.O_ShardHarbour.f_bytesAt a), va_rf (S.O_ShardHarbour.f_tenantAt a), va_rf (S.O_ShardHarbour.f_tenants a), va_rf (S.O_ShardHarbour.f_machines a), .int (S.O_ShardHarbour.f_machineCount a), va_rf (S.O_ShardHarbour.f_shards a), .int (S.O_ShardHarbour.f_shardCount a), .int (S.O_ShardHarbour.f_hour a), .int (S.O_ShardHarbour.f_heatLimit a), .int (S.O_ShardHarbour.f_movesDone a), .int (S.O_ShardHarbour.f_movesFailed a), va_rf v, .int (S.O_ShardHarbour.f_changeCount a), va_rf (S.O_ShardHarbour.f_lastCutOver a)])) = X ++ va_pl S.L (wPF cyI cyZ cyO8866d cyO72d3f cyO7b988 { S with O_ShardHarbour := { S.O_ShardHarbour with f_lastChange := va_up S.O_ShardHarbour.f_lastChange a v } }) := by
  rw [va_pl_set hD hL hk]
  exact congrArg (fun l => X ++ l) (va_pl_congr (wSt_O_ShardHarbour_f_lastChange cyI cyZ cyO8866d cyO72d3f cyO7b988 S h v))
theorem wSt_O_ShardHarbour_f_changeCount (cyI : ClassId) (cyZ : ClassId) (cyO8866d : ClassId) (cyO72d3f : ClassId) (cyO7b988 : ClassId) (S : wPS) {a : Nat} (h : S.K a = 5) (v : Int32) (b : Nat) : va_up (wPF cyI cyZ cyO8866d cyO72d3f cyO7b988 S) a (.inr (5, [va_rf (S.O_ShardHarbour.f_nowhere a), va_rf (S.O_ShardHarbour.f_bytesAt a), va_rf (S.O_ShardHarbour.f_tenantAt a), va_rf (S.O_ShardHarbour.f_tenants a), va_rf (S.O_ShardHarbour.f_machines a), .int (S.O_ShardHarbour.f_machineCount a), va_rf (S.O_ShardHarbour.f_shards a), .int (S.O_ShardHarbour.f_shardCount a), .int (S.O_ShardHarbour.f_hour a), .int (S.O_ShardHarbour.f_heatLimit a), .int (S.O_ShardHarbour.f_movesDone a), .int (S.O_ShardHarbour.f_movesFailed a), va_rf (S.O_ShardHarbour.f_lastChange a), .int v, va_rf (S.O_ShardHarbour.f_lastCutOver a)])) b = wPF cyI cyZ cyO8866d cyO72d3f cyO7b988 { S with O_ShardHarbour := { S.O_ShardHarbour with f_changeCount := va_up S.O_ShardHarbour.f_changeCount a v } } b := by by_cases hb : b = a <;> first | (simp only [wPF, va_up_ne _ _ hb]; done) | (simp only [wPF, va_up, if_neg hb]; done) | simp [wPF, va_re, va_up, va_rf, hb, h]
theorem wPu_O_ShardHarbour_f_changeCount (cyI : ClassId) (cyZ : ClassId) (cyO8866d : ClassId) (cyO72d3f : ClassId) (cyO7b988 : ClassId) (X : va_W) (S : wPS) {A : Nat → Prop} {a k : Nat} (hD : va_D A (X ++ va_pl S.L (wPF cyI cyZ cyO8866d cyO72d3f cyO7b988 S))) (hL : a ∈ S.L) (h : S.K a = 5) (hk : (X ++ va_pl S.L (wPF cyI cyZ cyO8866d cyO72d3f cyO7b988 S))[k]? = some (a, wPF cyI cyZ cyO8866d cyO72d3f cyO7b988 S a)) (v : Int32) : (X ++ va_pl S.L (wPF cyI cyZ cyO8866d cyO72d3f cyO7b988 S)).set k (a, .inr (5, [va_rf (S.O_ShardHarbour.f_nowhere a), va_rf (S.O_ShardHarbour.f_bytesAt a), va_rf (S.O_ShardHarbour.f_tenantAt a), va_rf (S.O_ShardHarbour.f_tenants a), va_rf (S.O_ShardHarbour.f_machines a), .int (S.O_ShardHarbour.f_machineCount a), va_rf (S.O_ShardHarbour.f_shards a), .int (S.O_ShardHarbour.f_shardCount a), .int (S.O_ShardHarbour.f_hour a), .int (S.O_ShardHarbour.f_heatLimit a), .int (S.O_ShardHarbour.f_movesDone a), .int (S.O_ShardHarbour.f_movesFailed a), va_rf (S.O_ShardHarbour.f_lastChange a), .int v, va_rf (S.O_ShardHarbour.f_lastCutOver a)])) = X ++ va_pl S.L (wPF cyI cyZ cyO8866d cyO72d3f cyO7b988 { S with O_ShardHarbour := { S.O_ShardHarbour with f_changeCount := va_up S.O_ShardHarbour.f_changeCount a v } }) := by
  rw [va_pl_set hD hL hk]
  exact congrArg (fun l => X ++ l) (va_pl_congr (wSt_O_ShardHarbour_f_changeCount cyI cyZ cyO8866d cyO72d3f cyO7b988 S h v))
theorem wSt_O_ShardHarbour_f_lastCutOver (cyI : ClassId) (cyZ : ClassId) (cyO8866d : ClassId) (cyO72d3f : ClassId) (cyO7b988 : ClassId) (S : wPS) {a : Nat} (h : S.K a = 5) (v : Option Nat) (b : Nat) : va_up (wPF cyI cyZ cyO8866d cyO72d3f cyO7b988 S) a (.inr (5, [va_rf (S.O_ShardHarbour.f_nowhere a), va_rf (S.O_ShardHarbour.f_bytesAt a), va_rf (S.O_ShardHarbour.f_tenantAt a), va_rf (S.O_ShardHarbour.f_tenants a), va_rf (S.O_ShardHarbour.f_machines a), .int (S.O_ShardHarbour.f_machineCount a), va_rf (S.O_ShardHarbour.f_shards a), .int (S.O_ShardHarbour.f_shardCount a), .int (S.O_ShardHarbour.f_hour a), .int (S.O_ShardHarbour.f_heatLimit a), .int (S.O_ShardHarbour.f_movesDone a), .int (S.O_ShardHarbour.f_movesFailed a), va_rf (S.O_ShardHarbour.f_lastChange a), .int (S.O_ShardHarbour.f_changeCount a), va_rf v])) b = wPF cyI cyZ cyO8866d cyO72d3f cyO7b988 { S with O_ShardHarbour := { S.O_ShardHarbour with f_lastCutOver := va_up S.O_ShardHarbour.f_lastCutOver a v } } b := by by_cases hb : b = a <;> first | (simp only [wPF, va_up_ne _ _ hb]; done) | (simp only [wPF, va_up, if_neg hb]; done) | simp [wPF, va_re, va_up, va_rf, hb, h]
theorem wPu_O_ShardHarbour_f_lastCutOver (cyI : ClassId) (cyZ : ClassId) (cyO8866d : ClassId) (cyO72d3f : ClassId) (cyO7b988 : ClassId) (X : va_W) (S : wPS) {A : Nat → Prop} {a k : Nat} (hD : va_D A (X ++ va_pl S.L (wPF cyI cyZ cyO8866d cyO72d3f cyO7b988 S))) (hL : a ∈ S.L) (h : S.K a = 5) (hk : (X ++ va_pl S.L (wPF cyI cyZ cyO8866d cyO72d3f cyO7b988 S))[k]? = some (a, wPF cyI cyZ cyO8866d cyO72d3f cyO7b988 S a)) (v : Option Nat) : (X ++ va_pl S.L (wPF cyI cyZ cyO8866d cyO72d3f cyO7b988 S)).set k (a, .inr (5, [va_rf (S.O_ShardHarbour.f_nowhere a), va_rf (S.O_ShardHarbour.f_bytesAt a), va_rf (S.O_ShardHarbour.f_tenantAt a), va_rf (S.O_ShardHarbour.f_tenants a), va_rf (S.O_ShardHarbour.f_machines a), .int (S.O_ShardHarbour.f_machineCount a), va_rf (S.O_ShardHarbour.f_shards a), .int (S.O_ShardHarbour.f_shardCount a), .int (S.O_ShardHarbour.f_hour a), .int (S.O_ShardHarbour.f_heatLimit a), .int (S.O_ShardHarbour.f_movesDone a), .int (S.O_ShardHarbour.f_movesFailed a), va_rf (S.O_ShardHarbour.f_lastChange a), .int (S.O_ShardHarbour.f_changeCount a), va_rf v])) = X ++ va_pl S.L (wPF cyI cyZ cyO8866d cyO72d3f cyO7b988 { S with O_ShardHarbour := { S.O_ShardHarbour with f_lastCutOver := va_up S.O_ShardHarbour.f_lastCutOver a v } }) := by
  rw [va_pl_set hD hL hk]
  exact congrArg (fun l => X ++ l) (va_pl_congr (wSt_O_ShardHarbour_f_lastCutOver cyI cyZ cyO8866d cyO72d3f cyO7b988 S h v))
theorem wNw_O_ShardHarbour (cyI : ClassId) (cyZ : ClassId) (cyO8866d : ClassId) (cyO72d3f : ClassId) (cyO7b988 : ClassId) (S : wPS) (a b : Nat) : va_up (wPF cyI cyZ cyO8866d cyO72d3f cyO7b988 S) a (.inr (5, [.null, .null, .null, .null, .null, .int 0, .null, .int 0, .int 0, .int 0, .int 0, .int 0, .null, .int 0, .null])) b = wPF cyI cyZ cyO8866d cyO72d3f cyO7b988 { S with L := S.L ++ [a], K := va_up S.K a 5, O_ShardHarbour := { f_nowhere := va_up S.O_ShardHarbour.f_nowhere a none, f_bytesAt := va_up S.O_ShardHarbour.f_bytesAt a none, f_tenantAt := va_up S.O_ShardHarbour.f_tenantAt a none, f_tenants := va_up S.O_ShardHarbour.f_tenants a none, f_machines := va_up S.O_ShardHarbour.f_machines a none, f_machineCount := va_up S.O_ShardHarbour.f_machineCount a 0, f_shards := va_up S.O_ShardHarbour.f_shards a none, f_shardCount := va_up S.O_ShardHarbour.f_shardCount a 0, f_hour := va_up S.O_ShardHarbour.f_hour a 0, f_heatLimit := va_up S.O_ShardHarbour.f_heatLimit a 0, f_movesDone := va_up S.O_ShardHarbour.f_movesDone a 0, f_movesFailed := va_up S.O_ShardHarbour.f_movesFailed a 0, f_lastChange := va_up S.O_ShardHarbour.f_lastChange a none, f_changeCount := va_up S.O_ShardHarbour.f_changeCount a 0, f_lastCutOver := va_up S.O_ShardHarbour.f_lastCutOver a none } } b := by by_cases hb : b = a <;> first | (simp only [wPF, va_up_ne _ _ hb]; done) | (simp only [wPF, va_up, if_neg hb]; done) | simp [wPF, va_re, va_up, va_rf, hb]
theorem wPn_O_ShardHarbour (cyI : ClassId) (cyZ : ClassId) (cyO8866d : ClassId) (cyO72d3f : ClassId) (cyO7b988 : ClassId) (X : va_W) (S : wPS) {a : Nat} (ha : a ∉ S.L) : (X ++ va_pl S.L (wPF cyI cyZ cyO8866d cyO72d3f cyO7b988 S)) ++ [(a, .inr (5, [.null, .null, .null, .null, .null, .int 0, .null, .int 0, .int 0, .int 0, .int 0, .int 0, .null, .int 0, .null]))] = X ++ va_pl (S.L ++ [a]) (wPF cyI cyZ cyO8866d cyO72d3f cyO7b988 { S with L := S.L ++ [a], K := va_up S.K a 5, O_ShardHarbour := { f_nowhere := va_up S.O_ShardHarbour.f_nowhere a none, f_bytesAt := va_up S.O_ShardHarbour.f_bytesAt a none, f_tenantAt := va_up S.O_ShardHarbour.f_tenantAt a none, f_tenants := va_up S.O_ShardHarbour.f_tenants a none, f_machines := va_up S.O_ShardHarbour.f_machines a none, f_machineCount := va_up S.O_ShardHarbour.f_machineCount a 0, f_shards := va_up S.O_ShardHarbour.f_shards a none, f_shardCount := va_up S.O_ShardHarbour.f_shardCount a 0, f_hour := va_up S.O_ShardHarbour.f_hour a 0, f_heatLimit := va_up S.O_ShardHarbour.f_heatLimit a 0, f_movesDone := va_up S.O_ShardHarbour.f_movesDone a 0, f_movesFailed := va_up S.O_ShardHarbour.f_movesFailed a 0, f_lastChange := va_up S.O_ShardHarbour.f_lastChange a none, f_changeCount := va_up S.O_ShardHarbour.f_changeCount a 0, f_lastCutOver := va_up S.O_ShardHarbour.f_lastCutOver a none } }) := by
  rw [List.append_assoc, va_pl_push ha]
  exact congrArg (fun l => X ++ l) (va_pl_congr (wNw_O_ShardHarbour cyI cyZ cyO8866d cyO72d3f cyO7b988 S a))
theorem wAt_O_ShardHarbourModel (cyI : ClassId) (cyZ : ClassId) (cyO8866d : ClassId) (cyO72d3f : ClassId) (cyO7b988 : ClassId) (S : wPS) {a : Nat} (h : S.K a = 6) : wPF cyI cyZ cyO8866d cyO72d3f cyO7b988 S a = .inr (6, [.int (S.O_ShardHarbourModel.f_thrown a), .int (S.O_ShardHarbourModel.f_hour a), .int (S.O_ShardHarbourModel.f_machines a), va_rf (S.O_ShardHarbourModel.f_room a), va_rf (S.O_ShardHarbourModel.f_isDown a), va_rf (S.O_ShardHarbourModel.f_quota a), va_rf (S.O_ShardHarbourModel.f_bill a), .int (S.O_ShardHarbourModel.f_limit a), .int (S.O_ShardHarbourModel.f_logged a), .int (S.O_ShardHarbourModel.f_done a), .int (S.O_ShardHarbourModel.f_failed a), va_rf (S.O_ShardHarbourModel.f_owner a), va_rf (S.O_ShardHarbourModel.f_bytes a), .int (S.O_ShardHarbourModel.f_shards a), va_rf (S.O_ShardHarbourModel.f_first a), va_rf (S.O_ShardHarbourModel.f_on a), va_rf (S.O_ShardHarbourModel.f_to a), va_rf (S.O_ShardHarbourModel.f_next a), va_rf (S.O_ShardHarbourModel.f_left a), va_rf (S.O_ShardHarbourModel.f_heat a)]) := by simp [wPF, h]
theorem wGt_O_ShardHarbourModel (cyI : ClassId) (cyZ : ClassId) (cyO8866d : ClassId) (cyO72d3f : ClassId) (cyO7b988 : ClassId) (X : va_W) (S : wPS) {a : Nat} (hL : a ∈ S.L) (h : S.K a = 6) : ∃ k : Nat, (X ++ va_pl S.L (wPF cyI cyZ cyO8866d cyO72d3f cyO7b988 S))[k]? = some (a, wPF cyI cyZ cyO8866d cyO72d3f cyO7b988 S a) ∧ (X ++ va_pl S.L (wPF cyI cyZ cyO8866d cyO72d3f cyO7b988 S))[k]? = some (a, .inr (6, [.int (S.O_ShardHarbourModel.f_thrown a), .int (S.O_ShardHarbourModel.f_hour a), .int (S.O_ShardHarbourModel.f_machines a), va_rf (S.O_ShardHarbourModel.f_room a), va_rf (S.O_ShardHarbourModel.f_isDown a), va_rf (S.O_ShardHarbourModel.f_quota a), va_rf (S.O_ShardHarbourModel.f_bill a), .int (S.O_ShardHarbourModel.f_limit a), .int (S.O_ShardHarbourModel.f_logged a), .int (S.O_ShardHarbourModel.f_done a), .int (S.O_ShardHarbourModel.f_failed a), va_rf (S.O_ShardHarbourModel.f_owner a), va_rf (S.O_ShardHarbourModel.f_bytes a), .int (S.O_ShardHarbourModel.f_shards a), va_rf (S.O_ShardHarbourModel.f_first a), va_rf (S.O_ShardHarbourModel.f_on a), va_rf (S.O_ShardHarbourModel.f_to a), va_rf (S.O_ShardHarbourModel.f_next a), va_rf (S.O_ShardHarbourModel.f_left a), va_rf (S.O_ShardHarbourModel.f_heat a)])) := by
  obtain ⟨k, hk⟩ := va_pl_get (X := X) (f := wPF cyI cyZ cyO8866d cyO72d3f cyO7b988 S) hL
  exact ⟨k, hk, hk.trans (congrArg (fun e => some (a, e)) (wAt_O_ShardHarbourModel cyI cyZ cyO8866d cyO72d3f cyO7b988 S h))⟩
theorem wSt_O_ShardHarbourModel_f_thrown (cyI : ClassId) (cyZ : ClassId) (cyO8866d : ClassId) (cyO72d3f : ClassId) (cyO7b988 : ClassId) (S : wPS) {a : Nat} (h : S.K a = 6) (v : Int32) (b : Nat) : va_up (wPF cyI cyZ cyO8866d cyO72d3f cyO7b988 S) a (.inr (6, [.int v, .int (S.O_ShardHarbourModel.f_hour a), .int (S.O_ShardHarbourModel.f_machines a), va_rf (S.O_ShardHarbourModel.f_room a), va_rf (S.O_ShardHarbourModel.f_isDown a), va_rf (S.O_ShardHarbourModel.f_quota a), va_rf (S.O_ShardHarbourModel.f_bill a), .int (S.O_ShardHarbourModel.f_limit a), .int (S.O_ShardHarbourModel.f_logged a), .int (S.O_ShardHarbourModel.f_done a), .int (S.O_ShardHarbourModel.f_failed a), va_rf (S.O_ShardHarbourModel.f_owner a), va_rf (S.O_ShardHarbourModel.f_bytes a), .int (S.O_ShardHarbourModel.f_shards a), va_rf (S.O_ShardHarbourModel.f_first a), va_rf (S.O_ShardHarbourModel.f_on a), va_rf (S.O_ShardHarbourModel.f_to a), va_rf (S.O_ShardHarbourModel.f_next a), va_rf (S.O_ShardHarbourModel.f_left a), va_rf (S.O_ShardHarbourModel.f_heat a)])) b = wPF cyI cyZ cyO8866d cyO72d3f cyO7b988 { S with O_ShardHarbourModel := { S.O_ShardHarbourModel with f_thrown := va_up S.O_ShardHarbourModel.f_thrown a v } } b := by by_cases hb : b = a <;> first | (simp only [wPF, va_up_ne _ _ hb]; done) | (simp only [wPF, va_up, if_neg hb]; done) | simp [wPF, va_re, va_up, va_rf, hb, h]
theorem wPu_O_ShardHarbourModel_f_thrown (cyI : ClassId) (cyZ : ClassId) (cyO8866d : ClassId) (cyO72d3f : ClassId) (cyO7b988 : ClassId) (X : va_W) (S : wPS) {A : Nat → Prop} {a k : Nat} (hD : va_D A (X ++ va_pl S.L (wPF cyI cyZ cyO8866d cyO72d3f cyO7b988 S))) (hL : a ∈ S.L) (h : S.K a = 6) (hk : (X ++ va_pl S.L (wPF cyI cyZ cyO8866d cyO72d3f cyO7b988 S))[k]? = some (a, wPF cyI cyZ cyO8866d cyO72d3f cyO7b988 S a)) (v : Int32) : (X ++ va_pl S.L (wPF cyI cyZ cyO8866d cyO72d3f cyO7b988 S)).set k (a, .inr (6, [.int v, .int (S.O_ShardHarbourModel.f_hour a), .int (S.O_ShardHarbourModel.f_machines a), va_rf (S.O_ShardHarbourModel.f_room a), va_rf (S.O_ShardHarbourModel.f_isDown a), va_rf (S.O_ShardHarbourModel.f_quota a), va_rf (S.O_ShardHarbourModel.f_bill a), .int (S.O_ShardHarbourModel.f_limit a), .int (S.O_ShardHarbourModel.f_logged a), .int (S.O_ShardHarbourModel.f_done a), .int (S.O_ShardHarbourModel.f_failed a), va_rf (S.O_ShardHarbourModel.f_owner a), va_rf (S.O_ShardHarbourModel.f_bytes a), .int (S.O_ShardHarbourModel.f_shards a), va_rf (S.O_ShardHarbourModel.f_first a), va_rf (S.O_ShardHarbourModel.f_on a), va_rf (S.O_ShardHarbourModel.f_to a), va_rf (S.O_ShardHarbourModel.f_next a), va_rf (S.O_ShardHarbourModel.f_left a), va_rf (S.O_ShardHarbourModel.f_heat a)])) = X ++ va_pl S.L (wPF cyI cyZ cyO8866d cyO72d3f cyO7b988 { S with O_ShardHarbourModel := { S.O_ShardHarbourModel with f_thrown := va_up S.O_ShardHarbourModel.f_thrown a v } }) := by
  rw [va_pl_set hD hL hk]
  exact congrArg (fun l => X ++ l) (va_pl_congr (wSt_O_ShardHarbourModel_f_thrown cyI cyZ cyO8866d cyO72d3f cyO7b988 S h v))
theorem wSt_O_ShardHarbourModel_f_hour (cyI : ClassId) (cyZ : ClassId) (cyO8866d : ClassId) (cyO72d3f : ClassId) (cyO7b988 : ClassId) (S : wPS) {a : Nat} (h : S.K a = 6) (v : Int32) (b : Nat) : va_up (wPF cyI cyZ cyO8866d cyO72d3f cyO7b988 S) a (.inr (6, [.int (S.O_ShardHarbourModel.f_thrown a), .int v, .int (S.O_ShardHarbourModel.f_machines a), va_rf (S.O_ShardHarbourModel.f_room a), va_rf (S.O_ShardHarbourModel.f_isDown a), va_rf (S.O_ShardHarbourModel.f_quota a), va_rf (S.O_ShardHarbourModel.f_bill a), .int (S.O_ShardHarbourModel.f_limit a), .int (S.O_ShardHarbourModel.f_logged a), .int (S.O_ShardHarbourModel.f_done a), .int (S.O_ShardHarbourModel.f_failed a), va_rf (S.O_ShardHarbourModel.f_owner a), va_rf (S.O_ShardHarbourModel.f_bytes a), .int (S.O_ShardHarbourModel.f_shards a), va_rf (S.O_ShardHarbourModel.f_first a), va_rf (S.O_ShardHarbourModel.f_on a), va_rf (S.O_ShardHarbourModel.f_to a), va_rf (S.O_ShardHarbourModel.f_next a), va_rf (S.O_ShardHarbourModel.f_left a), va_rf (S.O_ShardHarbourModel.f_heat a)])) b = wPF cyI cyZ cyO8866d cyO72d3f cyO7b988 { S with O_ShardHarbourModel := { S.O_ShardHarbourModel with f_hour := va_up S.O_ShardHarbourModel.f_hour a v } } b := by by_cases hb : b = a <;> first | (simp only [wPF, va_up_ne _ _ hb]; done) | (simp only [wPF, va_up, if_neg hb]; done) | simp [wPF, va_re, va_up, va_rf, hb, h]
theorem wPu_O_ShardHarbourModel_f_hour (cyI : ClassId) (cyZ : ClassId) (cyO8866d : ClassId) (cyO72d3f : ClassId) (cyO7b988 : ClassId) (X : va_W) (S : wPS) {A : Nat → Prop} {a k : Nat} (hD : va_D A (X ++ va_pl S.L (wPF cyI cyZ cyO8866d cyO72d3f cyO7b988 S))) (hL : a ∈ S.L) (h : S.K a = 6) (hk : (X ++ va_pl S.L (wPF cyI cyZ cyO8866d cyO72d3f cyO7b988 S))[k]? = some (a, wPF cyI cyZ cyO8866d cyO72d3f cyO7b988 S a)) (v : Int32) : (X ++ va_pl S.L (wPF cyI cyZ cyO8866d cyO72d3f cyO7b988 S)).set k (a, .inr (6, [.int (S.O_ShardHarbourModel.f_thrown a), .int v, .int (S.O_ShardHarbourModel.f_machines a), va_rf (S.O_ShardHarbourModel.f_room a), va_rf (S.O_ShardHarbourModel.f_isDown a), va_rf (S.O_ShardHarbourModel.f_quota a), va_rf (S.O_ShardHarbourModel.f_bill a), .int (S.O_ShardHarbourModel.f_limit a), .int (S.O_ShardHarbourModel.f_logged a), .int (S.O_ShardHarbourModel.f_done a), .int (S.O_ShardHarbourModel.f_failed a), va_rf (S.O_ShardHarbourModel.f_owner a), va_rf (S.O_ShardHarbourModel.f_bytes a), .int (S.O_ShardHarbourModel.f_shards a), va_rf (S.O_ShardHarbourModel.f_first a), va_rf (S.O_ShardHarbourModel.f_on a), va_rf (S.O_ShardHarbourModel.f_to a), va_rf (S.O_ShardHarbourModel.f_next a), va_rf (S.O_ShardHarbourModel.f_left a), va_rf (S.O_ShardHarbourModel.f_heat a)])) = X ++ va_pl S.L (wPF cyI cyZ cyO8866d cyO72d3f cyO7b988 { S with O_ShardHarbourModel := { S.O_ShardHarbourModel with f_hour := va_up S.O_ShardHarbourModel.f_hour a v } }) := by
  rw [va_pl_set hD hL hk]
  exact congrArg (fun l => X ++ l) (va_pl_congr (wSt_O_ShardHarbourModel_f_hour cyI cyZ cyO8866d cyO72d3f cyO7b988 S h v))
theorem wSt_O_ShardHarbourModel_f_machines (cyI : ClassId) (cyZ : ClassId) (cyO8866d : ClassId) (cyO72d3f : ClassId) (cyO7b988 : ClassId) (S : wPS) {a : Nat} (h : S.K a = 6) (v : Int32) (b : Nat) : va_up (wPF cyI cyZ cyO8866d cyO72d3f cyO7b988 S) a (.inr (6, [.int (S.O_ShardHarbourModel.f_thrown a), .int (S.O_ShardHarbourModel.f_hour a), .int v, va_rf (S.O_ShardHarbourModel.f_room a), va_rf (S.O_ShardHarbourModel.f_isDown a), va_rf (S.O_ShardHarbourModel.f_quota a), va_rf (S.O_ShardHarbourModel.f_bill a), .int (S.O_ShardHarbourModel.f_limit a), .int (S.O_ShardHarbourModel.f_logged a), .int (S.O_ShardHarbourModel.f_done a), .int (S.O_ShardHarbourModel.f_failed a), va_rf (S.O_ShardHarbourModel.f_owner a), va_rf (S.O_ShardHarbourModel.f_bytes a), .int (S.O_ShardHarbourModel.f_shards a), va_rf (S.O_ShardHarbourModel.f_first a), va_rf (S.O_ShardHarbourModel.f_on a), va_rf (S.O_ShardHarbourModel.f_to a), va_rf (S.O_ShardHarbourModel.f_next a), va_rf (S.O_ShardHarbourModel.f_left a), va_rf (S.O_ShardHarbourModel.f_heat a)])) b = wPF cyI cyZ cyO8866d cyO72d3f cyO7b988 { S with O_ShardHarbourModel := { S.O_ShardHarbourModel with f_machines := va_up S.O_ShardHarbourModel.f_machines a v } } b := by by_cases hb : b = a <;> first | (simp only [wPF, va_up_ne _ _ hb]; done) | (simp only [wPF, va_up, if_neg hb]; done) | simp [wPF, va_re, va_up, va_rf, hb, h]
theorem wPu_O_ShardHarbourModel_f_machines (cyI : ClassId) (cyZ : ClassId) (cyO8866d : ClassId) (cyO72d3f : ClassId) (cyO7b988 : ClassId) (X : va_W) (S : wPS) {A : Nat → Prop} {a k : Nat} (hD : va_D A (X ++ va_pl S.L (wPF cyI cyZ cyO8866d cyO72d3f cyO7b988 S))) (hL : a ∈ S.L) (h : S.K a = 6) (hk : (X ++ va_pl S.L (wPF cyI cyZ cyO8866d cyO72d3f cyO7b988 S))[k]? = some (a, wPF cyI cyZ cyO8866d cyO72d3f cyO7b988 S a)) (v : Int32) : (X ++ va_pl S.L (wPF cyI cyZ cyO8866d cyO72d3f cyO7b988 S)).set k (a, .inr (6, [.int (S.O_ShardHarbourModel.f_thrown a), .int (S.O_ShardHarbourModel.f_hour a), .int v, va_rf (S.O_ShardHarbourModel.f_room a), va_rf (S.O_ShardHarbourModel.f_isDown a), va_rf (S.O_ShardHarbourModel.f_quota a), va_rf (S.O_ShardHarbourModel.f_bill a), .int (S.O_ShardHarbourModel.f_limit a), .int (S.O_ShardHarbourModel.f_logged a), .int (S.O_ShardHarbourModel.f_done a), .int (S.O_ShardHarbourModel.f_failed a), va_rf (S.O_ShardHarbourModel.f_owner a), va_rf (S.O_ShardHarbourModel.f_bytes a), .int (S.O_ShardHarbourModel.f_shards a), va_rf (S.O_ShardHarbourModel.f_first a), va_rf (S.O_ShardHarbourModel.f_on a), va_rf (S.O_ShardHarbourModel.f_to a), va_rf (S.O_ShardHarbourModel.f_next a), va_rf (S.O_ShardHarbourModel.f_left a), va_rf (S.O_ShardHarbourModel.f_heat a)])) = X ++ va_pl S.L (wPF cyI cyZ cyO8866d cyO72d3f cyO7b988 { S with O_ShardHarbourModel := { S.O_ShardHarbourModel with f_machines := va_up S.O_ShardHarbourModel.f_machines a v } }) := by
  rw [va_pl_set hD hL hk]
  exact congrArg (fun l => X ++ l) (va_pl_congr (wSt_O_ShardHarbourModel_f_machines cyI cyZ cyO8866d cyO72d3f cyO7b988 S h v))
theorem wSt_O_ShardHarbourModel_f_room (cyI : ClassId) (cyZ : ClassId) (cyO8866d : ClassId) (cyO72d3f : ClassId) (cyO7b988 : ClassId) (S : wPS) {a : Nat} (h : S.K a = 6) (v : Option Nat) (b : Nat) : va_up (wPF cyI cyZ cyO8866d cyO72d3f cyO7b988 S) a (.inr (6, [.int (S.O_ShardHarbourModel.f_thrown a), .int (S.O_ShardHarbourModel.f_hour a), .int (S.O_ShardHarbourModel.f_machines a), va_rf v, va_rf (S.O_ShardHarbourModel.f_isDown a), va_rf (S.O_ShardHarbourModel.f_quota a), va_rf (S.O_ShardHarbourModel.f_bill a), .int (S.O_ShardHarbourModel.f_limit a), .int (S.O_ShardHarbourModel.f_logged a), .int (S.O_ShardHarbourModel.f_done a), .int (S.O_ShardHarbourModel.f_failed a), va_rf (S.O_ShardHarbourModel.f_owner a), va_rf (S.O_ShardHarbourModel.f_bytes a), .int (S.O_ShardHarbourModel.f_shards a), va_rf (S.O_ShardHarbourModel.f_first a), va_rf (S.O_ShardHarbourModel.f_on a), va_rf (S.O_ShardHarbourModel.f_to a), va_rf (S.O_ShardHarbourModel.f_next a), va_rf (S.O_ShardHarbourModel.f_left a), va_rf (S.O_ShardHarbourModel.f_heat a)])) b = wPF cyI cyZ cyO8866d cyO72d3f cyO7b988 { S with O_ShardHarbourModel := { S.O_ShardHarbourModel with f_room := va_up S.O_ShardHarbourModel.f_room a v } } b := by by_cases hb : b = a <;> first | (simp only [wPF, va_up_ne _ _ hb]; done) | (simp only [wPF, va_up, if_neg hb]; done) | simp [wPF, va_re, va_up, va_rf, hb, h]
theorem wPu_O_ShardHarbourModel_f_room (cyI : ClassId) (cyZ : ClassId) (cyO8866d : ClassId) (cyO72d3f : ClassId) (cyO7b988 : ClassId) (X : va_W) (S : wPS) {A : Nat → Prop} {a k : Nat} (hD : va_D A (X ++ va_pl S.L (wPF cyI cyZ cyO8866d cyO72d3f cyO7b988 S))) (hL : a ∈ S.L) (h : S.K a = 6) (hk : (X ++ va_pl S.L (wPF cyI cyZ cyO8866d cyO72d3f cyO7b988 S))[k]? = some (a, wPF cyI cyZ cyO8866d cyO72d3f cyO7b988 S a)) (v : Option Nat) : (X ++ va_pl S.L (wPF cyI cyZ cyO8866d cyO72d3f cyO7b988 S)).set k (a, .inr (6, [.int (S.O_ShardHarbourModel.f_thrown a), .int (S.O_ShardHarbourModel.f_hour a), .int (S.O_ShardHarbourModel.f_machines a), va_rf v, va_rf (S.O_ShardHarbourModel.f_isDown a), va_rf (S.O_ShardHarbourModel.f_quota a), va_rf (S.O_ShardHarbourModel.f_bill a), .int (S.O_ShardHarbourModel.f_limit a), .int (S.O_ShardHarbourModel.f_logged a), .int (S.O_ShardHarbourModel.f_done a), .int (S.O_ShardHarbourModel.f_failed a), va_rf (S.O_ShardHarbourModel.f_owner a), va_rf (S.O_ShardHarbourModel.f_bytes a), .int (S.O_ShardHarbourModel.f_shards a), va_rf (S.O_ShardHarbourModel.f_first a), va_rf (S.O_ShardHarbourModel.f_on a), va_rf (S.O_ShardHarbourModel.f_to a), va_rf (S.O_ShardHarbourModel.f_next a), va_rf (S.O_ShardHarbourModel.f_left a), va_rf (S.O_ShardHarbourModel.f_heat a)])) = X ++ va_pl S.L (wPF cyI cyZ cyO8866d cyO72d3f cyO7b988 { S with O_ShardHarbourModel := { S.O_ShardHarbourModel with f_room := va_up S.O_ShardHarbourModel.f_room a v } }) := by
  rw [va_pl_set hD hL hk]
  exact congrArg (fun l => X ++ l) (va_pl_congr (wSt_O_ShardHarbourModel_f_room cyI cyZ cyO8866d cyO72d3f cyO7b988 S h v))
theorem wSt_O_ShardHarbourModel_f_isDown (cyI : ClassId) (cyZ : ClassId) (cyO8866d : ClassId) (cyO72d3f : ClassId) (cyO7b988 : ClassId) (S : wPS) {a : Nat} (h : S.K a = 6) (v : Option Nat) (b : Nat) : va_up (wPF cyI cyZ cyO8866d cyO72d3f cyO7b988 S) a (.inr (6, [.int (S.O_ShardHarbourModel.f_thrown a), .int (S.O_ShardHarbourModel.f_hour a), .int (S.O_ShardHarbourModel.f_machines a), va_rf (S.O_ShardHarbourModel.f_room a), va_rf v, va_rf (S.O_ShardHarbourModel.f_quota a), va_rf (S.O_ShardHarbourModel.f_bill a), .int (S.O_ShardHarbourModel.f_limit a), .int (S.O_ShardHarbourModel.f_logged a), .int (S.O_ShardHarbourModel.f_done a), .int (S.O_ShardHarbourModel.f_failed a), va_rf (S.O_ShardHarbourModel.f_owner a), va_rf (S.O_ShardHarbourModel.f_bytes a), .int (S.O_ShardHarbourModel.f_shards a), va_rf (S.O_ShardHarbourModel.f_first a), va_rf (S.O_ShardHarbourModel.f_on a), va_rf (S.O_ShardHarbourModel.f_to a), va_rf (S.O_ShardHarbourModel.f_next a), va_rf (S.O_ShardHarbourModel.f_left a), va_rf (S.O_ShardHarbourModel.f_heat a)])) b = wPF cyI cyZ cyO8866d cyO72d3f cyO7b988 { S with O_ShardHarbourModel := { S.O_ShardHarbourModel with f_isDown := va_up S.O_ShardHarbourModel.f_isDown a v } } b := by by_cases hb : b = a <;> first | (simp only [wPF, va_up_ne _ _ hb]; done) | (simp only [wPF, va_up, if_neg hb]; done) | simp [wPF, va_re, va_up, va_rf, hb, h]
theorem wPu_O_ShardHarbourModel_f_isDown (cyI : ClassId) (cyZ : ClassId) (cyO8866d : ClassId) (cyO72d3f : ClassId) (cyO7b988 : ClassId) (X : va_W) (S : wPS) {A : Nat → Prop} {a k : Nat} (hD : va_D A (X ++ va_pl S.L (wPF cyI cyZ cyO8866d cyO72d3f cyO7b988 S))) (hL : a ∈ S.L) (h : S.K a = 6) (hk : (X ++ va_pl S.L (wPF cyI cyZ cyO8866d cyO72d3f cyO7b988 S))[k]? = some (a, wPF cyI cyZ cyO8866d cyO72d3f cyO7b988 S a)) (v : Option Nat) : (X ++ va_pl S.L (wPF cyI cyZ cyO8866d cyO72d3f cyO7b988 S)).set k (a, .inr (6, [.int (S.O_ShardHarbourModel.f_thrown a), .int (S.O_ShardHarbourModel.f_hour a), .int (S.O_ShardHarbourModel.f_machines a), va_rf (S.O_ShardHarbourModel.f_room a), va_rf v, va_rf (S.O_ShardHarbourModel.f_quota a), va_rf (S.O_ShardHarbourModel.f_bill a), .int (S.O_ShardHarbourModel.f_limit a), .int (S.O_ShardHarbourModel.f_logged a), .int (S.O_ShardHarbourModel.f_done a), .int (S.O_ShardHarbourModel.f_failed a), va_rf (S.O_ShardHarbourModel.f_owner a), va_rf (S.O_ShardHarbourModel.f_bytes a), .int (S.O_ShardHarbourModel.f_shards a), va_rf (S.O_ShardHarbourModel.f_first a), va_rf (S.O_ShardHarbourModel.f_on a), va_rf (S.O_ShardHarbourModel.f_to a), va_rf (S.O_ShardHarbourModel.f_next a), va_rf (S.O_ShardHarbourModel.f_left a), va_rf (S.O_ShardHarbourModel.f_heat a)])) = X ++ va_pl S.L (wPF cyI cyZ cyO8866d cyO72d3f cyO7b988 { S with O_ShardHarbourModel := { S.O_ShardHarbourModel with f_isDown := va_up S.O_ShardHarbourModel.f_isDown a v } }) := by
  rw [va_pl_set hD hL hk]
  exact congrArg (fun l => X ++ l) (va_pl_congr (wSt_O_ShardHarbourModel_f_isDown cyI cyZ cyO8866d cyO72d3f cyO7b988 S h v))
theorem wSt_O_ShardHarbourModel_f_quota (cyI : ClassId) (cyZ : ClassId) (cyO8866d : ClassId) (cyO72d3f : ClassId) (cyO7b988 : ClassId) (S : wPS) {a : Nat} (h : S.K a = 6) (v : Option Nat) (b : Nat) : va_up (wPF cyI cyZ cyO8866d cyO72d3f cyO7b988 S) a (.inr (6, [.int (S.O_ShardHarbourModel.f_thrown a), .int (S.O_ShardHarbourModel.f_hour a), .int (S.O_ShardHarbourModel.f_machines a), va_rf (S.O_ShardHarbourModel.f_room a), va_rf (S.O_ShardHarbourModel.f_isDown a), va_rf v, va_rf (S.O_ShardHarbourModel.f_bill a), .int (S.O_ShardHarbourModel.f_limit a), .int (S.O_ShardHarbourModel.f_logged a), .int (S.O_ShardHarbourModel.f_done a), .int (S.O_ShardHarbourModel.f_failed a), va_rf (S.O_ShardHarbourModel.f_owner a), va_rf (S.O_ShardHarbourModel.f_bytes a), .int (S.O_ShardHarbourModel.f_shards a), va_rf (S.O_ShardHarbourModel.f_first a), va_rf (S.O_ShardHarbourModel.f_on a), va_rf (S.O_ShardHarbourModel.f_to a), va_rf (S.O_ShardHarbourModel.f_next a), va_rf (S.O_ShardHarbourModel.f_left a), va_rf (S.O_ShardHarbourModel.f_heat a)])) b = wPF cyI cyZ cyO8866d cyO72d3f cyO7b988 { S with O_ShardHarbourModel := { S.O_ShardHarbourModel with f_quota := va_up S.O_ShardHarbourModel.f_quota a v } } b := by by_cases hb : b = a <;> first | (simp only [wPF, va_up_ne _ _ hb]; done) | (simp only [wPF, va_up, if_neg hb]; done) | simp [wPF, va_re, va_up, va_rf, hb, h]
theorem wPu_O_ShardHarbourModel_f_quota (cyI : ClassId) (cyZ : ClassId) (cyO8866d : ClassId) (cyO72d3f : ClassId) (cyO7b988 : ClassId) (X : va_W) (S : wPS) {A : Nat → Prop} {a k : Nat} (hD : va_D A (X ++ va_pl S.L (wPF cyI cyZ cyO8866d cyO72d3f cyO7b988 S))) (hL : a ∈ S.L) (h : S.K a = 6) (hk : (X ++ va_pl S.L (wPF cyI cyZ cyO8866d cyO72d3f cyO7b988 S))[k]? = some (a, wPF cyI cyZ cyO8866d cyO72d3f cyO7b988 S a)) (v : Option Nat) : (X ++ va_pl S.L (wPF cyI cyZ cyO8866d cyO72d3f cyO7b988 S)).set k (a, .inr (6, [.int (S.O_ShardHarbourModel.f_thrown a), .int (S.O_ShardHarbourModel.f_hour a), .int (S.O_ShardHarbourModel.f_machines a), va_rf (S.O_ShardHarbourModel.f_room a), va_rf (S.O_ShardHarbourModel.f_isDown a), va_rf v, va_rf (S.O_ShardHarbourModel.f_bill a), .int (S.O_ShardHarbourModel.f_limit a), .int (S.O_ShardHarbourModel.f_logged a), .int (S.O_ShardHarbourModel.f_done a), .int (S.O_ShardHarbourModel.f_failed a), va_rf (S.O_ShardHarbourModel.f_owner a), va_rf (S.O_ShardHarbourModel.f_bytes a), .int (S.O_ShardHarbourModel.f_shards a), va_rf (S.O_ShardHarbourModel.f_first a), va_rf (S.O_ShardHarbourModel.f_on a), va_rf (S.O_ShardHarbourModel.f_to a), va_rf (S.O_ShardHarbourModel.f_next a), va_rf (S.O_ShardHarbourModel.f_left a), va_rf (S.O_ShardHarbourModel.f_heat a)])) = X ++ va_pl S.L (wPF cyI cyZ cyO8866d cyO72d3f cyO7b988 { S with O_ShardHarbourModel := { S.O_ShardHarbourModel with f_quota := va_up S.O_ShardHarbourModel.f_quota a v } }) := by
  rw [va_pl_set hD hL hk]
  exact congrArg (fun l => X ++ l) (va_pl_congr (wSt_O_ShardHarbourModel_f_quota cyI cyZ cyO8866d cyO72d3f cyO7b988 S h v))
theorem wSt_O_ShardHarbourModel_f_bill (cyI : ClassId) (cyZ : ClassId) (cyO8866d : ClassId) (cyO72d3f : ClassId) (cyO7b988 : ClassId) (S : wPS) {a : Nat} (h : S.K a = 6) (v : Option Nat) (b : Nat) : va_up (wPF cyI cyZ cyO8866d cyO72d3f cyO7b988 S) a (.inr (6, [.int (S.O_ShardHarbourModel.f_thrown a), .int (S.O_ShardHarbourModel.f_hour a), .int (S.O_ShardHarbourModel.f_machines a), va_rf (S.O_ShardHarbourModel.f_room a), va_rf (S.O_ShardHarbourModel.f_isDown a), va_rf (S.O_ShardHarbourModel.f_quota a), va_rf v, .int (S.O_ShardHarbourModel.f_limit a), .int (S.O_ShardHarbourModel.f_logged a), .int (S.O_ShardHarbourModel.f_done a), .int (S.O_ShardHarbourModel.f_failed a), va_rf (S.O_ShardHarbourModel.f_owner a), va_rf (S.O_ShardHarbourModel.f_bytes a), .int (S.O_ShardHarbourModel.f_shards a), va_rf (S.O_ShardHarbourModel.f_first a), va_rf (S.O_ShardHarbourModel.f_on a), va_rf (S.O_ShardHarbourModel.f_to a), va_rf (S.O_ShardHarbourModel.f_next a), va_rf (S.O_ShardHarbourModel.f_left a), va_rf (S.O_ShardHarbourModel.f_heat a)])) b = wPF cyI cyZ cyO8866d cyO72d3f cyO7b988 { S with O_ShardHarbourModel := { S.O_ShardHarbourModel with f_bill := va_up S.O_ShardHarbourModel.f_bill a v } } b := by by_cases hb : b = a <;> first | (simp only [wPF, va_up_ne _ _ hb]; done) | (simp only [wPF, va_up, if_neg hb]; done) | simp [wPF, va_re, va_up, va_rf, hb, h]
theorem wPu_O_ShardHarbourModel_f_bill (cyI : ClassId) (cyZ : ClassId) (cyO8866d : ClassId) (cyO72d3f : ClassId) (cyO7b988 : ClassId) (X : va_W) (S : wPS) {A : Nat → Prop} {a k : Nat} (hD : va_D A (X ++ va_pl S.L (wPF cyI cyZ cyO8866d cyO72d3f cyO7b988 S))) (hL : a ∈ S.L) (h : S.K a = 6) (hk : (X ++ va_pl S.L (wPF cyI cyZ cyO8866d cyO72d3f cyO7b988 S))[k]? = some (a, wPF cyI cyZ cyO8866d cyO72d3f cyO7b988 S a)) (v : Option Nat) : (X ++ va_pl S.L (wPF cyI cyZ cyO8866d cyO72d3f cyO7b988 S)).set k (a, .inr (6, [.int (S.O_ShardHarbourModel.f_thrown a), .int (S.O_ShardHarbourModel.f_hour a), .int (S.O_ShardHarbourModel.f_machines a), va_rf (S.O_ShardHarbourModel.f_room a), va_rf (S.O_ShardHarbourModel.f_isDown a), va_rf (S.O_ShardHarbourModel.f_quota a), va_rf v, .int (S.O_ShardHarbourModel.f_limit a), .int (S.O_ShardHarbourModel.f_logged a), .int (S.O_ShardHarbourModel.f_done a), .int (S.O_ShardHarbourModel.f_failed a), va_rf (S.O_ShardHarbourModel.f_owner a), va_rf (S.O_ShardHarbourModel.f_bytes a), .int (S.O_ShardHarbourModel.f_shards a), va_rf (S.O_ShardHarbourModel.f_first a), va_rf (S.O_ShardHarbourModel.f_on a), va_rf (S.O_ShardHarbourModel.f_to a), va_rf (S.O_ShardHarbourModel.f_next a), va_rf (S.O_ShardHarbourModel.f_left a), va_rf (S.O_ShardHarbourModel.f_heat a)])) = X ++ va_pl S.L (wPF cyI cyZ cyO8866d cyO72d3f cyO7b988 { S with O_ShardHarbourModel := { S.O_ShardHarbourModel with f_bill := va_up S.O_ShardHarbourModel.f_bill a v } }) := by
  rw [va_pl_set hD hL hk]
  exact congrArg (fun l => X ++ l) (va_pl_congr (wSt_O_ShardHarbourModel_f_bill cyI cyZ cyO8866d cyO72d3f cyO7b988 S h v))
theorem wSt_O_ShardHarbourModel_f_limit (cyI : ClassId) (cyZ : ClassId) (cyO8866d : ClassId) (cyO72d3f : ClassId) (cyO7b988 : ClassId) (S : wPS) {a : Nat} (h : S.K a = 6) (v : Int32) (b : Nat) : va_up (wPF cyI cyZ cyO8866d cyO72d3f cyO7b988 S) a (.inr (6, [.int (S.O_ShardHarbourModel.f_thrown a), .int (S.O_ShardHarbourModel.f_hour a), .int (S.O_ShardHarbourModel.f_machines a), va_rf (S.O_ShardHarbourModel.f_room a), va_rf (S.O_ShardHarbourModel.f_isDown a), va_rf (S.O_ShardHarbourModel.f_quota a), va_rf (S.O_ShardHarbourModel.f_bill a), .int v, .int (S.O_ShardHarbourModel.f_logged a), .int (S.O_ShardHarbourModel.f_done a), .int (S.O_ShardHarbourModel.f_failed a), va_rf (S.O_ShardHarbourModel.f_owner a), va_rf (S.O_ShardHarbourModel.f_bytes a), .int (S.O_ShardHarbourModel.f_shards a), va_rf (S.O_ShardHarbourModel.f_first a), va_rf (S.O_ShardHarbourModel.f_on a), va_rf (S.O_ShardHarbourModel.f_to a), va_rf (S.O_ShardHarbourModel.f_next a), va_rf (S.O_ShardHarbourModel.f_left a), va_rf (S.O_ShardHarbourModel.f_heat a)])) b = wPF cyI cyZ cyO8866d cyO72d3f cyO7b988 { S with O_ShardHarbourModel := { S.O_ShardHarbourModel with f_limit := va_up S.O_ShardHarbourModel.f_limit a v } } b := by by_cases hb : b = a <;> first | (simp only [wPF, va_up_ne _ _ hb]; done) | (simp only [wPF, va_up, if_neg hb]; done) | simp [wPF, va_re, va_up, va_rf, hb, h]
theorem wPu_O_ShardHarbourModel_f_limit (cyI : ClassId) (cyZ : ClassId) (cyO8866d : ClassId) (cyO72d3f : ClassId) (cyO7b988 : ClassId) (X : va_W) (S : wPS) {A : Nat → Prop} {a k : Nat} (hD : va_D A (X ++ va_pl S.L (wPF cyI cyZ cyO8866d cyO72d3f cyO7b988 S))) (hL : a ∈ S.L) (h : S.K a = 6) (hk : (X ++ va_pl S.L (wPF cyI cyZ cyO8866d cyO72d3f cyO7b988 S))[k]? = some (a, wPF cyI cyZ cyO8866d cyO72d3f cyO7b988 S a)) (v : Int32) : (X ++ va_pl S.L (wPF cyI cyZ cyO8866d cyO72d3f cyO7b988 S)).set k (a, .inr (6, [.int (S.O_ShardHarbourModel.f_thrown a), .int (S.O_ShardHarbourModel.f_hour a), .int (S.O_ShardHarbourModel.f_machines a), va_rf (S.O_ShardHarbourModel.f_room a), va_rf (S.O_ShardHarbourModel.f_isDown a), va_rf (S.O_ShardHarbourModel.f_quota a), va_rf (S.O_ShardHarbourModel.f_bill a), .int v, .int (S.O_ShardHarbourModel.f_logged a), .int (S.O_ShardHarbourModel.f_done a), .int (S.O_ShardHarbourModel.f_failed a), va_rf (S.O_ShardHarbourModel.f_owner a), va_rf (S.O_ShardHarbourModel.f_bytes a), .int (S.O_ShardHarbourModel.f_shards a), va_rf (S.O_ShardHarbourModel.f_first a), va_rf (S.O_ShardHarbourModel.f_on a), va_rf (S.O_ShardHarbourModel.f_to a), va_rf (S.O_ShardHarbourModel.f_next a), va_rf (S.O_ShardHarbourModel.f_left a), va_rf (S.O_ShardHarbourModel.f_heat a)])) = X ++ va_pl S.L (wPF cyI cyZ cyO8866d cyO72d3f cyO7b988 { S with O_ShardHarbourModel := { S.O_ShardHarbourModel with f_limit := va_up S.O_ShardHarbourModel.f_limit a v } }) := by
  rw [va_pl_set hD hL hk]
  exact congrArg (fun l => X ++ l) (va_pl_congr (wSt_O_ShardHarbourModel_f_limit cyI cyZ cyO8866d cyO72d3f cyO7b988 S h v))
theorem wSt_O_ShardHarbourModel_f_logged (cyI : ClassId) (cyZ : ClassId) (cyO8866d : ClassId) (cyO72d3f : ClassId) (cyO7b988 : ClassId) (S : wPS) {a : Nat} (h : S.K a = 6) (v : Int32) (b : Nat) : va_up (wPF cyI cyZ cyO8866d cyO72d3f cyO7b988 S) a (.inr (6, [.int (S.O_ShardHarbourModel.f_thrown a), .int (S.O_ShardHarbourModel.f_hour a), .int (S.O_ShardHarbourModel.f_machines a), va_rf (S.O_ShardHarbourModel.f_room a), va_rf (S.O_ShardHarbourModel.f_isDown a), va_rf (S.O_ShardHarbourModel.f_quota a), va_rf (S.O_ShardHarbourModel.f_bill a), .int (S.O_ShardHarbourModel.f_limit a), .int v, .int (S.O_ShardHarbourModel.f_done a), .int (S.O_ShardHarbourModel.f_failed a), va_rf (S.O_ShardHarbourModel.f_owner a), va_rf (S.O_ShardHarbourModel.f_bytes a), .int (S.O_ShardHarbourModel.f_shards a), va_rf (S.O_ShardHarbourModel.f_first a), va_rf (S.O_ShardHarbourModel.f_on a), va_rf (S.O_ShardHarbourModel.f_to a), va_rf (S.O_ShardHarbourModel.f_next a), va_rf (S.O_ShardHarbourModel.f_left a), va_rf (S.O_ShardHarbourModel.f_heat a)])) b = wPF cyI cyZ cyO8866d cyO72d3f cyO7b988 { S with O_ShardHarbourModel := { S.O_ShardHarbourModel with f_logged := va_up S.O_ShardHarbourModel.f_logged a v } } b := by by_cases hb : b = a <;> first | (simp only [wPF, va_up_ne _ _ hb]; done) | (simp only [wPF, va_up, if_neg hb]; done) | simp [wPF, va_re, va_up, va_rf, hb, h]
theorem wPu_O_ShardHarbourModel_f_logged (cyI : ClassId) (cyZ : ClassId) (cyO8866d : ClassId) (cyO72d3f : ClassId) (cyO7b988 : ClassId) (X : va_W) (S : wPS) {A : Nat → Prop} {a k : Nat} (hD : va_D A (X ++ va_pl S.L (wPF cyI cyZ cyO8866d cyO72d3f cyO7b988 S))) (hL : a ∈ S.L) (h : S.K a = 6) (hk : (X ++ va_pl S.L (wPF cyI cyZ cyO8866d cyO72d3f cyO7b988 S))[k]? = some (a, wPF cyI cyZ cyO8866d cyO72d3f cyO7b988 S a)) (v : Int32) : (X ++ va_pl S.L (wPF cyI cyZ cyO8866d cyO72d3f cyO7b988 S)).set k (a, .inr (6, [.int (S.O_ShardHarbourModel.f_thrown a), .int (S.O_ShardHarbourModel.f_hour a), .int (S.O_ShardHarbourModel.f_machines a), va_rf (S.O_ShardHarbourModel.f_room a), va_rf (S.O_ShardHarbourModel.f_isDown a), va_rf (S.O_ShardHarbourModel.f_quota a), va_rf (S.O_ShardHarbourModel.f_bill a), .int (S.O_ShardHarbourModel.f_limit a), .int v, .int (S.O_ShardHarbourModel.f_done a), .int (S.O_ShardHarbourModel.f_failed a), va_rf (S.O_ShardHarbourModel.f_owner a), va_rf (S.O_ShardHarbourModel.f_bytes a), .int (S.O_ShardHarbourModel.f_shards a), va_rf (S.O_ShardHarbourModel.f_first a), va_rf (S.O_ShardHarbourModel.f_on a), va_rf (S.O_ShardHarbourModel.f_to a), va_rf (S.O_ShardHarbourModel.f_next a), va_rf (S.O_ShardHarbourModel.f_left a), va_rf (S.O_ShardHarbourModel.f_heat a)])) = X ++ va_pl S.L (wPF cyI cyZ cyO8866d cyO72d3f cyO7b988 { S with O_ShardHarbourModel := { S.O_ShardHarbourModel with f_logged := va_up S.O_ShardHarbourModel.f_logged a v } }) := by
  rw [va_pl_set hD hL hk]
  exact congrArg (fun l => X ++ l) (va_pl_congr (wSt_O_ShardHarbourModel_f_logged cyI cyZ cyO8866d cyO72d3f cyO7b988 S h v))
theorem wSt_O_ShardHarbourModel_f_done (cyI : ClassId) (cyZ : ClassId) (cyO8866d : ClassId) (cyO72d3f : ClassId) (cyO7b988 : ClassId) (S : wPS) {a : Nat} (h : S.K a = 6) (v : Int32) (b : Nat) : va_up (wPF cyI cyZ cyO8866d cyO72d3f cyO7b988 S) a (.inr (6, [.int (S.O_ShardHarbourModel.f_thrown a), .int (S.O_ShardHarbourModel.f_hour a), .int (S.O_ShardHarbourModel.f_machines a), va_rf (S.O_ShardHarbourModel.f_room a), va_rf (S.O_ShardHarbourModel.f_isDown a), va_rf (S.O_ShardHarbourModel.f_quota a), va_rf (S.O_ShardHarbourModel.f_bill a), .int (S.O_ShardHarbourModel.f_limit a), .int (S.O_ShardHarbourModel.f_logged a), .int v, .int (S.O_ShardHarbourModel.f_failed a), va_rf (S.O_ShardHarbourModel.f_owner a), va_rf (S.O_ShardHarbourModel.f_bytes a), .int (S.O_ShardHarbourModel.f_shards a), va_rf (S.O_ShardHarbourModel.f_first a), va_rf (S.O_ShardHarbourModel.f_on a), va_rf (S.O_ShardHarbourModel.f_to a), va_rf (S.O_ShardHarbourModel.f_next a), va_rf (S.O_ShardHarbourModel.f_left a), va_rf (S.O_ShardHarbourModel.f_heat a)])) b = wPF cyI cyZ cyO8866d cyO72d3f cyO7b988 { S with O_ShardHarbourModel := { S.O_ShardHarbourModel with f_done := va_up S.O_ShardHarbourModel.f_done a v } } b := by by_cases hb : b = a <;> first | (simp only [wPF, va_up_ne _ _ hb]; done) | (simp only [wPF, va_up, if_neg hb]; done) | simp [wPF, va_re, va_up, va_rf, hb, h]
theorem wPu_O_ShardHarbourModel_f_done (cyI : ClassId) (cyZ : ClassId) (cyO8866d : ClassId) (cyO72d3f : ClassId) (cyO7b988 : ClassId) (X : va_W) (S : wPS) {A : Nat → Prop} {a k : Nat} (hD : va_D A (X ++ va_pl S.L (wPF cyI cyZ cyO8866d cyO72d3f cyO7b988 S))) (hL : a ∈ S.L) (h : S.K a = 6) (hk : (X ++ va_pl S.L (wPF cyI cyZ cyO8866d cyO72d3f cyO7b988 S))[k]? = some (a, wPF cyI cyZ cyO8866d cyO72d3f cyO7b988 S a)) (v : Int32) : (X ++ va_pl S.L (wPF cyI cyZ cyO8866d cyO72d3f cyO7b988 S)).set k (a, .inr (6, [.int (S.O_ShardHarbourModel.f_thrown a), .int (S.O_ShardHarbourModel.f_hour a), .int (S.O_ShardHarbourModel.f_machines a), va_rf (S.O_ShardHarbourModel.f_room a), va_rf (S.O_ShardHarbourModel.f_isDown a), va_rf (S.O_ShardHarbourModel.f_quota a), va_rf (S.O_ShardHarbourModel.f_bill a), .int (S.O_ShardHarbourModel.f_limit a), .int (S.O_ShardHarbourModel.f_logged a), .int v, .int (S.O_ShardHarbourModel.f_failed a), va_rf (S.O_ShardHarbourModel.f_owner a), va_rf (S.O_ShardHarbourModel.f_bytes a), .int (S.O_ShardHarbourModel.f_shards a), va_rf (S.O_ShardHarbourModel.f_first a), va_rf (S.O_ShardHarbourModel.f_on a), va_rf (S.O_ShardHarbourModel.f_to a), va_rf (S.O_ShardHarbourModel.f_next a), va_rf (S.O_ShardHarbourModel.f_left a), va_rf (S.O_ShardHarbourModel.f_heat a)])) = X ++ va_pl S.L (wPF cyI cyZ cyO8866d cyO72d3f cyO7b988 { S with O_ShardHarbourModel := { S.O_ShardHarbourModel with f_done := va_up S.O_ShardHarbourModel.f_done a v } }) := by
  rw [va_pl_set hD hL hk]
  exact congrArg (fun l => X ++ l) (va_pl_congr (wSt_O_ShardHarbourModel_f_done cyI cyZ cyO8866d cyO72d3f cyO7b988 S h v))
theorem wSt_O_ShardHarbourModel_f_failed (cyI : ClassId) (cyZ : ClassId) (cyO8866d : ClassId) (cyO72d3f : ClassId) (cyO7b988 : ClassId) (S : wPS) {a : Nat} (h : S.K a = 6) (v : Int32) (b : Nat) : va_up (wPF cyI cyZ cyO8866d cyO72d3f cyO7b988 S) a (.inr (6, [.int (S.O_ShardHarbourModel.f_thrown a), .int (S.O_ShardHarbourModel.f_hour a), .int (S.O_ShardHarbourModel.f_machines a), va_rf (S.O_ShardHarbourModel.f_room a), va_rf (S.O_ShardHarbourModel.f_isDown a), va_rf (S.O_ShardHarbourModel.f_quota a), va_rf (S.O_ShardHarbourModel.f_bill a), .int (S.O_ShardHarbourModel.f_limit a), .int (S.O_ShardHarbourModel.f_logged a), .int (S.O_ShardHarbourModel.f_done a), .int v, va_rf (S.O_ShardHarbourModel.f_owner a), va_rf (S.O_ShardHarbourModel.f_bytes a), .int (S.O_ShardHarbourModel.f_shards a), va_rf (S.O_ShardHarbourModel.f_first a), va_rf (S.O_ShardHarbourModel.f_on a), va_rf (S.O_ShardHarbourModel.f_to a), va_rf (S.O_ShardHarbourModel.f_next a), va_rf (S.O_ShardHarbourModel.f_left a), va_rf (S.O_ShardHarbourModel.f_heat a)])) b = wPF cyI cyZ cyO8866d cyO72d3f cyO7b988 { S with O_ShardHarbourModel := { S.O_ShardHarbourModel with f_failed := va_up S.O_ShardHarbourModel.f_failed a v } } b := by by_cases hb : b = a <;> first | (simp only [wPF, va_up_ne _ _ hb]; done) | (simp only [wPF, va_up, if_neg hb]; done) | simp [wPF, va_re, va_up, va_rf, hb, h]
theorem wPu_O_ShardHarbourModel_f_failed (cyI : ClassId) (cyZ : ClassId) (cyO8866d : ClassId) (cyO72d3f : ClassId) (cyO7b988 : ClassId) (X : va_W) (S : wPS) {A : Nat → Prop} {a k : Nat} (hD : va_D A (X ++ va_pl S.L (wPF cyI cyZ cyO8866d cyO72d3f cyO7b988 S))) (hL : a ∈ S.L) (h : S.K a = 6) (hk : (X ++ va_pl S.L (wPF cyI cyZ cyO8866d cyO72d3f cyO7b988 S))[k]? = some (a, wPF cyI cyZ cyO8866d cyO72d3f cyO7b988 S a)) (v : Int32) : (X ++ va_pl S.L (wPF cyI cyZ cyO8866d cyO72d3f cyO7b988 S)).set k (a, .inr (6, [.int (S.O_ShardHarbourModel.f_thrown a), .int (S.O_ShardHarbourModel.f_hour a), .int (S.O_ShardHarbourModel.f_machines a), va_rf (S.O_ShardHarbourModel.f_room a), va_rf (S.O_ShardHarbourModel.f_isDown a), va_rf (S.O_ShardHarbourModel.f_quota a), va_rf (S.O_ShardHarbourModel.f_bill a), .int (S.O_ShardHarbourModel.f_limit a), .int (S.O_ShardHarbourModel.f_logged a), .int (S.O_ShardHarbourModel.f_done a), .int v, va_rf (S.O_ShardHarbourModel.f_owner a), va_rf (S.O_ShardHarbourModel.f_bytes a), .int (S.O_ShardHarbourModel.f_shards a), va_rf (S.O_ShardHarbourModel.f_first a), va_rf (S.O_ShardHarbourModel.f_on a), va_rf (S.O_ShardHarbourModel.f_to a), va_rf (S.O_ShardHarbourModel.f_next a), va_rf (S.O_ShardHarbourModel.f_left a), va_rf (S.O_ShardHarbourModel.f_heat a)])) = X ++ va_pl S.L (wPF cyI cyZ cyO8866d cyO72d3f cyO7b988 { S with O_ShardHarbourModel := { S.O_ShardHarbourModel with f_failed := va_up S.O_ShardHarbourModel.f_failed a v } }) := by
  rw [va_pl_set hD hL hk]
  exact congrArg (fun l => X ++ l) (va_pl_congr (wSt_O_ShardHarbourModel_f_failed cyI cyZ cyO8866d cyO72d3f cyO7b988 S h v))
theorem wSt_O_ShardHarbourModel_f_owner (cyI : ClassId) (cyZ : ClassId) (cyO8866d : ClassId) (cyO72d3f : ClassId) (cyO7b988 : ClassId) (S : wPS) {a : Nat} (h : S.K a = 6) (v : Option Nat) (b : Nat) : va_up (wPF cyI cyZ cyO8866d cyO72d3f cyO7b988 S) a (.inr (6, [.int (S.O_ShardHarbourModel.f_thrown a), .int (S.O_ShardHarbourModel.f_hour a), .int (S.O_ShardHarbourModel.f_machines a), va_rf (S.O_ShardHarbourModel.f_room a), va_rf (S.O_ShardHarbourModel.f_isDown a), va_rf (S.O_ShardHarbourModel.f_quota a), va_rf (S.O_ShardHarbourModel.f_bill a), .int (S.O_ShardHarbourModel.f_limit a), .int (S.O_ShardHarbourModel.f_logged a), .int (S.O_ShardHarbourModel.f_done a), .int (S.O_ShardHarbourModel.f_failed a), va_rf v, va_rf (S.O_ShardHarbourModel.f_bytes a), .int (S.O_ShardHarbourModel.f_shards a), va_rf (S.O_ShardHarbourModel.f_first a), va_rf (S.O_ShardHarbourModel.f_on a), va_rf (S.O_ShardHarbourModel.f_to a), va_rf (S.O_ShardHarbourModel.f_next a), va_rf (S.O_ShardHarbourModel.f_left a), va_rf (S.O_ShardHarbourModel.f_heat a)])) b = wPF cyI cyZ cyO8866d cyO72d3f cyO7b988 { S with O_ShardHarbourModel := { S.O_ShardHarbourModel with f_owner := va_up S.O_ShardHarbourModel.f_owner a v } } b := by by_cases hb : b = a <;> first | (simp only [wPF, va_up_ne _ _ hb]; done) | (simp only [wPF, va_up, if_neg hb]; done) | simp [wPF, va_re, va_up, va_rf, hb, h]
theorem wPu_O_ShardHarbourModel_f_owner (cyI : ClassId) (cyZ : ClassId) (cyO8866d : ClassId) (cyO72d3f : ClassId) (cyO7b988 : ClassId) (X : va_W) (S : wPS) {A : Nat → Prop} {a k : Nat} (hD : va_D A (X ++ va_pl S.L (wPF cyI cyZ cyO8866d cyO72d3f cyO7b988 S))) (hL : a ∈ S.L) (h : S.K a = 6) (hk : (X ++ va_pl S.L (wPF cyI cyZ cyO8866d cyO72d3f cyO7b988 S))[k]? = some (a, wPF cyI cyZ cyO8866d cyO72d3f cyO7b988 S a)) (v : Option Nat) : (X ++ va_pl S.L (wPF cyI cyZ cyO8866d cyO72d3f cyO7b988 S)).set k (a, .inr (6, [.int (S.O_ShardHarbourModel.f_thrown a), .int (S.O_ShardHarbourModel.f_hour a), .int (S.O_ShardHarbourModel.f_machines a), va_rf (S.O_ShardHarbourModel.f_room a), va_rf (S.O_ShardHarbourModel.f_isDown a), va_rf (S.O_ShardHarbourModel.f_quota a), va_rf (S.O_ShardHarbourModel.f_bill a), .int (S.O_ShardHarbourModel.f_limit a), .int (S.O_ShardHarbourModel.f_logged a), .int (S.O_ShardHarbourModel.f_done a), .int (S.O_ShardHarbourModel.f_failed a), va_rf v, va_rf (S.O_ShardHarbourModel.f_bytes a), .int (S.O_ShardHarbourModel.f_shards a), va_rf (S.O_ShardHarbourModel.f_first a), va_rf (S.O_ShardHarbourModel.f_on a), va_rf (S.O_ShardHarbourModel.f_to a), va_rf (S.O_ShardHarbourModel.f_next a), va_rf (S.O_ShardHarbourModel.f_left a), va_rf (S.O_ShardHarbourModel.f_heat a)])) = X ++ va_pl S.L (wPF cyI cyZ cyO8866d cyO72d3f cyO7b988 { S with O_ShardHarbourModel := { S.O_ShardHarbourModel with f_owner := va_up S.O_ShardHarbourModel.f_owner a v } }) := by
  rw [va_pl_set hD hL hk]
  exact congrArg (fun l => X ++ l) (va_pl_congr (wSt_O_ShardHarbourModel_f_owner cyI cyZ cyO8866d cyO72d3f cyO7b988 S h v))
theorem wSt_O_ShardHarbourModel_f_bytes (cyI : ClassId) (cyZ : ClassId) (cyO8866d : ClassId) (cyO72d3f : ClassId) (cyO7b988 : ClassId) (S : wPS) {a : Nat} (h : S.K a = 6) (v : Option Nat) (b : Nat) : va_up (wPF cyI cyZ cyO8866d cyO72d3f cyO7b988 S) a (.inr (6, [.int (S.O_ShardHarbourModel.f_thrown a), .int (S.O_ShardHarbourModel.f_hour a), .int (S.O_ShardHarbourModel.f_machines a), va_rf (S.O_ShardHarbourModel.f_room a), va_rf (S.O_ShardHarbourModel.f_isDown a), va_rf (S.O_ShardHarbourModel.f_quota a), va_rf (S.O_ShardHarbourModel.f_bill a), .int (S.O_ShardHarbourModel.f_limit a), .int (S.O_ShardHarbourModel.f_logged a), .int (S.O_ShardHarbourModel.f_done a), .int (S.O_ShardHarbourModel.f_failed a), va_rf (S.O_ShardHarbourModel.f_owner a), va_rf v, .int (S.O_ShardHarbourModel.f_shards a), va_rf (S.O_ShardHarbourModel.f_first a), va_rf (S.O_ShardHarbourModel.f_on a), va_rf (S.O_ShardHarbourModel.f_to a), va_rf (S.O_ShardHarbourModel.f_next a), va_rf (S.O_ShardHarbourModel.f_left a), va_rf (S.O_ShardHarbourModel.f_heat a)])) b = wPF cyI cyZ cyO8866d cyO72d3f cyO7b988 { S with O_ShardHarbourModel := { S.O_ShardHarbourModel with f_bytes := va_up S.O_ShardHarbourModel.f_bytes a v } } b := by by_cases hb : b = a <;> first | (simp only [wPF, va_up_ne _ _ hb]; done) | (simp only [wPF, va_up, if_neg hb]; done) | simp [wPF, va_re, va_up, va_rf, hb, h]
theorem wPu_O_ShardHarbourModel_f_bytes (cyI : ClassId) (cyZ : ClassId) (cyO8866d : ClassId) (cyO72d3f : ClassId) (cyO7b988 : ClassId) (X : va_W) (S : wPS) {A : Nat → Prop} {a k : Nat} (hD : va_D A (X ++ va_pl S.L (wPF cyI cyZ cyO8866d cyO72d3f cyO7b988 S))) (hL : a ∈ S.L) (h : S.K a = 6) (hk : (X ++ va_pl S.L (wPF cyI cyZ cyO8866d cyO72d3f cyO7b988 S))[k]? = some (a, wPF cyI cyZ cyO8866d cyO72d3f cyO7b988 S a)) (v : Option Nat) : (X ++ va_pl S.L (wPF cyI cyZ cyO8866d cyO72d3f cyO7b988 S)).set k (a, .inr (6, [.int (S.O_ShardHarbourModel.f_thrown a), .int (S.O_ShardHarbourModel.f_hour a), .int (S.O_ShardHarbourModel.f_machines a), va_rf (S.O_ShardHarbourModel.f_room a), va_rf (S.O_ShardHarbourModel.f_isDown a), va_rf (S.O_ShardHarbourModel.f_quota a), va_rf (S.O_ShardHarbourModel.f_bill a), .int (S.O_ShardHarbourModel.f_limit a), .int (S.O_ShardHarbourModel.f_logged a), .int (S.O_ShardHarbourModel.f_done a), .int (S.O_ShardHarbourModel.f_failed a), va_rf (S.O_ShardHarbourModel.f_owner a), va_rf v, .int (S.O_ShardHarbourModel.f_shards a), va_rf (S.O_ShardHarbourModel.f_first a), va_rf (S.O_ShardHarbourModel.f_on a), va_rf (S.O_ShardHarbourModel.f_to a), va_rf (S.O_ShardHarbourModel.f_next a), va_rf (S.O_ShardHarbourModel.f_left a), va_rf (S.O_ShardHarbourModel.f_heat a)])) = X ++ va_pl S.L (wPF cyI cyZ cyO8866d cyO72d3f cyO7b988 { S with O_ShardHarbourModel := { S.O_ShardHarbourModel with f_bytes := va_up S.O_ShardHarbourModel.f_bytes a v } }) := by
  rw [va_pl_set hD hL hk]
  exact congrArg (fun l => X ++ l) (va_pl_congr (wSt_O_ShardHarbourModel_f_bytes cyI cyZ cyO8866d cyO72d3f cyO7b988 S h v))
theorem wSt_O_ShardHarbourModel_f_shards (cyI : ClassId) (cyZ : ClassId) (cyO8866d : ClassId) (cyO72d3f : ClassId) (cyO7b988 : ClassId) (S : wPS) {a : Nat} (h : S.K a = 6) (v : Int32) (b : Nat) : va_up (wPF cyI cyZ cyO8866d cyO72d3f cyO7b988 S) a (.inr (6, [.int (S.O_ShardHarbourModel.f_thrown a), .int (S.O_ShardHarbourModel.f_hour a), .int (S.O_ShardHarbourModel.f_machines a), va_rf (S.O_ShardHarbourModel.f_room a), va_rf (S.O_ShardHarbourModel.f_isDown a), va_rf (S.O_ShardHarbourModel.f_quota a), va_rf (S.O_ShardHarbourModel.f_bill a), .int (S.O_ShardHarbourModel.f_limit a), .int (S.O_ShardHarbourModel.f_logged a), .int (S.O_ShardHarbourModel.f_done a), .int (S.O_ShardHarbourModel.f_failed a), va_rf (S.O_ShardHarbourModel.f_owner a), va_rf (S.O_ShardHarbourModel.f_bytes a), .int v, va_rf (S.O_ShardHarbourModel.f_first a), va_rf (S.O_ShardHarbourModel.f_on a), va_rf (S.O_ShardHarbourModel.f_to a), va_rf (S.O_ShardHarbourModel.f_next a), va_rf (S.O_ShardHarbourModel.f_left a), va_rf (S.O_ShardHarbourModel.f_heat a)])) b = wPF cyI cyZ cyO8866d cyO72d3f cyO7b988 { S with O_ShardHarbourModel := { S.O_ShardHarbourModel with f_shards := va_up S.O_ShardHarbourModel.f_shards a v } } b := by by_cases hb : b = a <;> first | (simp only [wPF, va_up_ne _ _ hb]; done) | (simp only [wPF, va_up, if_neg hb]; done) | simp [wPF, va_re, va_up, va_rf, hb, h]
theorem wPu_O_ShardHarbourModel_f_shards (cyI : ClassId) (cyZ : ClassId) (cyO8866d : ClassId) (cyO72d3f : ClassId) (cyO7b988 : ClassId) (X : va_W) (S : wPS) {A : Nat → Prop} {a k : Nat} (hD : va_D A (X ++ va_pl S.L (wPF cyI cyZ cyO8866d cyO72d3f cyO7b988 S))) (hL : a ∈ S.L) (h : S.K a = 6) (hk : (X ++ va_pl S.L (wPF cyI cyZ cyO8866d cyO72d3f cyO7b988 S))[k]? = some (a, wPF cyI cyZ cyO8866d cyO72d3f cyO7b988 S a)) (v : Int32) : (X ++ va_pl S.L (wPF cyI cyZ cyO8866d cyO72d3f cyO7b988 S)).set k (a, .inr (6, [.int (S.O_ShardHarbourModel.f_thrown a), .int (S.O_ShardHarbourModel.f_hour a), .int (S.O_ShardHarbourModel.f_machines a), va_rf (S.O_ShardHarbourModel.f_room a), va_rf (S.O_ShardHarbourModel.f_isDown a), va_rf (S.O_ShardHarbourModel.f_quota a), va_rf (S.O_ShardHarbourModel.f_bill a), .int (S.O_ShardHarbourModel.f_limit a), .int (S.O_ShardHarbourModel.f_logged a), .int (S.O_ShardHarbourModel.f_done a), .int (S.O_ShardHarbourModel.f_failed a), va_rf (S.O_ShardHarbourModel.f_owner a), va_rf (S.O_ShardHarbourModel.f_bytes a), .int v, va_rf (S.O_ShardHarbourModel.f_first a), va_rf (S.O_ShardHarbourModel.f_on a), va_rf (S.O_ShardHarbourModel.f_to a), va_rf (S.O_ShardHarbourModel.f_next a), va_rf (S.O_ShardHarbourModel.f_left a), va_rf (S.O_ShardHarbourModel.f_heat a)])) = X ++ va_pl S.L (wPF cyI cyZ cyO8866d cyO72d3f cyO7b988 { S with O_ShardHarbourModel := { S.O_ShardHarbourModel with f_shards := va_up S.O_ShardHarbourModel.f_shards a v } }) := by
  rw [va_pl_set hD hL hk]
  exact congrArg (fun l => X ++ l) (va_pl_congr (wSt_O_ShardHarbourModel_f_shards cyI cyZ cyO8866d cyO72d3f cyO7b988 S h v))
theorem wSt_O_ShardHarbourModel_f_first (cyI : ClassId) (cyZ : ClassId) (cyO8866d : ClassId) (cyO72d3f : ClassId) (cyO7b988 : ClassId) (S : wPS) {a : Nat} (h : S.K a = 6) (v : Option Nat) (b : Nat) : va_up (wPF cyI cyZ cyO8866d cyO72d3f cyO7b988 S) a (.inr (6, [.int (S.O_ShardHarbourModel.f_thrown a), .int (S.O_ShardHarbourModel.f_hour a), .int (S.O_ShardHarbourModel.f_machines a), va_rf (S.O_ShardHarbourModel.f_room a), va_rf (S.O_ShardHarbourModel.f_isDown a), va_rf (S.O_ShardHarbourModel.f_quota a), va_rf (S.O_ShardHarbourModel.f_bill a), .int (S.O_ShardHarbourModel.f_limit a), .int (S.O_ShardHarbourModel.f_logged a), .int (S.O_ShardHarbourModel.f_done a), .int (S.O_ShardHarbourModel.f_failed a), va_rf (S.O_ShardHarbourModel.f_owner a), va_rf (S.O_ShardHarbourModel.f_bytes a), .int (S.O_ShardHarbourModel.f_shards a), va_rf v, va_rf (S.O_ShardHarbourModel.f_on a), va_rf (S.O_ShardHarbourModel.f_to a), va_rf (S.O_ShardHarbourModel.f_next a), va_rf (S.O_ShardHarbourModel.f_left a), va_rf (S.O_ShardHarbourModel.f_heat a)])) b = wPF cyI cyZ cyO8866d cyO72d3f cyO7b988 { S with O_ShardHarbourModel := { S.O_ShardHarbourModel with f_first := va_up S.O_ShardHarbourModel.f_first a v } } b := by by_cases hb : b = a <;> first | (simp only [wPF, va_up_ne _ _ hb]; done) | (simp only [wPF, va_up, if_neg hb]; done) | simp [wPF, va_re, va_up, va_rf, hb, h]
theorem wPu_O_ShardHarbourModel_f_first (cyI : ClassId) (cyZ : ClassId) (cyO8866d : ClassId) (cyO72d3f : ClassId) (cyO7b988 : ClassId) (X : va_W) (S : wPS) {A : Nat → Prop} {a k : Nat} (hD : va_D A (X ++ va_pl S.L (wPF cyI cyZ cyO8866d cyO72d3f cyO7b988 S))) (hL : a ∈ S.L) (h : S.K a = 6) (hk : (X ++ va_pl S.L (wPF cyI cyZ cyO8866d cyO72d3f cyO7b988 S))[k]? = some (a, wPF cyI cyZ cyO8866d cyO72d3f cyO7b988 S a)) (v : Option Nat) : (X ++ va_pl S.L (wPF cyI cyZ cyO8866d cyO72d3f cyO7b988 S)).set k (a, .inr (6, [.int (S.O_ShardHarbourModel.f_thrown a), .int (S.O_ShardHarbourModel.f_hour a), .int (S.O_ShardHarbourModel.f_machines a), va_rf (S.O_ShardHarbourModel.f_room a), va_rf (S.O_ShardHarbourModel.f_isDown a), va_rf (S.O_ShardHarbourModel.f_quota a), va_rf (S.O_ShardHarbourModel.f_bill a), .int (S.O_ShardHarbourModel.f_limit a), .int (S.O_ShardHarbourModel.f_logged a), .int (S.O_ShardHarbourModel.f_done a), .int (S.O_ShardHarbourModel.f_failed a), va_rf (S.O_ShardHarbourModel.f_owner a), va_rf (S.O_ShardHarbourModel.f_bytes a), .int (S.O_ShardHarbourModel.f_shards a), va_rf v, va_rf (S.O_ShardHarbourModel.f_on a), va_rf (S.O_ShardHarbourModel.f_to a), va_rf (S.O_ShardHarbourModel.f_next a), va_rf (S.O_ShardHarbourModel.f_left a), va_rf (S.O_ShardHarbourModel.f_heat a)])) = X ++ va_pl S.L (wPF cyI cyZ cyO8866d cyO72d3f cyO7b988 { S with O_ShardHarbourModel := { S.O_ShardHarbourModel with f_first := va_up S.O_ShardHarbourModel.f_first a v } }) := by
  rw [va_pl_set hD hL hk]
  exact congrArg (fun l => X ++ l) (va_pl_congr (wSt_O_ShardHarbourModel_f_first cyI cyZ cyO8866d cyO72d3f cyO7b988 S h v))
theorem wSt_O_ShardHarbourModel_f_on (cyI : ClassId) (cyZ : ClassId) (cyO8866d : ClassId) (cyO72d3f : ClassId) (cyO7b988 : ClassId) (S : wPS) {a : Nat} (h : S.K a = 6) (v : Option Nat) (b : Nat) : va_up (wPF cyI cyZ cyO8866d cyO72d3f cyO7b988 S) a (.inr (6, [.int (S.O_ShardHarbourModel.f_thrown a), .int (S.O_ShardHarbourModel.f_hour a), .int (S.O_ShardHarbourModel.f_machines a), va_rf (S.O_ShardHarbourModel.f_room a), va_rf (S.O_ShardHarbourModel.f_isDown a), va_rf (S.O_ShardHarbourModel.f_quota a), va_rf (S.O_ShardHarbourModel.f_bill a), .int (S.O_ShardHarbourModel.f_limit a), .int (S.O_ShardHarbourModel.f_logged a), .int (S.O_ShardHarbourModel.f_done a), .int (S.O_ShardHarbourModel.f_failed a), va_rf (S.O_ShardHarbourModel.f_owner a), va_rf (S.O_ShardHarbourModel.f_bytes a), .int (S.O_ShardHarbourModel.f_shards a), va_rf (S.O_ShardHarbourModel.f_first a), va_rf v, va_rf (S.O_ShardHarbourModel.f_to a), va_rf (S.O_ShardHarbourModel.f_next a), va_rf (S.O_ShardHarbourModel.f_left a), va_rf (S.O_ShardHarbourModel.f_heat a)])) b = wPF cyI cyZ cyO8866d cyO72d3f cyO7b988 { S with O_ShardHarbourModel := { S.O_ShardHarbourModel with f_on := va_up S.O_ShardHarbourModel.f_on a v } } b := by by_cases hb : b = a <;> first | (simp only [wPF, va_up_ne _ _ hb]; done) | (simp only [wPF, va_up, if_neg hb]; done) | simp [wPF, va_re, va_up, va_rf, hb, h]
theorem wPu_O_ShardHarbourModel_f_on (cyI : ClassId) (cyZ : ClassId) (cyO8866d : ClassId) (cyO72d3f : ClassId) (cyO7b988 : ClassId) (X : va_W) (S : wPS) {A : Nat → Prop} {a k : Nat} (hD : va_D A (X ++ va_pl S.L (wPF cyI cyZ cyO8866d cyO72d3f cyO7b988 S))) (hL : a ∈ S.L) (h : S.K a = 6) (hk : (X ++ va_pl S.L (wPF cyI cyZ cyO8866d cyO72d3f cyO7b988 S))[k]? = some (a, wPF cyI cyZ cyO8866d cyO72d3f cyO7b988 S a)) (v : Option Nat) : (X ++ va_pl S.L (wPF cyI cyZ cyO8866d cyO72d3f cyO7b988 S)).set k (a, .inr (6, [.int (S.O_ShardHarbourModel.f_thrown a), .int (S.O_ShardHarbourModel.f_hour a), .int (S.O_ShardHarbourModel.f_machines a), va_rf (S.O_ShardHarbourModel.f_room a), va_rf (S.O_ShardHarbourModel.f_isDown a), va_rf (S.O_ShardHarbourModel.f_quota a), va_rf (S.O_ShardHarbourModel.f_bill a), .int (S.O_ShardHarbourModel.f_limit a), .int (S.O_ShardHarbourModel.f_logged a), .int (S.O_ShardHarbourModel.f_done a), .int (S.O_ShardHarbourModel.f_failed a), va_rf (S.O_ShardHarbourModel.f_owner a), va_rf (S.O_ShardHarbourModel.f_bytes a), .int (S.O_ShardHarbourModel.f_shards a), va_rf (S.O_ShardHarbourModel.f_first a), va_rf v, va_rf (S.O_ShardHarbourModel.f_to a), va_rf (S.O_ShardHarbourModel.f_next a), va_rf (S.O_ShardHarbourModel.f_left a), va_rf (S.O_ShardHarbourModel.f_heat a)])) = X ++ va_pl S.L (wPF cyI cyZ cyO8866d cyO72d3f cyO7b988 { S with O_ShardHarbourModel := { S.O_ShardHarbourModel with f_on := va_up S.O_ShardHarbourModel.f_on a v } }) := by
  rw [va_pl_set hD hL hk]
  exact congrArg (fun l => X ++ l) (va_pl_congr (wSt_O_ShardHarbourModel_f_on cyI cyZ cyO8866d cyO72d3f cyO7b988 S h v))
theorem wSt_O_ShardHarbourModel_f_to (cyI : ClassId) (cyZ : ClassId) (cyO8866d : ClassId) (cyO72d3f : ClassId) (cyO7b988 : ClassId) (S : wPS) {a : Nat} (h : S.K a = 6) (v : Option Nat) (b : Nat) : va_up (wPF cyI cyZ cyO8866d cyO72d3f cyO7b988 S) a (.inr (6, [.int (S.O_ShardHarbourModel.f_thrown a), .int (S.O_ShardHarbourModel.f_hour a), .int (S.O_ShardHarbourModel.f_machines a), va_rf (S.O_ShardHarbourModel.f_room a), va_rf (S.O_ShardHarbourModel.f_isDown a), va_rf (S.O_ShardHarbourModel.f_quota a), va_rf (S.O_ShardHarbourModel.f_bill a), .int (S.O_ShardHarbourModel.f_limit a), .int (S.O_ShardHarbourModel.f_logged a), .int (S.O_ShardHarbourModel.f_done a), .int (S.O_ShardHarbourModel.f_failed a), va_rf (S.O_ShardHarbourModel.f_owner a), va_rf (S.O_ShardHarbourModel.f_bytes a), .int (S.O_ShardHarbourModel.f_shards a), va_rf (S.O_ShardHarbourModel.f_first a), va_rf (S.O_ShardHarbourModel.f_on a), va_rf v, va_rf (S.O_ShardHarbourModel.f_next a), va_rf (S.O_ShardHarbourModel.f_left a), va_rf (S.O_ShardHarbourModel.f_heat a)])) b = wPF cyI cyZ cyO8866d cyO72d3f cyO7b988 { S with O_ShardHarbourModel := { S.O_ShardHarbourModel with f_to := va_up S.O_ShardHarbourModel.f_to a v } } b := by by_cases hb : b = a <;> first | (simp only [wPF, va_up_ne _ _ hb]; done) | (simp only [wPF, va_up, if_neg hb]; done) | simp [wPF, va_re, va_up, va_rf, hb, h]
theorem wPu_O_ShardHarbourModel_f_to (cyI : ClassId) (cyZ : ClassId) (cyO8866d : ClassId) (cyO72d3f : ClassId) (cyO7b988 : ClassId) (X : va_W) (S : wPS) {A : Nat → Prop} {a k : Nat} (hD : va_D A (X ++ va_pl S.L (wPF cyI cyZ cyO8866d cyO72d3f cyO7b988 S))) (hL : a ∈ S.L) (h : S.K a = 6) (hk : (X ++ va_pl S.L (wPF cyI cyZ cyO8866d cyO72d3f cyO7b988 S))[k]? = some (a, wPF cyI cyZ cyO8866d cyO72d3f cyO7b988 S a)) (v : Option Nat) : (X ++ va_pl S.L (wPF cyI cyZ cyO8866d cyO72d3f cyO7b988 S)).set k (a, .inr (6, [.int (S.O_ShardHarbourModel.f_thrown a), .int (S.O_ShardHarbourModel.f_hour a), .int (S.O_ShardHarbourModel.f_machines a), va_rf (S.O_ShardHarbourModel.f_room a), va_rf (S.O_ShardHarbourModel.f_isDown a), va_rf (S.O_ShardHarbourModel.f_quota a), va_rf (S.O_ShardHarbourModel.f_bill a), .int (S.O_ShardHarbourModel.f_limit a), .int (S.O_ShardHarbourModel.f_logged a), .int (S.O_ShardHarbourModel.f_done a), .int (S.O_ShardHarbourModel.f_failed a), va_rf (S.O_ShardHarbourModel.f_owner a), va_rf (S.O_ShardHarbourModel.f_bytes a), .int (S.O_ShardHarbourModel.f_shards a), va_rf (S.O_ShardHarbourModel.f_first a), va_rf (S.O_ShardHarbourModel.f_on a), va_rf v, va_rf (S.O_ShardHarbourModel.f_next a), va_rf (S.O_ShardHarbourModel.f_left a), va_rf (S.O_ShardHarbourModel.f_heat a)])) = X ++ va_pl S.L (wPF cyI cyZ cyO8866d cyO72d3f cyO7b988 { S with O_ShardHarbourModel := { S.O_ShardHarbourModel with f_to := va_up S.O_ShardHarbourModel.f_to a v } }) := by
  rw [va_pl_set hD hL hk]
  exact congrArg (fun l => X ++ l) (va_pl_congr (wSt_O_ShardHarbourModel_f_to cyI cyZ cyO8866d cyO72d3f cyO7b988 S h v))
theorem wSt_O_ShardHarbourModel_f_next (cyI : ClassId) (cyZ : ClassId) (cyO8866d : ClassId) (cyO72d3f : ClassId) (cyO7b988 : ClassId) (S : wPS) {a : Nat} (h : S.K a = 6) (v : Option Nat) (b : Nat) : va_up (wPF cyI cyZ cyO8866d cyO72d3f cyO7b988 S) a (.inr (6, [.int (S.O_ShardHarbourModel.f_thrown a), .int (S.O_ShardHarbourModel.f_hour a), .int (S.O_ShardHarbourModel.f_machines a), va_rf (S.O_ShardHarbourModel.f_room a), va_rf (S.O_ShardHarbourModel.f_isDown a), va_rf (S.O_ShardHarbourModel.f_quota a), va_rf (S.O_ShardHarbourModel.f_bill a), .int (S.O_ShardHarbourModel.f_limit a), .int (S.O_ShardHarbourModel.f_logged a), .int (S.O_ShardHarbourModel.f_done a), .int (S.O_ShardHarbourModel.f_failed a), va_rf (S.O_ShardHarbourModel.f_owner a), va_rf (S.O_ShardHarbourModel.f_bytes a), .int (S.O_ShardHarbourModel.f_shards a), va_rf (S.O_ShardHarbourModel.f_first a), va_rf (S.O_ShardHarbourModel.f_on a), va_rf (S.O_ShardHarbourModel.f_to a), va_rf v, va_rf (S.O_ShardHarbourModel.f_left a), va_rf (S.O_ShardHarbourModel.f_heat a)])) b = wPF cyI cyZ cyO8866d cyO72d3f cyO7b988 { S with O_ShardHarbourModel := { S.O_ShardHarbourModel with f_next := va_up S.O_ShardHarbourModel.f_next a v } } b := by by_cases hb : b = a <;> first | (simp only [wPF, va_up_ne _ _ hb]; done) | (simp only [wPF, va_up, if_neg hb]; done) | simp [wPF, va_re, va_up, va_rf, hb, h]
theorem wPu_O_ShardHarbourModel_f_next (cyI : ClassId) (cyZ : ClassId) (cyO8866d : ClassId) (cyO72d3f : ClassId) (cyO7b988 : ClassId) (X : va_W) (S : wPS) {A : Nat → Prop} {a k : Nat} (hD : va_D A (X ++ va_pl S.L (wPF cyI cyZ cyO8866d cyO72d3f cyO7b988 S))) (hL : a ∈ S.L) (h : S.K a = 6) (hk : (X ++ va_pl S.L (wPF cyI cyZ cyO8866d cyO72d3f cyO7b988 S))[k]? = some (a, wPF cyI cyZ cyO8866d cyO72d3f cyO7b988 S a)) (v : Option Nat) : (X ++ va_pl S.L (wPF cyI cyZ cyO8866d cyO72d3f cyO7b988 S)).set k (a, .inr (6, [.int (S.O_ShardHarbourModel.f_thrown a), .int (S.O_ShardHarbourModel.f_hour a), .int (S.O_ShardHarbourModel.f_machines a), va_rf (S.O_ShardHarbourModel.f_room a), va_rf (S.O_ShardHarbourModel.f_isDown a), va_rf (S.O_ShardHarbourModel.f_quota a), va_rf (S.O_ShardHarbourModel.f_bill a), .int (S.O_ShardHarbourModel.f_limit a), .int (S.O_ShardHarbourModel.f_logged a), .int (S.O_ShardHarbourModel.f_done a), .int (S.O_ShardHarbourModel.f_failed a), va_rf (S.O_ShardHarbourModel.f_owner a), va_rf (S.O_ShardHarbourModel.f_bytes a), .int (S.O_ShardHarbourModel.f_shards a), va_rf (S.O_ShardHarbourModel.f_first a), va_rf (S.O_ShardHarbourModel.f_on a), va_rf (S.O_ShardHarbourModel.f_to a), va_rf v, va_rf (S.O_ShardHarbourModel.f_left a), va_rf (S.O_ShardHarbourModel.f_heat a)])) = X ++ va_pl S.L (wPF cyI cyZ cyO8866d cyO72d3f cyO7b988 { S with O_ShardHarbourModel := { S.O_ShardHarbourModel with f_next := va_up S.O_ShardHarbourModel.f_next a v } }) := by
  rw [va_pl_set hD hL hk]
  exact congrArg (fun l => X ++ l) (va_pl_congr (wSt_O_ShardHarbourModel_f_next cyI cyZ cyO8866d cyO72d3f cyO7b988 S h v))
theorem wSt_O_ShardHarbourModel_f_left (cyI : ClassId) (cyZ : ClassId) (cyO8866d : ClassId) (cyO72d3f : ClassId) (cyO7b988 : ClassId) (S : wPS) {a : Nat} (h : S.K a = 6) (v : Option Nat) (b : Nat) : va_up (wPF cyI cyZ cyO8866d cyO72d3f cyO7b988 S) a (.inr (6, [.int (S.O_ShardHarbourModel.f_thrown a), .int (S.O_ShardHarbourModel.f_hour a), .int (S.O_ShardHarbourModel.f_machines a), va_rf (S.O_ShardHarbourModel.f_room a), va_rf (S.O_ShardHarbourModel.f_isDown a), va_rf (S.O_ShardHarbourModel.f_quota a), va_rf (S.O_ShardHarbourModel.f_bill a), .int (S.O_ShardHarbourModel.f_limit a), .int (S.O_ShardHarbourModel.f_logged a), .int (S.O_ShardHarbourModel.f_done a), .int (S.O_ShardHarbourModel.f_failed a), va_rf (S.O_ShardHarbourModel.f_owner a), va_rf (S.O_ShardHarbourModel.f_bytes a), .int (S.O_ShardHarbourModel.f_shards a), va_rf (S.O_ShardHarbourModel.f_first a), va_rf (S.O_ShardHarbourModel.f_on a), va_rf (S.O_ShardHarbourModel.f_to a), va_rf (S.O_ShardHarbourModel.f_next a), va_rf v, va_rf (S.O_ShardHarbourModel.f_heat a)])) b = wPF cyI cyZ cyO8866d cyO72d3f cyO7b988 { S with O_ShardHarbourModel := { S.O_ShardHarbourModel with f_left := va_up S.O_ShardHarbourModel.f_left a v } } b := by by_cases hb : b = a <;> first | (simp only [wPF, va_up_ne _ _ hb]; done) | (simp only [wPF, va_up, if_neg hb]; done) | simp [wPF, va_re, va_up, va_rf, hb, h]
theorem wPu_O_ShardHarbourModel_f_left (cyI : ClassId) (cyZ : ClassId) (cyO8866d : ClassId) (cyO72d3f : ClassId) (cyO7b988 : ClassId) (X : va_W) (S : wPS) {A : Nat → Prop} {a k : Nat} (hD : va_D A (X ++ va_pl S.L (wPF cyI cyZ cyO8866d cyO72d3f cyO7b988 S))) (hL : a ∈ S.L) (h : S.K a = 6) (hk : (X ++ va_pl S.L (wPF cyI cyZ cyO8866d cyO72d3f cyO7b988 S))[k]? = some (a, wPF cyI cyZ cyO8866d cyO72d3f cyO7b988 S a)) (v : Option Nat) : (X ++ va_pl S.L (wPF cyI cyZ cyO8866d cyO72d3f cyO7b988 S)).set k (a, .inr (6, [.int (S.O_ShardHarbourModel.f_thrown a), .int (S.O_ShardHarbourModel.f_hour a), .int (S.O_ShardHarbourModel.f_machines a), va_rf (S.O_ShardHarbourModel.f_room a), va_rf (S.O_ShardHarbourModel.f_isDown a), va_rf (S.O_ShardHarbourModel.f_quota a), va_rf (S.O_ShardHarbourModel.f_bill a), .int (S.O_ShardHarbourModel.f_limit a), .int (S.O_ShardHarbourModel.f_logged a), .int (S.O_ShardHarbourModel.f_done a), .int (S.O_ShardHarbourModel.f_failed a), va_rf (S.O_ShardHarbourModel.f_owner a), va_rf (S.O_ShardHarbourModel.f_bytes a), .int (S.O_ShardHarbourModel.f_shards a), va_rf (S.O_ShardHarbourModel.f_first a), va_rf (S.O_ShardHarbourModel.f_on a), va_rf (S.O_ShardHarbourModel.f_to a), va_rf (S.O_ShardHarbourModel.f_next a), va_rf v, va_rf (S.O_ShardHarbourModel.f_heat a)])) = X ++ va_pl S.L (wPF cyI cyZ cyO8866d cyO72d3f cyO7b988 { S with O_ShardHarbourModel := { S.O_ShardHarbourModel with f_left := va_up S.O_ShardHarbourModel.f_left a v } }) := by
  rw [va_pl_set hD hL hk]
  exact congrArg (fun l => X ++ l) (va_pl_congr (wSt_O_ShardHarbourModel_f_left cyI cyZ cyO8866d cyO72d3f cyO7b988 S h v))
theorem wSt_O_ShardHarbourModel_f_heat (cyI : ClassId) (cyZ : ClassId) (cyO8866d : ClassId) (cyO72d3f : ClassId) (cyO7b988 : ClassId) (S : wPS) {a : Nat} (h : S.K a = 6) (v : Option Nat) (b : Nat) : va_up (wPF cyI cyZ cyO8866d cyO72d3f cyO7b988 S) a (.inr (6, [.int (S.O_ShardHarbourModel.f_thrown a), .int (S.O_ShardHarbourModel.f_hour a), .int (S.O_ShardHarbourModel.f_machines a), va_rf (S.O_ShardHarbourModel.f_room a), va_rf (S.O_ShardHarbourModel.f_isDown a), va_rf (S.O_ShardHarbourModel.f_quota a), va_rf (S.O_ShardHarbourModel.f_bill a), .int (S.O_ShardHarbourModel.f_limit a), .int (S.O_ShardHarbourModel.f_logged a), .int (S.O_ShardHarbourModel.f_done a), .int (S.O_ShardHarbourModel.f_failed a), va_rf (S.O_ShardHarbourModel.f_owner a), va_rf (S.O_ShardHarbourModel.f_bytes a), .int (S.O_ShardHarbourModel.f_shards a), va_rf (S.O_ShardHarbourModel.f_first a), va_rf (S.O_ShardHarbourModel.f_on a), va_rf (S.O_ShardHarbourModel.f_to a), va_rf (S.O_ShardHarbourModel.f_next a), va_rf (S.O_ShardHarbourModel.f_left a), va_rf v])) b = wPF cyI cyZ cyO8866d cyO72d3f cyO7b988 { S with O_ShardHarbourModel := { S.O_ShardHarbourModel with f_heat := va_up S.O_ShardHarbourModel.f_heat a v } } b := by by_cases hb : b = a <;> first | (simp only [wPF, va_up_ne _ _ hb]; done) | (simp only [wPF, va_up, if_neg hb]; done) | simp [wPF, va_re, va_up, va_rf, hb, h]
theorem wPu_O_ShardHarbourModel_f_heat (cyI : ClassId) (cyZ : ClassId) (cyO8866d : ClassId) (cyO72d3f : ClassId) (cyO7b988 : ClassId) (X : va_W) (S : wPS) {A : Nat → Prop} {a k : Nat} (hD : va_D A (X ++ va_pl S.L (wPF cyI cyZ cyO8866d cyO72d3f cyO7b988 S))) (hL : a ∈ S.L) (h : S.K a = 6) (hk : (X ++ va_pl S.L (wPF cyI cyZ cyO8866d cyO72d3f cyO7b988 S))[k]? = some (a, wPF cyI cyZ cyO8866d cyO72d3f cyO7b988 S a)) (v : Option Nat) : (X ++ va_pl S.L (wPF cyI cyZ cyO8866d cyO72d3f cyO7b988 S)).set k (a, .inr (6, [.int (S.O_ShardHarbourModel.f_thrown a), .int (S.O_ShardHarbourModel.f_hour a), .int (S.O_ShardHarbourModel.f_machines a), va_rf (S.O_ShardHarbourModel.f_room a), va_rf (S.O_ShardHarbourModel.f_isDown a), va_rf (S.O_ShardHarbourModel.f_quota a), va_rf (S.O_ShardHarbourModel.f_bill a), .int (S.O_ShardHarbourModel.f_limit a), .int (S.O_ShardHarbourModel.f_logged a), .int (S.O_ShardHarbourModel.f_done a), .int (S.O_ShardHarbourModel.f_failed a), va_rf (S.O_ShardHarbourModel.f_owner a), va_rf (S.O_ShardHarbourModel.f_bytes a), .int (S.O_ShardHarbourModel.f_shards a), va_rf (S.O_ShardHarbourModel.f_first a), va_rf (S.O_ShardHarbourModel.f_on a), va_rf (S.O_ShardHarbourModel.f_to a), va_rf (S.O_ShardHarbourModel.f_next a), va_rf (S.O_ShardHarbourModel.f_left a), va_rf v])) = X ++ va_pl S.L (wPF cyI cyZ cyO8866d cyO72d3f cyO7b988 { S with O_ShardHarbourModel := { S.O_ShardHarbourModel with f_heat := va_up S.O_ShardHarbourModel.f_heat a v } }) := by
  rw [va_pl_set hD hL hk]
  exact congrArg (fun l => X ++ l) (va_pl_congr (wSt_O_ShardHarbourModel_f_heat cyI cyZ cyO8866d cyO72d3f cyO7b988 S h v))
theorem wNw_O_ShardHarbourModel (cyI : ClassId) (cyZ : ClassId) (cyO8866d : ClassId) (cyO72d3f : ClassId) (cyO7b988 : ClassId) (S : wPS) (a b : Nat) : va_up (wPF cyI cyZ cyO8866d cyO72d3f cyO7b988 S) a (.inr (6, [.int 0, .int 0, .int 0, .null, .null, .null, .null, .int 0, .int 0, .int 0, .int 0, .null, .null, .int 0, .null, .null, .null, .null, .null, .null])) b = wPF cyI cyZ cyO8866d cyO72d3f cyO7b988 { S with L := S.L ++ [a], K := va_up S.K a 6, O_ShardHarbourModel := { f_thrown := va_up S.O_ShardHarbourModel.f_thrown a 0, f_hour := va_up S.O_ShardHarbourModel.f_hour a 0, f_machines := va_up S.O_ShardHarbourModel.f_machines a 0, f_room := va_up S.O_ShardHarbourModel.f_room a none, f_isDown := va_up S.O_ShardHarbourModel.f_isDown a none, f_quota := va_up S.O_ShardHarbourModel.f_quota a none, f_bill := va_up S.O_ShardHarbourModel.f_bill a none, f_limit := va_up S.O_ShardHarbourModel.f_limit a 0, f_logged := va_up S.O_ShardHarbourModel.f_logged a 0, f_done := va_up S.O_ShardHarbourModel.f_done a 0, f_failed := va_up S.O_ShardHarbourModel.f_failed a 0, f_owner := va_up S.O_ShardHarbourModel.f_owner a none, f_bytes := va_up S.O_ShardHarbourModel.f_bytes a none, f_shards := va_up S.O_ShardHarbourModel.f_shards a 0, f_first := va_up S.O_ShardHarbourModel.f_first a none, f_on := va_up S.O_ShardHarbourModel.f_on a none, f_to := va_up S.O_ShardHarbourModel.f_to a none, f_next := va_up S.O_ShardHarbourModel.f_next a none, f_left := va_up S.O_ShardHarbourModel.f_left a none, f_heat := va_up S.O_ShardHarbourModel.f_heat a none } } b := by by_cases hb : b = a <;> first | (simp only [wPF, va_up_ne _ _ hb]; done) | (simp only [wPF, va_up, if_neg hb]; done) | simp [wPF, va_re, va_up, va_rf, hb]
theorem wPn_O_ShardHarbourModel (cyI : ClassId) (cyZ : ClassId) (cyO8866d : ClassId) (cyO72d3f : ClassId) (cyO7b988 : ClassId) (X : va_W) (S : wPS) {a : Nat} (ha : a ∉ S.L) : (X ++ va_pl S.L (wPF cyI cyZ cyO8866d cyO72d3f cyO7b988 S)) ++ [(a, .inr (6, [.int 0, .int 0, .int 0, .null, .null, .null, .null, .int 0, .int 0, .int 0, .int 0, .null, .null, .int 0, .null, .null, .null, .null, .null, .null]))] = X ++ va_pl (S.L ++ [a]) (wPF cyI cyZ cyO8866d cyO72d3f cyO7b988 { S with L := S.L ++ [a], K := va_up S.K a 6, O_ShardHarbourModel := { f_thrown := va_up S.O_ShardHarbourModel.f_thrown a 0, f_hour := va_up S.O_ShardHarbourModel.f_hour a 0, f_machines := va_up S.O_ShardHarbourModel.f_machines a 0, f_room := va_up S.O_ShardHarbourModel.f_room a none, f_isDown := va_up S.O_ShardHarbourModel.f_isDown a none, f_quota := va_up S.O_ShardHarbourModel.f_quota a none, f_bill := va_up S.O_ShardHarbourModel.f_bill a none, f_limit := va_up S.O_ShardHarbourModel.f_limit a 0, f_logged := va_up S.O_ShardHarbourModel.f_logged a 0, f_done := va_up S.O_ShardHarbourModel.f_done a 0, f_failed := va_up S.O_ShardHarbourModel.f_failed a 0, f_owner := va_up S.O_ShardHarbourModel.f_owner a none, f_bytes := va_up S.O_ShardHarbourModel.f_bytes a none, f_shards := va_up S.O_ShardHarbourModel.f_shards a 0, f_first := va_up S.O_ShardHarbourModel.f_first a none, f_on := va_up S.O_ShardHarbourModel.f_on a none, f_to := va_up S.O_ShardHarbourModel.f_to a none, f_next := va_up S.O_ShardHarbourModel.f_next a none, f_left := va_up S.O_ShardHarbourModel.f_left a none, f_heat := va_up S.O_ShardHarbourModel.f_heat a none } }) := by
  rw [List.append_assoc, va_pl_push ha]
  exact congrArg (fun l => X ++ l) (va_pl_congr (wNw_O_ShardHarbourModel cyI cyZ cyO8866d cyO72d3f cyO7b988 S a))
theorem wAt_R_I (cyI : ClassId) (cyZ : ClassId) (cyO8866d : ClassId) (cyO72d3f : ClassId) (cyO7b988 : ClassId) (S : wPS) {a : Nat} (h : S.K a = 7) : wPF cyI cyZ cyO8866d cyO72d3f cyO7b988 S a = .inl (cyI, S.R_I.len a, .inl (S.R_I.row a)) := by simp [wPF, h]
theorem wGt_R_I (cyI : ClassId) (cyZ : ClassId) (cyO8866d : ClassId) (cyO72d3f : ClassId) (cyO7b988 : ClassId) (X : va_W) (S : wPS) {a : Nat} (hL : a ∈ S.L) (h : S.K a = 7) : ∃ k : Nat, (X ++ va_pl S.L (wPF cyI cyZ cyO8866d cyO72d3f cyO7b988 S))[k]? = some (a, wPF cyI cyZ cyO8866d cyO72d3f cyO7b988 S a) ∧ (X ++ va_pl S.L (wPF cyI cyZ cyO8866d cyO72d3f cyO7b988 S))[k]? = some (a, .inl (cyI, S.R_I.len a, .inl (S.R_I.row a))) := by
  obtain ⟨k, hk⟩ := va_pl_get (X := X) (f := wPF cyI cyZ cyO8866d cyO72d3f cyO7b988 S) hL
  exact ⟨k, hk, hk.trans (congrArg (fun e => some (a, e)) (wAt_R_I cyI cyZ cyO8866d cyO72d3f cyO7b988 S h))⟩
theorem wSt_R_I_row (cyI : ClassId) (cyZ : ClassId) (cyO8866d : ClassId) (cyO72d3f : ClassId) (cyO7b988 : ClassId) (S : wPS) {a : Nat} (h : S.K a = 7) (v : Nat → Int32) (b : Nat) : va_up (wPF cyI cyZ cyO8866d cyO72d3f cyO7b988 S) a (.inl (cyI, S.R_I.len a, .inl v)) b = wPF cyI cyZ cyO8866d cyO72d3f cyO7b988 { S with R_I := { S.R_I with row := va_up S.R_I.row a v } } b := by by_cases hb : b = a <;> first | (simp only [wPF, va_up_ne _ _ hb]; done) | (simp only [wPF, va_up, if_neg hb]; done) | simp [wPF, va_re, va_up, va_rf, hb, h]
theorem wPu_R_I_row (cyI : ClassId) (cyZ : ClassId) (cyO8866d : ClassId) (cyO72d3f : ClassId) (cyO7b988 : ClassId) (X : va_W) (S : wPS) {A : Nat → Prop} {a k : Nat} (hD : va_D A (X ++ va_pl S.L (wPF cyI cyZ cyO8866d cyO72d3f cyO7b988 S))) (hL : a ∈ S.L) (h : S.K a = 7) (hk : (X ++ va_pl S.L (wPF cyI cyZ cyO8866d cyO72d3f cyO7b988 S))[k]? = some (a, wPF cyI cyZ cyO8866d cyO72d3f cyO7b988 S a)) (v : Nat → Int32) : (X ++ va_pl S.L (wPF cyI cyZ cyO8866d cyO72d3f cyO7b988 S)).set k (a, .inl (cyI, S.R_I.len a, .inl v)) = X ++ va_pl S.L (wPF cyI cyZ cyO8866d cyO72d3f cyO7b988 { S with R_I := { S.R_I with row := va_up S.R_I.row a v } }) := by
  rw [va_pl_set hD hL hk]
  exact congrArg (fun l => X ++ l) (va_pl_congr (wSt_R_I_row cyI cyZ cyO8866d cyO72d3f cyO7b988 S h v))
theorem wNw_R_I (cyI : ClassId) (cyZ : ClassId) (cyO8866d : ClassId) (cyO72d3f : ClassId) (cyO7b988 : ClassId) (S : wPS) (a : Nat) (z : Nat) (f : Nat → Int32) (b : Nat) : va_up (wPF cyI cyZ cyO8866d cyO72d3f cyO7b988 S) a (.inl (cyI, z, .inl f)) b = wPF cyI cyZ cyO8866d cyO72d3f cyO7b988 { S with L := S.L ++ [a], K := va_up S.K a 7, R_I := { len := va_up S.R_I.len a z, row := va_up S.R_I.row a f } } b := by by_cases hb : b = a <;> first | (simp only [wPF, va_up_ne _ _ hb]; done) | (simp only [wPF, va_up, if_neg hb]; done) | simp [wPF, va_re, va_up, va_rf, hb]
theorem wAt_R_Z (cyI : ClassId) (cyZ : ClassId) (cyO8866d : ClassId) (cyO72d3f : ClassId) (cyO7b988 : ClassId) (S : wPS) {a : Nat} (h : S.K a = 8) : wPF cyI cyZ cyO8866d cyO72d3f cyO7b988 S a = .inl (cyZ, S.R_Z.len a, .inl (S.R_Z.row a)) := by simp [wPF, h]
theorem wGt_R_Z (cyI : ClassId) (cyZ : ClassId) (cyO8866d : ClassId) (cyO72d3f : ClassId) (cyO7b988 : ClassId) (X : va_W) (S : wPS) {a : Nat} (hL : a ∈ S.L) (h : S.K a = 8) : ∃ k : Nat, (X ++ va_pl S.L (wPF cyI cyZ cyO8866d cyO72d3f cyO7b988 S))[k]? = some (a, wPF cyI cyZ cyO8866d cyO72d3f cyO7b988 S a) ∧ (X ++ va_pl S.L (wPF cyI cyZ cyO8866d cyO72d3f cyO7b988 S))[k]? = some (a, .inl (cyZ, S.R_Z.len a, .inl (S.R_Z.row a))) := by
  obtain ⟨k, hk⟩ := va_pl_get (X := X) (f := wPF cyI cyZ cyO8866d cyO72d3f cyO7b988 S) hL
  exact ⟨k, hk, hk.trans (congrArg (fun e => some (a, e)) (wAt_R_Z cyI cyZ cyO8866d cyO72d3f cyO7b988 S h))⟩
theorem wSt_R_Z_row (cyI : ClassId) (cyZ : ClassId) (cyO8866d : ClassId) (cyO72d3f : ClassId) (cyO7b988 : ClassId) (S : wPS) {a : Nat} (h : S.K a = 8) (v : Nat → Int32) (b : Nat) : va_up (wPF cyI cyZ cyO8866d cyO72d3f cyO7b988 S) a (.inl (cyZ, S.R_Z.len a, .inl v)) b = wPF cyI cyZ cyO8866d cyO72d3f cyO7b988 { S with R_Z := { S.R_Z with row := va_up S.R_Z.row a v } } b := by by_cases hb : b = a <;> first | (simp only [wPF, va_up_ne _ _ hb]; done) | (simp only [wPF, va_up, if_neg hb]; done) | simp [wPF, va_re, va_up, va_rf, hb, h]
theorem wPu_R_Z_row (cyI : ClassId) (cyZ : ClassId) (cyO8866d : ClassId) (cyO72d3f : ClassId) (cyO7b988 : ClassId) (X : va_W) (S : wPS) {A : Nat → Prop} {a k : Nat} (hD : va_D A (X ++ va_pl S.L (wPF cyI cyZ cyO8866d cyO72d3f cyO7b988 S))) (hL : a ∈ S.L) (h : S.K a = 8) (hk : (X ++ va_pl S.L (wPF cyI cyZ cyO8866d cyO72d3f cyO7b988 S))[k]? = some (a, wPF cyI cyZ cyO8866d cyO72d3f cyO7b988 S a)) (v : Nat → Int32) : (X ++ va_pl S.L (wPF cyI cyZ cyO8866d cyO72d3f cyO7b988 S)).set k (a, .inl (cyZ, S.R_Z.len a, .inl v)) = X ++ va_pl S.L (wPF cyI cyZ cyO8866d cyO72d3f cyO7b988 { S with R_Z := { S.R_Z with row := va_up S.R_Z.row a v } }) := by
  rw [va_pl_set hD hL hk]
  exact congrArg (fun l => X ++ l) (va_pl_congr (wSt_R_Z_row cyI cyZ cyO8866d cyO72d3f cyO7b988 S h v))
theorem wNw_R_Z (cyI : ClassId) (cyZ : ClassId) (cyO8866d : ClassId) (cyO72d3f : ClassId) (cyO7b988 : ClassId) (S : wPS) (a : Nat) (z : Nat) (f : Nat → Int32) (b : Nat) : va_up (wPF cyI cyZ cyO8866d cyO72d3f cyO7b988 S) a (.inl (cyZ, z, .inl f)) b = wPF cyI cyZ cyO8866d cyO72d3f cyO7b988 { S with L := S.L ++ [a], K := va_up S.K a 8, R_Z := { len := va_up S.R_Z.len a z, row := va_up S.R_Z.row a f } } b := by by_cases hb : b = a <;> first | (simp only [wPF, va_up_ne _ _ hb]; done) | (simp only [wPF, va_up, if_neg hb]; done) | simp [wPF, va_re, va_up, va_rf, hb]
theorem wAt_R_Machine (cyI : ClassId) (cyZ : ClassId) (cyO8866d : ClassId) (cyO72d3f : ClassId) (cyO7b988 : ClassId) (S : wPS) {a : Nat} (h : S.K a = 9) : wPF cyI cyZ cyO8866d cyO72d3f cyO7b988 S a = .inl (cyO8866d, S.R_Machine.len a, .inr (.inr (.inr (.inr (S.R_Machine.row a))))) := by simp [wPF, h]
theorem wGt_R_Machine (cyI : ClassId) (cyZ : ClassId) (cyO8866d : ClassId) (cyO72d3f : ClassId) (cyO7b988 : ClassId) (X : va_W) (S : wPS) {a : Nat} (hL : a ∈ S.L) (h : S.K a = 9) : ∃ k : Nat, (X ++ va_pl S.L (wPF cyI cyZ cyO8866d cyO72d3f cyO7b988 S))[k]? = some (a, wPF cyI cyZ cyO8866d cyO72d3f cyO7b988 S a) ∧ (X ++ va_pl S.L (wPF cyI cyZ cyO8866d cyO72d3f cyO7b988 S))[k]? = some (a, .inl (cyO8866d, S.R_Machine.len a, .inr (.inr (.inr (.inr (S.R_Machine.row a)))))) := by
  obtain ⟨k, hk⟩ := va_pl_get (X := X) (f := wPF cyI cyZ cyO8866d cyO72d3f cyO7b988 S) hL
  exact ⟨k, hk, hk.trans (congrArg (fun e => some (a, e)) (wAt_R_Machine cyI cyZ cyO8866d cyO72d3f cyO7b988 S h))⟩
theorem wSt_R_Machine_row (cyI : ClassId) (cyZ : ClassId) (cyO8866d : ClassId) (cyO72d3f : ClassId) (cyO7b988 : ClassId) (S : wPS) {a : Nat} (h : S.K a = 9) (v : Nat → Option Nat) (b : Nat) : va_up (wPF cyI cyZ cyO8866d cyO72d3f cyO7b988 S) a (.inl (cyO8866d, S.R_Machine.len a, .inr (.inr (.inr (.inr v))))) b = wPF cyI cyZ cyO8866d cyO72d3f cyO7b988 { S with R_Machine := { S.R_Machine with row := va_up S.R_Machine.row a v } } b := by by_cases hb : b = a <;> first | (simp only [wPF, va_up_ne _ _ hb]; done) | (simp only [wPF, va_up, if_neg hb]; done) | simp [wPF, va_re, va_up, va_rf, hb, h]
theorem wPu_R_Machine_row (cyI : ClassId) (cyZ : ClassId) (cyO8866d : ClassId) (cyO72d3f : ClassId) (cyO7b988 : ClassId) (X : va_W) (S : wPS) {A : Nat → Prop} {a k : Nat} (hD : va_D A (X ++ va_pl S.L (wPF cyI cyZ cyO8866d cyO72d3f cyO7b988 S))) (hL : a ∈ S.L) (h : S.K a = 9) (hk : (X ++ va_pl S.L (wPF cyI cyZ cyO8866d cyO72d3f cyO7b988 S))[k]? = some (a, wPF cyI cyZ cyO8866d cyO72d3f cyO7b988 S a)) (v : Nat → Option Nat) : (X ++ va_pl S.L (wPF cyI cyZ cyO8866d cyO72d3f cyO7b988 S)).set k (a, .inl (cyO8866d, S.R_Machine.len a, .inr (.inr (.inr (.inr v))))) = X ++ va_pl S.L (wPF cyI cyZ cyO8866d cyO72d3f cyO7b988 { S with R_Machine := { S.R_Machine with row := va_up S.R_Machine.row a v } }) := by
  rw [va_pl_set hD hL hk]
  exact congrArg (fun l => X ++ l) (va_pl_congr (wSt_R_Machine_row cyI cyZ cyO8866d cyO72d3f cyO7b988 S h v))
theorem wNw_R_Machine (cyI : ClassId) (cyZ : ClassId) (cyO8866d : ClassId) (cyO72d3f : ClassId) (cyO7b988 : ClassId) (S : wPS) (a : Nat) (z : Nat) (f : Nat → Option Nat) (b : Nat) : va_up (wPF cyI cyZ cyO8866d cyO72d3f cyO7b988 S) a (.inl (cyO8866d, z, .inr (.inr (.inr (.inr f))))) b = wPF cyI cyZ cyO8866d cyO72d3f cyO7b988 { S with L := S.L ++ [a], K := va_up S.K a 9, R_Machine := { len := va_up S.R_Machine.len a z, row := va_up S.R_Machine.row a f } } b := by by_cases hb : b = a <;> first | (simp only [wPF, va_up_ne _ _ hb]; done) | (simp only [wPF, va_up, if_neg hb]; done) | simp [wPF, va_re, va_up, va_rf, hb]
theorem wAt_R_Shard (cyI : ClassId) (cyZ : ClassId) (cyO8866d : ClassId) (cyO72d3f : ClassId) (cyO7b988 : ClassId) (S : wPS) {a : Nat} (h : S.K a = 10) : wPF cyI cyZ cyO8866d cyO72d3f cyO7b988 S a = .inl (cyO72d3f, S.R_Shard.len a, .inr (.inr (.inr (.inr (S.R_Shard.row a))))) := by simp [wPF, h]
theorem wGt_R_Shard (cyI : ClassId) (cyZ : ClassId) (cyO8866d : ClassId) (cyO72d3f : ClassId) (cyO7b988 : ClassId) (X : va_W) (S : wPS) {a : Nat} (hL : a ∈ S.L) (h : S.K a = 10) : ∃ k : Nat, (X ++ va_pl S.L (wPF cyI cyZ cyO8866d cyO72d3f cyO7b988 S))[k]? = some (a, wPF cyI cyZ cyO8866d cyO72d3f cyO7b988 S a) ∧ (X ++ va_pl S.L (wPF cyI cyZ cyO8866d cyO72d3f cyO7b988 S))[k]? = some (a, .inl (cyO72d3f, S.R_Shard.len a, .inr (.inr (.inr (.inr (S.R_Shard.row a)))))) := by
  obtain ⟨k, hk⟩ := va_pl_get (X := X) (f := wPF cyI cyZ cyO8866d cyO72d3f cyO7b988 S) hL
  exact ⟨k, hk, hk.trans (congrArg (fun e => some (a, e)) (wAt_R_Shard cyI cyZ cyO8866d cyO72d3f cyO7b988 S h))⟩
theorem wSt_R_Shard_row (cyI : ClassId) (cyZ : ClassId) (cyO8866d : ClassId) (cyO72d3f : ClassId) (cyO7b988 : ClassId) (S : wPS) {a : Nat} (h : S.K a = 10) (v : Nat → Option Nat) (b : Nat) : va_up (wPF cyI cyZ cyO8866d cyO72d3f cyO7b988 S) a (.inl (cyO72d3f, S.R_Shard.len a, .inr (.inr (.inr (.inr v))))) b = wPF cyI cyZ cyO8866d cyO72d3f cyO7b988 { S with R_Shard := { S.R_Shard with row := va_up S.R_Shard.row a v } } b := by by_cases hb : b = a <;> first | (simp only [wPF, va_up_ne _ _ hb]; done) | (simp only [wPF, va_up, if_neg hb]; done) | simp [wPF, va_re, va_up, va_rf, hb, h]
theorem wPu_R_Shard_row (cyI : ClassId) (cyZ : ClassId) (cyO8866d : ClassId) (cyO72d3f : ClassId) (cyO7b988 : ClassId) (X : va_W) (S : wPS) {A : Nat → Prop} {a k : Nat} (hD : va_D A (X ++ va_pl S.L (wPF cyI cyZ cyO8866d cyO72d3f cyO7b988 S))) (hL : a ∈ S.L) (h : S.K a = 10) (hk : (X ++ va_pl S.L (wPF cyI cyZ cyO8866d cyO72d3f cyO7b988 S))[k]? = some (a, wPF cyI cyZ cyO8866d cyO72d3f cyO7b988 S a)) (v : Nat → Option Nat) : (X ++ va_pl S.L (wPF cyI cyZ cyO8866d cyO72d3f cyO7b988 S)).set k (a, .inl (cyO72d3f, S.R_Shard.len a, .inr (.inr (.inr (.inr v))))) = X ++ va_pl S.L (wPF cyI cyZ cyO8866d cyO72d3f cyO7b988 { S with R_Shard := { S.R_Shard with row := va_up S.R_Shard.row a v } }) := by
  rw [va_pl_set hD hL hk]
  exact congrArg (fun l => X ++ l) (va_pl_congr (wSt_R_Shard_row cyI cyZ cyO8866d cyO72d3f cyO7b988 S h v))
theorem wNw_R_Shard (cyI : ClassId) (cyZ : ClassId) (cyO8866d : ClassId) (cyO72d3f : ClassId) (cyO7b988 : ClassId) (S : wPS) (a : Nat) (z : Nat) (f : Nat → Option Nat) (b : Nat) : va_up (wPF cyI cyZ cyO8866d cyO72d3f cyO7b988 S) a (.inl (cyO72d3f, z, .inr (.inr (.inr (.inr f))))) b = wPF cyI cyZ cyO8866d cyO72d3f cyO7b988 { S with L := S.L ++ [a], K := va_up S.K a 10, R_Shard := { len := va_up S.R_Shard.len a z, row := va_up S.R_Shard.row a f } } b := by by_cases hb : b = a <;> first | (simp only [wPF, va_up_ne _ _ hb]; done) | (simp only [wPF, va_up, if_neg hb]; done) | simp [wPF, va_re, va_up, va_rf, hb]
theorem wAt_R_Tenant (cyI : ClassId) (cyZ : ClassId) (cyO8866d : ClassId) (cyO72d3f : ClassId) (cyO7b988 : ClassId) (S : wPS) {a : Nat} (h : S.K a = 11) : wPF cyI cyZ cyO8866d cyO72d3f cyO7b988 S a = .inl (cyO7b988, S.R_Tenant.len a, .inr (.inr (.inr (.inr (S.R_Tenant.row a))))) := by simp [wPF, h]
theorem wGt_R_Tenant (cyI : ClassId) (cyZ : ClassId) (cyO8866d : ClassId) (cyO72d3f : ClassId) (cyO7b988 : ClassId) (X : va_W) (S : wPS) {a : Nat} (hL : a ∈ S.L) (h : S.K a = 11) : ∃ k : Nat, (X ++ va_pl S.L (wPF cyI cyZ cyO8866d cyO72d3f cyO7b988 S))[k]? = some (a, wPF cyI cyZ cyO8866d cyO72d3f cyO7b988 S a) ∧ (X ++ va_pl S.L (wPF cyI cyZ cyO8866d cyO72d3f cyO7b988 S))[k]? = some (a, .inl (cyO7b988, S.R_Tenant.len a, .inr (.inr (.inr (.inr (S.R_Tenant.row a)))))) := by
  obtain ⟨k, hk⟩ := va_pl_get (X := X) (f := wPF cyI cyZ cyO8866d cyO72d3f cyO7b988 S) hL
  exact ⟨k, hk, hk.trans (congrArg (fun e => some (a, e)) (wAt_R_Tenant cyI cyZ cyO8866d cyO72d3f cyO7b988 S h))⟩
theorem wSt_R_Tenant_row (cyI : ClassId) (cyZ : ClassId) (cyO8866d : ClassId) (cyO72d3f : ClassId) (cyO7b988 : ClassId) (S : wPS) {a : Nat} (h : S.K a = 11) (v : Nat → Option Nat) (b : Nat) : va_up (wPF cyI cyZ cyO8866d cyO72d3f cyO7b988 S) a (.inl (cyO7b988, S.R_Tenant.len a, .inr (.inr (.inr (.inr v))))) b = wPF cyI cyZ cyO8866d cyO72d3f cyO7b988 { S with R_Tenant := { S.R_Tenant with row := va_up S.R_Tenant.row a v } } b := by by_cases hb : b = a <;> first | (simp only [wPF, va_up_ne _ _ hb]; done) | (simp only [wPF, va_up, if_neg hb]; done) | simp [wPF, va_re, va_up, va_rf, hb, h]
theorem wPu_R_Tenant_row (cyI : ClassId) (cyZ : ClassId) (cyO8866d : ClassId) (cyO72d3f : ClassId) (cyO7b988 : ClassId) (X : va_W) (S : wPS) {A : Nat → Prop} {a k : Nat} (hD : va_D A (X ++ va_pl S.L (wPF cyI cyZ cyO8866d cyO72d3f cyO7b988 S))) (hL : a ∈ S.L) (h : S.K a = 11) (hk : (X ++ va_pl S.L (wPF cyI cyZ cyO8866d cyO72d3f cyO7b988 S))[k]? = some (a, wPF cyI cyZ cyO8866d cyO72d3f cyO7b988 S a)) (v : Nat → Option Nat) : (X ++ va_pl S.L (wPF cyI cyZ cyO8866d cyO72d3f cyO7b988 S)).set k (a, .inl (cyO7b988, S.R_Tenant.len a, .inr (.inr (.inr (.inr v))))) = X ++ va_pl S.L (wPF cyI cyZ cyO8866d cyO72d3f cyO7b988 { S with R_Tenant := { S.R_Tenant with row := va_up S.R_Tenant.row a v } }) := by
  rw [va_pl_set hD hL hk]
  exact congrArg (fun l => X ++ l) (va_pl_congr (wSt_R_Tenant_row cyI cyZ cyO8866d cyO72d3f cyO7b988 S h v))
theorem wNw_R_Tenant (cyI : ClassId) (cyZ : ClassId) (cyO8866d : ClassId) (cyO72d3f : ClassId) (cyO7b988 : ClassId) (S : wPS) (a : Nat) (z : Nat) (f : Nat → Option Nat) (b : Nat) : va_up (wPF cyI cyZ cyO8866d cyO72d3f cyO7b988 S) a (.inl (cyO7b988, z, .inr (.inr (.inr (.inr f))))) b = wPF cyI cyZ cyO8866d cyO72d3f cyO7b988 { S with L := S.L ++ [a], K := va_up S.K a 11, R_Tenant := { len := va_up S.R_Tenant.len a z, row := va_up S.R_Tenant.row a f } } b := by by_cases hb : b = a <;> first | (simp only [wPF, va_up_ne _ _ hb]; done) | (simp only [wPF, va_up, if_neg hb]; done) | simp [wPF, va_re, va_up, va_rf, hb]
/-! ===== END printed: names ===== -/
