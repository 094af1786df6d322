/-! THE LAYER: calls, throws, arrays of references, the end of an object's making -/
/-- what the tables say of a call of y2 by the index idx of the class that y stands in -/
def gLk (y : MethodName) (idx : Nat) (y2 : MethodName) (cc2 : ByteArray) (nL2 : Nat) (ret2 : Option FieldType) (n : Nat) : Prop :=
  (Cond.methodLink y.cls idx y2 ∈ gTb ∨ ∃ host, Cond.methodLinkNest y.cls idx y2 host ∈ gNs) ∧ Cond.initialized y2.cls ∈ gTb ∧ Cond.code y2 cc2 nL2 ret2 ∈ gTb ∧
  (y2.cls ≠ "java/lang/invoke/MethodHandle" ∧ y2.cls ≠ "java/lang/invoke/VarHandle" ∧ (parseMethodDescriptor y2.desc).map (fun d => d.parameters.length) = some n) ∧ nL2 ≤ 11
/-- .. of an instance's method of the class ci -/
def gLv (y : MethodName) (idx ci N : Nat) (y2 : MethodName) (cc2 : ByteArray) (nL2 : Nat) (ret2 : Option FieldType) (n : Nat) : Prop :=
  gLk y idx y2 cc2 nL2 ret2 n ∧ Cond.instanceMethod y2 ∈ gTb ∧ Cond.selects y2.cls y2 y2 ∈ gTb ∧ ∃ r, vwCl[ci]? = some r ∧ r.1 = y2.cls ∧ r.2.2 = N
section GL
variable {w : gW} {l : Launch} {y : MethodName} {cc : ByteArray} {nL : Nat} {ret : Option FieldType} {d mc ms : Nat} {post : Option Value → gH → Prop} {px : String → gH → Prop} {m : MethodId} {Wp : Heap → List Loc → Nat → Nat → JFrame → Prop}
variable {h : gH} {k u : Nat} {lo : List (Option Value)} {st : List Value} {pc : Nat}
theorem gst_cat (w : gW) (st : List Value) : ((st.map (gv w)).map fun v => v.category).sum = (st.map fun v => v.category).sum := by
  rw [List.map_map]; congr 1
  exact List.map_congr_left fun v _ => gv_cat w v
theorem g_back {p : Program} {e : Env} {R : Room} {s : State} {args : Array Value} {below : List Frame} {meth : Method} {c : Code} {Q : State → Prop} {H : Heap} {locs : List Loc} {ls : Array Slot} {mc2 ms2 : Nat} {st0 rest : List Value} {post2 : Option Value → gH → Prop} {a : Array Value}
    (hrun : va_Run p l e R s m args below meth c H locs k u mc2 ms2 (F0 m pc ls st0) (rest.map (gv w)) (gQc w post2 a) (gA w)) (h2 : ∀ z ∈ locs, gA w z.base) (h3 : gLo w nL lo ls)
    (kk : ∀ (r : Option Value) (h' : gH), post2 r h' → gG w m nL (fun H locs k u g => W p l e R s m args below meth c H locs k u Q g) h' (k + mc2) (u + ms2) lo (r.toList ++ rest) (pc + 3)) : W p l e R s m args below meth c H locs k u Q (F0 m pc ls st0) := by
  intro T hT X
  obtain ⟨v, st₀, t, T', L, h0, X', hL, e1, e2, ⟨r, h', hv, hp, hb⟩, st9⟩ := hrun T hT X
  cases hv
  rw [← e1] at hb
  obtain ⟨t2, a1, b1⟩ := kk r h' hp T'.heap (locs ++ L) ls hb (fun z hz => (List.mem_append.mp hz).elim (h2 z) (hL z)) h3 T' rfl X'
  refine ⟨t2, st9 t2 ?_, b1⟩
  have e : (r.toList ++ rest).map (gv w) = (r.map (gv w)).toList ++ rest.map (gv w) := by cases r <;> rfl
  rw [e] at a1
  exact a1
theorem g_callV (C : gC w l y cc nL ret d mc ms post px m Wp) {idx ci N a n : Nat} {y2 : MethodName} {cc2 : ByteArray} {nL2 : Nat} {ret2 : Option FieldType} {d2 mc2 ms2 : Nat} {post2 : Option Value → gH → Prop} (As rest : List Value) (hL : gLv y idx ci N y2 cc2 nL2 ret2 n) (hM : gCt w l y2 cc2 nL2 ret2 d2 mc2 ms2 (.ref a :: As) h post2) (hst : st = As.reverse ++ .ref a :: rest) (hn : As.length = n) (hK : gK h a = (ci, N)) (hdd : d2 < d) (hk : k + mc2 ≤ mc) (hu : u + ms2 ≤ ms) (hroom : (rest.map fun v => v.category).sum ≤ 8) (hd : decode cc pc = .ok (.invokevirtual idx, 3))
    (kk : ∀ (r : Option Value) (h' : gH), post2 r h' → gG w m nL Wp h' (k + mc2) (u + ms2) lo (r.toList ++ rest) (pc + 3)) : gG w m nL Wp h k u lo st pc := by
  obtain ⟨p, e, s, args, below, meth, c, rfl, hx9, hb, hml, hown, hts, hkn, -⟩ := C
  obtain ⟨⟨hlink, hini, hcode, hdsc, hnl⟩, hins, hsel, r, hr1, hr2, hr3⟩ := hL
  intro H locs ls h1 h2 h3
  subst hst
  have hat := (h1.2.2.2.1 a).1
  rw [hK] at hat
  obtain ⟨cell, q1, q2, q3, -⟩ := hat (List.getElem?_eq_some_iff.mp hr1).1
  have hfc := (hkn.2.2.1.1 ci _ hr1).2.1
  have hall : ∀ x ∈ (Cond.code y2 cc2 nL2 ret2 :: gTb), x ∈ gTb := fun x hx => (List.mem_cons.mp hx).elim (fun e => e ▸ hcode) id
  have hPre : PreV s H y2.cls (gρ w a) (gPc w (.ref a :: As) h) (As.map (gv w)) := ⟨gPc_blind w _ h, ⟨cell, q1, by rw [q3]; rfl, by rw [q2, ← hr2]; exact hfc⟩, fun U hU hW => ⟨rfl, hkn.warm hW, by rw [hU]; exact h1⟩⟩
  have hstk : (As.reverse ++ .ref a :: rest).map (gv w) = (As.map (gv w)).reverse ++ .ref (gρ w a) :: rest.map (gv w) := by rw [List.map_append, List.map_reverse]; rfl
  have hroom9 : ((rest.map (gv w)).map fun v => v.category).sum ≤ 8 := by rw [gst_cat]; exact hroom
  have hRR : (gRm d2 mc2 ms2).frames + 1 ≤ (gRm d mc ms).frames ∧ 8 + (nL2 + 11) + (gRm d2 mc2 ms2).locals ≤ (gRm d mc ms).locals := by
    refine ⟨hdd, ?_⟩
    show 8 + (nL2 + 11) + 30 * d2 ≤ 30 * d
    omega
  rcases hlink with hlink | ⟨host, hlink⟩
  · refine g_back (va_runV (As := As.map (gv w)) (rest := rest.map (gv w)) (C := y2.cls) ⟨hx9, hb, hml, hown, hts⟩ hM (cwV n hts (gTb_good fun x hx => ?_) rfl rfl rfl ⟨rfl, hdsc⟩ hRR) hPre rfl (by rw [List.length_map]; exact hn) h3.1.1 hstk (lv_room hroom9) hd ⟨hk, hu⟩) h2 h3 kk
    simp only [wsV, List.mem_append, List.mem_cons, List.not_mem_nil, or_false] at hx
    rcases hx with (rfl | rfl | rfl | rfl) | hx
    · exact hlink
    · exact hins
    · exact hsel
    · exact hini
    · rcases hx with rfl | hx
      · exact hcode
      · exact hx
  · exact g_back (va_runVN (As := As.map (gv w)) (rest := rest.map (gv w)) (C := y2.cls) ⟨hx9, hb, hml, hown, hts⟩ hM ⟨va_cnB n hts (gTb_good hall) rfl rfl rfl (hkn.2.2.2.1 _ hlink) (hts _ hini) hdsc hRR, hts _ hins, hts _ hsel⟩ hPre rfl (by rw [List.length_map]; exact hn) h3.1.1 hstk (lv_room hroom9) hd ⟨hk, hu⟩) h2 h3 kk
theorem g_callS (C : gC w l y cc nL ret d mc ms post px m Wp) {idx n : Nat} {y2 : MethodName} {cc2 : ByteArray} {nL2 : Nat} {ret2 : Option FieldType} {d2 mc2 ms2 : Nat} {post2 : Option Value → gH → Prop} (As rest : List Value) (hL : gLk y idx y2 cc2 nL2 ret2 n) (hlk : Cond.methodLink y.cls idx y2 ∈ gTb) (hsta : Cond.static y2 ∈ gTb) (hcls : y2.cls = y.cls) (hM : gCt w l y2 cc2 nL2 ret2 d2 mc2 ms2 As h post2) (hst : st = As.reverse ++ rest) (hn : As.length = n) (hdd : d2 < d) (hk : k + mc2 ≤ mc) (hu : u + ms2 ≤ ms) (hroom : (rest.map fun v => v.category).sum ≤ 8) (hd : decode cc pc = .ok (.invokestatic idx, 3))
    (kk : ∀ (r : Option Value) (h' : gH), post2 r h' → gG w m nL Wp h' (k + mc2) (u + ms2) lo (r.toList ++ rest) (pc + 3)) : gG w m nL Wp h k u lo st pc := by
  obtain ⟨p, e, s, args, below, meth, c, rfl, hx9, hb, hml, hown, hts, hkn, -⟩ := C
  obtain ⟨-, hini, hcode, hdsc, hnl⟩ := hL
  intro H locs ls h1 h2 h3
  subst hst
  have hPre : PreS s H (gPc w As h) (As.map (gv w)) := ⟨gPc_blind w _ h, fun U hU hW => ⟨rfl, hkn.warm hW, by rw [hU]; exact h1⟩⟩
  have hstk : (As.reverse ++ rest).map (gv w) = (As.map (gv w)).reverse ++ rest.map (gv w) := by rw [List.map_append, List.map_reverse]
  have hroom9 : ((rest.map (gv w)).map fun v => v.category).sum ≤ 8 := by rw [gst_cat]; exact hroom
  have hRR : (gRm d2 mc2 ms2).frames + 1 ≤ (gRm d mc ms).frames ∧ 8 + (nL2 + 11) + (gRm d2 mc2 ms2).locals ≤ (gRm d mc ms).locals := by
    refine ⟨hdd, ?_⟩
    show 8 + (nL2 + 11) + 30 * d2 ≤ 30 * d
    omega
  refine g_back (va_runS (As := As.map (gv w)) (rest := rest.map (gv w)) ⟨hx9, hb, hml, hown, hts⟩ hM (cwS n hts (gTb_good fun x hx => ?_) rfl rfl rfl ⟨hcls, hdsc⟩ hRR) hPre rfl (by rw [List.length_map]; exact hn) h3.1.1 hstk (lv_room hroom9) hd ⟨hk, hu⟩) h2 h3 kk
  simp only [wsS, List.mem_append, List.mem_cons, List.not_mem_nil, or_false] at hx
  rcases hx with (rfl | rfl | rfl) | hx
  · exact hlk
  · exact hsta
  · rw [← hcls]; exact hini
  · rcases hx with rfl | hx
    · exact hcode
    · exact hx
theorem g_callI (C : gC w l y cc nL ret d mc ms post px m Wp) {idx a n : Nat} {y2 : MethodName} {cc2 : ByteArray} {nL2 : Nat} {d2 mc2 ms2 : Nat} {post2 : Option Value → gH → Prop} (As rest : List Value) (hL : gLk y idx y2 cc2 nL2 none n) (hins : Cond.instanceMethod y2 ∈ gTb) (hy1 : y2.name = "<init>") (hM : gCt w l y2 cc2 nL2 none d2 mc2 ms2 (.ref a :: As) h post2) (hst : st = As.reverse ++ .ref a :: rest) (hn : As.length = n) (hdd : d2 < d) (hk : k + mc2 ≤ mc) (hu : u + ms2 ≤ ms) (hroom : (rest.map fun v => v.category).sum ≤ 8) (hd : decode cc pc = .ok (.invokespecial idx, 3))
    (kk : ∀ (r : Option Value) (h' : gH), post2 r h' → gG w m nL Wp h' (k + mc2) (u + ms2) lo (r.toList ++ rest) (pc + 3)) : gG w m nL Wp h k u lo st pc := by
  obtain ⟨p, e, s, args, below, meth, c, rfl, hx9, hb, hml, hown, hts, hkn, -⟩ := C
  obtain ⟨hlink, hini, hcode, hdsc, hnl⟩ := hL
  intro H locs ls h1 h2 h3
  subst hst
  have hall : ∀ x ∈ (Cond.code y2 cc2 nL2 none :: gTb), x ∈ gTb := fun x hx => (List.mem_cons.mp hx).elim (fun e => e ▸ hcode) id
  have hPre : PreS s H (gPc w (.ref a :: As) h) (.ref (gρ w a) :: As.map (gv w)) := ⟨gPc_blind w _ h, fun U hU hW => ⟨rfl, hkn.warm hW, by rw [hU]; exact h1⟩⟩
  have hstk : (As.reverse ++ .ref a :: rest).map (gv w) = (As.map (gv w)).reverse ++ .ref (gρ w a) :: rest.map (gv w) := by rw [List.map_append, List.map_reverse]; rfl
  have hroom9 : ((rest.map (gv w)).map fun v => v.category).sum ≤ 8 := by rw [gst_cat]; exact hroom
  have hRR : (gRm d2 mc2 ms2).frames + 1 ≤ (gRm d mc ms).frames ∧ 8 + (nL2 + 11) + (gRm d2 mc2 ms2).locals ≤ (gRm d mc ms).locals := by
    refine ⟨hdd, ?_⟩
    show 8 + (nL2 + 11) + 30 * d2 ≤ 30 * d
    omega
  rcases hlink with hlink | ⟨host, hlink⟩
  · exact g_back (va_runI (As := As.map (gv w)) (rest := rest.map (gv w)) ⟨hx9, hb, hml, hown, hts⟩ hM (cwI n hts (gTb_good hall) rfl rfl rfl (hts _ hini) (hts _ hlink) (hts _ hins) hy1 hdsc hRR) hPre rfl (by rw [List.length_map]; exact hn) h3.1.1 hstk (lv_room hroom9) hd ⟨hk, hu⟩) h2 h3 kk
  · exact g_back (va_runIN (As := As.map (gv w)) (rest := rest.map (gv w)) ⟨hx9, hb, hml, hown, hts⟩ hM ⟨va_cnB n hts (gTb_good hall) rfl rfl rfl (hkn.2.2.2.1 _ hlink) (hts _ hini) hdsc hRR, hy1, hts _ hins⟩ hPre rfl (by rw [List.length_map]; exact hn) h3.1.1 hstk (lv_room hroom9) hd ⟨hk, hu⟩) h2 h3 kk
theorem g_objInit (C : gC w l y cc nL ret d mc ms post px m Wp) {idx a : Nat} (hw : Cond.methodLink y.cls idx objectInit ∈ gTb ∧ Cond.instanceMethod objectInit ∈ gTb ∧ Cond.code objectInit ⟨#[0xb1]⟩ 1 none ∈ gTb) (hdd : 1 ≤ d) (hroom : (st.map fun v => v.category).sum ≤ 8) (hd : decode cc pc = .ok (.invokespecial idx, 3)) (kk : gG w m nL Wp h k u lo st (pc + 3)) : gG w m nL Wp h k u lo (.ref a :: st) pc := by
  obtain ⟨p, e, s, args, below, meth, c, rfl, hx9, hb, hml, hown, hts, hkn, -⟩ := C
  intro H locs ls h1 h2 h3
  have hroom9 : 2 * (F0 m pc ls (((.ref a :: st) : List Value).map (gv w))).monitorRoom + ((st.map (gv w)).map fun v => v.category).sum ≤ 8 := lv_room (by rw [gst_cat]; exact hroom)
  exact W.objInit hx9 hb hown (hts _ hw.1) (hts _ hw.2.1) (hts _ hw.2.2) rfl (by rw [hml]; exact h3.1.1) rfl hd hdd (by show _ ≤ 30 * d; omega) (kk H locs ls h1 h2 h3)
theorem g_newQ (C : gC w l y cc nL ret d mc ms post px m Wp) {x : Int} {idx : Nat} (n q : Nat) (hx : x = (n : Int)) (hn : n < 100000) (hq : q = 2 ∨ q = 3 ∨ q = 4) (hw : ∃ r, vwCl[q]? = some r ∧ Cond.classLink y.cls idx r.1 ∈ gTb) (hk : k + 1 ≤ mc) (hu : u + n ≤ ms) (hd : decode cc pc = .ok (.anewarray idx, 3)) (kk : gG w m nL Wp (gnew h (q + 8, n)) (k + 1) (u + n) lo (.ref (gn h + 1) :: st) (pc + 3)) : gG w m nL Wp h k u lo (.int (iI x) :: st) pc := by
  obtain ⟨p, e, s, args, below, meth, c, rfl, hx9, hb, hml, hown, hts, hkn, hr, hlocks, -⟩ := C
  subst hx
  rw [iI_nI]
  obtain ⟨r, hr1, hw1⟩ := hw
  intro H locs ls h1 h2 h3
  obtain ⟨hov, hty⟩ : va_AO r.1 s ∧ (gtys w)[q + 1]? = some (wcy w (q + 8), .object r.1) := by
    rcases hq with rfl | rfl | rfl
    · cases hr1; exact ⟨hkn.2.2.2.2.2.2.2.1.1, rfl⟩
    · cases hr1; exact ⟨hkn.2.2.2.2.2.2.2.1.2.1, rfl⟩
    · cases hr1; exact ⟨hkn.2.2.2.2.2.2.2.1.2.2, rfl⟩
  have hcl : (nI n).toNatClampNeg = n := nI_clamp (by omega)
  refine W.anew hx9 hb hown (hts _ hw1) (va_AO.use hov) rfl hd rfl (nI_pos (by omega)) (by rw [hcl]; omega) hk (by rw [hcl]; exact hu) fun cA kA comp f1 f2 f3 f4 => ?_
  obtain ⟨kA', comp', k1, k2, k3, k4⟩ := (hkn.2.2.1.2 (q + 1) _ hty).2
  have hcA : wcy w (q + 8) = cA := by
    first
      | exact Option.some.inj (k4.symm.trans f1)
      | exact Option.some.inj (k4.symm.trans f4)
  generalize hH1 : H.push ({ cls := cA, slots := Array.replicate (nI n).toNatClampNeg .null, vm := .none } : Cell) = H1
  have z1 : H1.size = H.size + 1 := by rw [← hH1, Array.size_push]
  have e1 : H1[H.size]? = some (arrV cA n (fun _ => .null)) := by rw [← hH1, Array.getElem?_push_size, ← arrV_new, hcl]
  have o1 : ∀ q : Nat, q < H.size → H1[q]? = H[q]? := fun q hq => by rw [← hH1, Array.getElem?_push, if_neg (Nat.ne_of_lt hq)]
  have hat : gat w (q + 8, n) (fun _ => 0) (fun _ => none) 0 H.size H1 := by
    refine ⟨fun z => absurd z (by dsimp only; omega), fun z => absurd z (by dsimp only; omega), fun z => absurd z (by dsimp only; omega), fun _ => ?_⟩
    rw [e1, ← hcA, vp_cell_q]; rfl
  have := kk H1 locs ls (h1.new (q + 8, n) z1 o1 hat) h2 h3
  rw [List.map_cons] at this
  rw [show gv w (.ref (gn h + 1)) = .ref H.size by show Value.ref (gρ w (gn h + 1)) = _; rw [gρ_pos (by omega), h1.1]; congr 1] at this
  rw [hcl]
  exact this
/-- some cells more, that nobody reads -/
theorem gRep.dead {w : gW} {h : gH} {H H1 : Heap} (hR : gRep w h H) (hz : H.size ≤ H1.size) (hq : ∀ q, q < H.size → H1[q]? = H[q]?) : gRep w (gdead h (H1.size - wz w)) H1 := by
  obtain ⟨r1, r2, r3, r4, r5⟩ := hR
  have eK : ∀ b, gK (gdead h (H1.size - wz w)) b = if b ≤ gn h then gK h b else (13, 0) := fun _ => rfl
  have en : gn (gdead h (H1.size - wz w)) = H1.size - wz w := rfl
  refine ⟨by rw [en]; omega, by rw [eK, if_pos (by omega)]; exact r2, fun a ha => by rw [eK, if_neg (by rw [en] at ha; omega)], fun b => ?_, fun q hlt => ?_⟩
  · by_cases e : b ≤ gn h
    · rw [eK, if_pos e]
      by_cases e0 : b = 0
      · rw [e0, r2]; exact gat.dead
      · exact (r4 b).kept (hq _ (by rw [gρ_pos (by omega), r1]; omega))
    · rw [eK, if_neg e]; exact gat.dead
  · rw [hq q (by rw [r1]; omega)]
    exact r5 q hlt
abbrev gNm : List String := ["java/lang/RuntimeException", "java/lang/Exception"]
/-- what the tables say of 'throw new E(text)' -/
def gThr (y : MethodName) (ik is ic : Nat) (E text : String) : Prop :=
  y.cls = RX5 ∧ Bundle.fit E = true ∧ (is, text) ∈ gStr ∧ Cond.classLink y.cls ik E ∈ gTb ∧ Cond.initialized E ∈ gTb ∧ (∀ x ∈ vx_atS y.cls ic E gNm, x ∈ gTb ∨ x ∈ gNs) ∧ (∀ x ∈ Cond.classLink y.cls ik E :: Cond.initialized E :: vx_atS y.cls ic E gNm, vx_ot x = true)
theorem g_throw (C : gC w l y cc nL ret d mc ms post px m Wp) (hfl : l.stackTraces = false) {ik is ic : Nat} {E text : String} (hT : gThr y ik is ic E text)
    (d0 : decode cc pc = .ok (.new ik, 3)) (d3 : decode cc (pc + 3) = .ok (.dup, 1)) (d4 : decode cc (pc + 4) = .ok (.ldc is, 2)) (d6 : decode cc (pc + 6) = .ok (.invokespecial ic, 3)) (d9 : decode cc (pc + 9) = .ok (.athrow, 1))
    (hdd : 6 ≤ d) (hk : k + 1 ≤ mc) (hu : u + 6 ≤ ms) (hroom : (st.map fun v => v.category).sum ≤ 8) (hp : ∀ n, gn h ≤ n → px E (gdead h n)) : gG w m nL Wp h k u lo st pc := by
  obtain ⟨p, e, s, args, below, meth, c, rfl, hx9, hb, hml, hown, hts, hkn, hr, hlocks, hno, hnm, hsz, hbase⟩ := C
  obtain ⟨hc5, hfit, hstr, w1, w2, w3, w4⟩ := hT
  intro H locs ls h1 h2 h3 T hT X
  have hsH : s.heap.size ≤ H.size := by rw [← hT]; exact (vx_frame X.same).1
  have hbH : ∀ q, q < wz w → H[q]? = s.heap[q]? := fun q hq => (h1.2.2.2.2 q hq).trans (hbase q hq).symm
  have hS : va_S (gA w) s.heap H locs := ⟨hsH, fun q _ hq => hbH q (Nat.not_le.mp hq), h2⟩
  have hZ : ∀ {a b c : String}, vx_Zq a b c (gA w) s (wH w) → vx_Zq a b c (gA w) s s.heap := fun z => z.kept (fun q _ hq => hbase q (Nat.not_le.mp hq))
  refine vx_throwS (names := gNm) (A := gA w) (sa := wS w is) (own := y.cls) (cls := E) (text := text) hx9 hb hfl hown hfit (by decide) (hts _ w1) (hts _ w2) (by rw [hc5]; exact hkn.2.2.2.2.2.2.1 _ hstr) (fun x hx => ?_) w4 (hZ hkn.2.2.2.2.1) (hZ hkn.2.2.2.2.2.1) hS (by rw [hml]; exact h3.1.1) d0 d3 d4 d6 d9 (fun x hx => (hno x hx).elim) (show 2 + 3 < d by omega) (by rw [gst_cat]; show _ + (13 * 3 + 43) ≤ 30 * d; omega) hk hu hlocks (fun t ht hz hq => ⟨_, hp (t.heap.size - wz w) ?_, h1.dead hz hq⟩) h2 hk hu T hT X
  · rcases w3 x hx with q | q
    · exact hts x q
    · exact va_Nw.use (gNw_tab (gNs_w q)) (hkn.2.2.2.1 x q)
  · have := h1.1
    omega
end GL
