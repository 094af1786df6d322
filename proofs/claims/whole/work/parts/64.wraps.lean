/-! THE LAW: its wrappers (laid by wip/whole/gen/l2.py) -/
/-- what a wrapper leaves: E was caught, or the answer lies in out -/
def qWp (Es : List String) (px2 : String → gH → Prop) (post2 : Option Value → gH → Prop) (f : Int → Int64) (r : Option Value) (h' : gH) : Prop :=
  (∃ (i : Nat) (E : String), Es[i]? = some E ∧ px2 E h' ∧ r = some (.int (iI ((i : Int) + 1)))) ∨ (r = some (.int (iI 0)) ∧ ∃ (a : Int) (h1 : gH), post2 (some (.int (iI a))) h1 ∧ h' = gputJ h1 47 (f a))
section GW2
variable {w : gW} {l : Launch} {y : MethodName} {cc : ByteArray} {nL : Nat} {ret : Option FieldType} {hh : List (Nat × Nat × Nat × Nat)} {d mc ms : Nat} {as : List Value} {h : gH} {post : Option Value → gH → Prop} {px : String → gH → Prop}
theorem gStartW (hy : plainName y.cls = true) (has : ∀ v ∈ as, v.category = 1) (hn : as.length ≤ nL)
    (body : ∀ (p : Program) (e : Env) (s : State) (m : MethodId) (args : Array Value) (below : List Frame) (meth : Method) (c : Code), gE w y cc nL ret p s m args meth c → c.exceptionTable.toList = tableOf hh → gG w m nL (eW p l e (gRm d mc ms) s m args below meth c (vx_MQ below (gQc w post) (gXC w (fun _ _ => False)) args s mc ms (gA w))) h 0 0 (as.map some ++ List.replicate (nL - as.length) none) [] 0) : gCw w l y cc nL ret hh d mc ms as h post := by
  have K : vx_Met l y (.codeWith y cc nL ret hh :: gTb) (gRm d mc ms) (gPc w as h) (gQc w post) (gXC w (fun _ _ => False)) mc ms (gA w) := by
    refine vx_ofWH (cc := cc) (maxL := nL) (ret := ret) (hh := hh) hy rfl ?_
    intro p e s m args below meth c s₁ B hml hv
    obtain ⟨rfl, hkn, hrep⟩ := hv
    have hts : ∀ x ∈ gTb, x.before (as.map (gv w)).toArray s = true := fun x hx => atoms_spec (ws := .codeWith y cc nL ret hh :: gTb) B.pre x (List.mem_cons_of_mem _ hx)
    have hown : s.vm.findClass y.cls = some m.cls := findClass_of_methodNamed B.named
    have htab := vx_table (x := y) B (atoms_spec (ws := .codeWith y cc nL ret hh :: gTb) B.pre _ List.mem_cons_self)
    have K := body p e s m _ below meth c ⟨B.exec, B.bytes, hml, hown, hts, hkn, B.returns, B.notSynchronized, by rw [hrep.1]; omega, hrep.2.2.2.2⟩ htab
    rw [lg_entry_eq]
    have hc1 : ∀ v ∈ as.map (gv w), v.category = 1 := fun v hv => by
      obtain ⟨x, hx, rfl⟩ := List.mem_map.mp hv
      rw [gv_cat]; exact has x hx
    have hl := lv_entry (as.map (gv w)) (n := nL) (by rw [g_slen _ hc1, List.length_map]; exact hn)
    refine K s.heap [] _ hrep (fun z hz => by cases hz) ⟨⟨hl.1, hl.2.1, fun q hq => by cases hq⟩, fun i v hi => ?_⟩
    have hi2 : as[i]? = some v := by
      rw [List.getElem?_append] at hi
      split at hi
      · rw [List.getElem?_map] at hi
        cases ha : as[i]? with
        | none => rw [ha] at hi; cases hi
        | some x => rw [ha] at hi; cases hi; rfl
      · rw [List.getElem?_replicate] at hi
        split at hi <;> cases hi
    refine ⟨has v (List.mem_of_getElem? hi2), ?_⟩
    have := hl.2.2 (0 + i, gv w v) (g_args _ 0 i (gv w v) hc1 (by rw [List.getElem?_map, hi2]; rfl))
    rwa [Nat.zero_add] at this
  intro p e ha hc hk s m args below hf happ hP hK
  obtain ⟨n, o, h1, h2, h3, h4⟩ := K p e ha hc hk s m args below hf happ hP hK
  refine ⟨n, o, h1, h2, h3, ?_⟩
  rcases h4 with h4 | ⟨q, -, E, ce, L, ⟨h', hx, -⟩, -⟩
  · exact h4
  · exact hx.elim
theorem e_iret {p : Program} {e : Env} {R : Room} {s : State} {m : MethodId} {args : Array Value} {below : List Frame} {meth : Method} {c : Code} {k u : Nat} {lo : List (Option Value)} {pc : Nat} (C : gE w y cc nL (some .int) p s m args meth c) {x : Int32} (hd : decode cc pc = .ok (.ireturn, 1)) (hk : k ≤ mc) (hu : u ≤ ms) (hp : post (some (.int x)) h) : gG w m nL (eW p l e R s m args below meth c (vx_MQ below (gQc w post) (gXC w px) args s mc ms (gA w))) h k u lo [.int x] pc := by
  obtain ⟨hx, hb, hml, hown, hts, hkn, hr, hlocks, -⟩ := C
  exact fun H locs ls a1 a2 a3 => W.widen hk hu (vx_ret (W.iret (v := x) hx hb hr (fun t ht hW => ⟨some (.int x), h, rfl, hp, by rw [ht]; exact a1⟩) a2 hd hlocks))
end GW2
theorem lc_IAE : Cond.castable "java/lang/IllegalArgumentException" "java/lang/IllegalArgumentException" ∈ gNs := gInN 228 (by decide +kernel) (by decide +kernel)
theorem lc_ISE : Cond.castable "java/lang/IllegalStateException" "java/lang/IllegalStateException" ∈ gNs := gInN 296 (by decide +kernel) (by decide +kernel)
theorem lc_IOB : Cond.castable "java/lang/IndexOutOfBoundsException" "java/lang/IndexOutOfBoundsException" ∈ gNs := gInN 328 (by decide +kernel) (by decide +kernel)
theorem lk_13 : Cond.classLink RL 13 "java/lang/IllegalArgumentException" ∈ gTb := gIn 220 (by decide +kernel) (by decide +kernel)
theorem lk_15 : Cond.classLink RL 15 "java/lang/IllegalStateException" ∈ gTb := gIn 221 (by decide +kernel) (by decide +kernel)
theorem lk_21 : Cond.classLink RL 21 "java/lang/IndexOutOfBoundsException" ∈ gTb := gIn 317 (by decide +kernel) (by decide +kernel)
theorem li_RL : Cond.initialized RL ∈ gTb := gIn 51 (by decide +kernel) (by decide +kernel)
theorem lq_machine : Cond.methodLink RL 77 yL_machine ∈ gTb ∧ Cond.static yL_machine ∈ gTb ∧ Cond.initialized yL_machine.cls ∈ gTb ∧ Cond.codeWith yL_machine cL_machine 4 (some .int) [(0, 9, 12, 13), (0, 9, 15, 15)] ∈ gTb := ⟨gIn 217 (by decide +kernel) (by decide +kernel), gIn 218 (by decide +kernel) (by decide +kernel), li_RL, gIn 219 (by decide +kernel) (by decide +kernel)⟩
theorem lq_down : Cond.methodLink RL 87 yL_down ∈ gTb ∧ Cond.static yL_down ∈ gTb ∧ Cond.initialized yL_down.cls ∈ gTb ∧ Cond.codeWith yL_down cL_down 5 (some .int) [(0, 17, 20, 21)] ∈ gTb := ⟨gIn 314 (by decide +kernel) (by decide +kernel), gIn 315 (by decide +kernel) (by decide +kernel), li_RL, gIn 316 (by decide +kernel) (by decide +kernel)⟩
theorem lq_quota : Cond.methodLink RL 91 yL_quota ∈ gTb ∧ Cond.static yL_quota ∈ gTb ∧ Cond.initialized yL_quota.cls ∈ gTb ∧ Cond.codeWith yL_quota cL_quota 5 (some .int) [(0, 10, 13, 21), (0, 10, 17, 13)] ∈ gTb := ⟨gIn 358 (by decide +kernel) (by decide +kernel), gIn 359 (by decide +kernel) (by decide +kernel), li_RL, gIn 360 (by decide +kernel) (by decide +kernel)⟩
theorem lq_limit : Cond.methodLink RL 95 yL_limit ∈ gTb ∧ Cond.static yL_limit ∈ gTb ∧ Cond.initialized yL_limit.cls ∈ gTb ∧ Cond.codeWith yL_limit cL_limit 4 (some .int) [(0, 9, 12, 13)] ∈ gTb := ⟨gIn 371 (by decide +kernel) (by decide +kernel), gIn 372 (by decide +kernel) (by decide +kernel), li_RL, gIn 373 (by decide +kernel) (by decide +kernel)⟩
theorem lq_write : Cond.methodLink RL 98 yL_write ∈ gTb ∧ Cond.static yL_write ∈ gTb ∧ Cond.initialized yL_write.cls ∈ gTb ∧ Cond.codeWith yL_write cL_write 6 (some .int) [(0, 12, 15, 21), (0, 12, 19, 13), (0, 12, 23, 15)] ∈ gTb := ⟨gIn 379 (by decide +kernel) (by decide +kernel), gIn 380 (by decide +kernel) (by decide +kernel), li_RL, gIn 381 (by decide +kernel) (by decide +kernel)⟩
theorem lq_take : Cond.methodLink RL 102 yL_take ∈ gTb ∧ Cond.static yL_take ∈ gTb ∧ Cond.initialized yL_take.cls ∈ gTb ∧ Cond.codeWith yL_take cL_take 4 (some .int) [(0, 9, 12, 21), (0, 9, 15, 15)] ∈ gTb := ⟨gIn 460 (by decide +kernel) (by decide +kernel), gIn 461 (by decide +kernel) (by decide +kernel), li_RL, gIn 462 (by decide +kernel) (by decide +kernel)⟩
theorem lq_read : Cond.methodLink RL 105 yL_read ∈ gTb ∧ Cond.static yL_read ∈ gTb ∧ Cond.initialized yL_read.cls ∈ gTb ∧ Cond.codeWith yL_read cL_read 4 (some .int) [(0, 9, 12, 21), (0, 9, 15, 15)] ∈ gTb := ⟨gIn 469 (by decide +kernel) (by decide +kernel), gIn 470 (by decide +kernel) (by decide +kernel), li_RL, gIn 471 (by decide +kernel) (by decide +kernel)⟩
theorem lq_split : Cond.methodLink RL 108 yL_split ∈ gTb ∧ Cond.static yL_split ∈ gTb ∧ Cond.initialized yL_split.cls ∈ gTb ∧ Cond.codeWith yL_split cL_split 4 (some .int) [(0, 9, 12, 21), (0, 9, 15, 15)] ∈ gTb := ⟨gIn 477 (by decide +kernel) (by decide +kernel), gIn 478 (by decide +kernel) (by decide +kernel), li_RL, gIn 479 (by decide +kernel) (by decide +kernel)⟩
theorem lq_join : Cond.methodLink RL 111 yL_join ∈ gTb ∧ Cond.static yL_join ∈ gTb ∧ Cond.initialized yL_join.cls ∈ gTb ∧ Cond.codeWith yL_join cL_join 4 (some .int) [(0, 9, 12, 21), (0, 9, 15, 15)] ∈ gTb := ⟨gIn 494 (by decide +kernel) (by decide +kernel), gIn 495 (by decide +kernel) (by decide +kernel), li_RL, gIn 496 (by decide +kernel) (by decide +kernel)⟩
theorem lq_move : Cond.methodLink RL 114 yL_move ∈ gTb ∧ Cond.static yL_move ∈ gTb ∧ Cond.initialized yL_move.cls ∈ gTb ∧ Cond.codeWith yL_move cL_move 5 (some .int) [(0, 10, 13, 21), (0, 10, 17, 15)] ∈ gTb := ⟨gIn 511 (by decide +kernel) (by decide +kernel), gIn 512 (by decide +kernel) (by decide +kernel), li_RL, gIn 513 (by decide +kernel) (by decide +kernel)⟩
theorem lq_callOff : Cond.methodLink RL 117 yL_callOff ∈ gTb ∧ Cond.static yL_callOff ∈ gTb ∧ Cond.initialized yL_callOff.cls ∈ gTb ∧ Cond.codeWith yL_callOff cL_callOff 4 (some .int) [(0, 9, 12, 21), (0, 9, 15, 15)] ∈ gTb := ⟨gIn 520 (by decide +kernel) (by decide +kernel), gIn 521 (by decide +kernel) (by decide +kernel), li_RL, gIn 522 (by decide +kernel) (by decide +kernel)⟩
theorem lq_pass : Cond.methodLink RL 120 yL_pass ∈ gTb ∧ Cond.static yL_pass ∈ gTb ∧ Cond.initialized yL_pass.cls ∈ gTb ∧ Cond.codeWith yL_pass cL_pass 4 (some .int) [(0, 9, 12, 13), (0, 9, 15, 15)] ∈ gTb := ⟨gIn 528 (by decide +kernel) (by decide +kernel), gIn 529 (by decide +kernel) (by decide +kernel), li_RL, gIn 530 (by decide +kernel) (by decide +kernel)⟩
theorem lq_shardOf : Cond.methodLink RL 131 yL_shardOf ∈ gTb ∧ Cond.static yL_shardOf ∈ gTb ∧ Cond.initialized yL_shardOf.cls ∈ gTb ∧ Cond.codeWith yL_shardOf cL_shardOf 4 (some .int) [(0, 9, 12, 21)] ∈ gTb := ⟨gIn 600 (by decide +kernel) (by decide +kernel), gIn 601 (by decide +kernel) (by decide +kernel), li_RL, gIn 602 (by decide +kernel) (by decide +kernel)⟩
theorem lq_shard : Cond.methodLink RL 134 yL_shard ∈ gTb ∧ Cond.static yL_shard ∈ gTb ∧ Cond.initialized yL_shard.cls ∈ gTb ∧ Cond.codeWith yL_shard cL_shard 5 (some .int) [(0, 10, 13, 21), (0, 10, 17, 13)] ∈ gTb := ⟨gIn 607 (by decide +kernel) (by decide +kernel), gIn 608 (by decide +kernel) (by decide +kernel), li_RL, gIn 609 (by decide +kernel) (by decide +kernel)⟩
theorem lq_machineOf : Cond.methodLink RL 137 yL_machineOf ∈ gTb ∧ Cond.static yL_machineOf ∈ gTb ∧ Cond.initialized yL_machineOf.cls ∈ gTb ∧ Cond.codeWith yL_machineOf cL_machineOf 5 (some .int) [(0, 10, 13, 21), (0, 10, 17, 13)] ∈ gTb := ⟨gIn 615 (by decide +kernel) (by decide +kernel), gIn 616 (by decide +kernel) (by decide +kernel), li_RL, gIn 617 (by decide +kernel) (by decide +kernel)⟩
theorem lq_tenant : Cond.methodLink RL 140 yL_tenant ∈ gTb ∧ Cond.static yL_tenant ∈ gTb ∧ Cond.initialized yL_tenant.cls ∈ gTb ∧ Cond.codeWith yL_tenant cL_tenant 5 (some .int) [(0, 10, 13, 21), (0, 10, 17, 13)] ∈ gTb := ⟨gIn 626 (by decide +kernel) (by decide +kernel), gIn 627 (by decide +kernel) (by decide +kernel), li_RL, gIn 628 (by decide +kernel) (by decide +kernel)⟩
theorem lq_billAnew : Cond.methodLink RL 143 yL_billAnew ∈ gTb ∧ Cond.static yL_billAnew ∈ gTb ∧ Cond.initialized yL_billAnew.cls ∈ gTb ∧ Cond.codeWith yL_billAnew cL_billAnew 4 (some .int) [(0, 9, 12, 21)] ∈ gTb := ⟨gIn 633 (by decide +kernel) (by decide +kernel), gIn 634 (by decide +kernel) (by decide +kernel), li_RL, gIn 635 (by decide +kernel) (by decide +kernel)⟩
theorem lq_whereAnew : Cond.methodLink RL 146 yL_whereAnew ∈ gTb ∧ Cond.static yL_whereAnew ∈ gTb ∧ Cond.initialized yL_whereAnew.cls ∈ gTb ∧ Cond.codeWith yL_whereAnew cL_whereAnew 4 (some .int) [(0, 9, 12, 21)] ∈ gTb := ⟨gIn 644 (by decide +kernel) (by decide +kernel), gIn 645 (by decide +kernel) (by decide +kernel), li_RL, gIn 646 (by decide +kernel) (by decide +kernel)⟩
section WR
variable {w : gW} {l : Launch} {h : gH} {mc ms : Nat} {post2 : Option Value → gH → Prop} {px2 : String → gH → Prop}

set_option maxRecDepth 100000 in
set_option maxHeartbeats 4000000 in
theorem w_machine {x : Int} (hM : gCx w l yX5_machine cX5_machine 3 (some .int) 7 mc ms [.ref 1, .int (iI x)] h post2 px2) (hK : gK h 1 = (5, 15)) (h47 : ∀ r h', post2 r h' → gK h' 47 = (9, 1) ∧ ∃ a, r = some (.int (iI a))) (hE : ∀ E h', px2 E h' → ∃ i : Nat, (["java/lang/IllegalArgumentException", "java/lang/IllegalStateException"] : List String)[i]? = some E) : gCw w l yL_machine cL_machine 4 (some .int) [(0, 9, 12, 13), (0, 9, 15, 15)] 8 mc ms [.ref 1, .int (iI x), .ref 47] h (qWp ["java/lang/IllegalArgumentException", "java/lang/IllegalStateException"] px2 post2 (fun a => (iI a).toInt64)) := by
  refine gStartW (by decide +kernel) (by simp [Value.category]) (Nat.le_of_ble_eq_true rfl) (fun p e s m args below meth c C ht => ?_)
  have hNc := C.2.2.2.2.2.1.2.2.2.2.2.2.2.2
  show gG w m 4 _ h 0 0 [some (.ref 1), some (.int (iI x)), some (.ref 47), none] [] 0
  refine e_aload_n C 2 dL_machine_0 rfl rfl ?_
  refine e_iconst C dL_machine_1 ?_
  refine e_aload_n C 0 dL_machine_2 rfl rfl ?_
  refine e_iload_n C 1 dL_machine_3 rfl rfl ?_
  refine e_callX C [.int (iI x)] [.int (iI 0), .ref 47] wd_222 (kL_7 rfl) hM rfl rfl hK (Nat.le_of_ble_eq_true rfl) (Nat.le_of_ble_eq_true rfl) (by show 0 + mc ≤ mc; omega) (by show 0 + ms ≤ ms; omega) (by simp [Value.category]) dL_machine_4 (fun E h' hp => ?_) (fun r h' hp => ?_)
  · obtain ⟨i, hi⟩ := hE E h' hp
    rcases i with _ | _ | i
    · cases hi
      refine e_catch C [] ⟨0, 9, 12, 13⟩ [⟨0, 9, 15, 15⟩] ht (fun z hz => nomatch hz) rfl (by decide) lk_13 lc_IAE 3 (by decide) (Or.inl ⟨3, rfl, dL_machine_12, ?_⟩)
      refine e_iconst C dL_machine_13 ?_
      exact e_iret C dL_machine_14 (by omega) (by omega) (Or.inl ⟨0, _, rfl, hp, rfl⟩)
    · cases hi
      refine e_catch C [⟨0, 9, 12, 13⟩] ⟨0, 9, 15, 15⟩ [] ht (fun z hz => by rw [List.mem_singleton.mp hz]; exact Or.inr ⟨by decide, "java/lang/IllegalArgumentException", lk_13, hNc _ (by simp) _ (by simp) (by decide)⟩) rfl (by decide) lk_15 lc_ISE 3 (by decide) (Or.inl ⟨3, rfl, dL_machine_15, ?_⟩)
      refine e_iconst C dL_machine_16 ?_
      exact e_iret C dL_machine_17 (by omega) (by omega) (Or.inl ⟨1, _, rfl, hp, rfl⟩)
    · simp at hi
  · obtain ⟨k47, a, rfl⟩ := h47 r h' hp
    refine e_i2l C dL_machine_7 ?_
    refine e_last C k47 dL_machine_8 ?_
    refine e_goto C 18 dL_machine_9 (by decide) ?_
    refine e_iconst C dL_machine_18 ?_
    exact e_iret C dL_machine_19 (by omega) (by omega) (Or.inr ⟨rfl, a, h', hp, rfl⟩)

set_option maxRecDepth 100000 in
set_option maxHeartbeats 4000000 in
theorem w_down {x z : Int} (hM : gCx w l yX5_down cX5_down 5 (some .boolean) 7 mc ms [.ref 1, .int (iI x), .int (iI z)] h post2 px2) (hK : gK h 1 = (5, 15)) (h47 : ∀ r h', post2 r h' → gK h' 47 = (9, 1) ∧ ∃ a, r = some (.int (iI a))) (hE : ∀ E h', px2 E h' → ∃ i : Nat, (["java/lang/IndexOutOfBoundsException"] : List String)[i]? = some E) : gCw w l yL_down cL_down 5 (some .int) [(0, 17, 20, 21)] 8 mc ms [.ref 1, .int (iI x), .int (iI z), .ref 47] h (qWp ["java/lang/IndexOutOfBoundsException"] px2 post2 (fun a => if (iI a).toInt = 0 then 0 else 1)) := by
  refine gStartW (by decide +kernel) (by simp [Value.category]) (Nat.le_of_ble_eq_true rfl) (fun p e s m args below meth c C ht => ?_)
  have hNc := C.2.2.2.2.2.1.2.2.2.2.2.2.2.2
  show gG w m 5 _ h 0 0 [some (.ref 1), some (.int (iI x)), some (.int (iI z)), some (.ref 47), none] [] 0
  refine e_aload_n C 3 dL_down_0 rfl rfl ?_
  refine e_iconst C dL_down_1 ?_
  refine e_aload_n C 0 dL_down_2 rfl rfl ?_
  refine e_iload_n C 1 dL_down_3 rfl rfl ?_
  refine e_iload_n C 2 dL_down_4 rfl rfl ?_
  refine e_callX C [.int (iI x), .int (iI z)] [.int (iI 0), .ref 47] wd_318 (kL_17 rfl) hM rfl rfl hK (Nat.le_of_ble_eq_true rfl) (Nat.le_of_ble_eq_true rfl) (by show 0 + mc ≤ mc; omega) (by show 0 + ms ≤ ms; omega) (by simp [Value.category]) dL_down_5 (fun E h' hp => ?_) (fun r h' hp => ?_)
  · obtain ⟨i, hi⟩ := hE E h' hp
    rcases i with _ | i
    · cases hi
      refine e_catch C [] ⟨0, 17, 20, 21⟩ [] ht (fun z hz => nomatch hz) rfl (by decide) lk_21 lc_IOB 4 (by decide) (Or.inr ⟨dL_down_20, ?_⟩)
      refine e_iconst C dL_down_22 ?_
      exact e_iret C dL_down_23 (by omega) (by omega) (Or.inl ⟨0, _, rfl, hp, rfl⟩)
    · simp at hi
  · obtain ⟨k47, a, rfl⟩ := h47 r h' hp
    show gG w m 5 _ h' (0 + mc) (0 + ms) [some (.ref 1), some (.int (iI x)), some (.int (iI z)), some (.ref 47), none] [.int (iI a), .int (iI 0), .ref 47] 8
    have fin : ∀ v : Int64, v = (if (iI a).toInt = 0 then 0 else 1) → gG w m 5 (eW p l e (gRm 8 mc ms) s m args below meth c (vx_MQ below (gQc w (qWp ["java/lang/IndexOutOfBoundsException"] px2 post2 (fun a => if (iI a).toInt = 0 then 0 else 1))) (gXC w (fun _ _ => False)) args s mc ms (gA w))) h' (0 + mc) (0 + ms) [some (.ref 1), some (.int (iI x)), some (.int (iI z)), some (.ref 47), none] [.long v, .int (iI 0), .ref 47] 16 := by
      intro v hv
      refine e_last C k47 dL_down_16 ?_
      refine e_goto C 24 dL_down_17 (by decide) ?_
      refine e_iconst C dL_down_24 ?_
      exact e_iret C dL_down_25 (by omega) (by omega) (Or.inr ⟨rfl, a, h', hp, by rw [hv]⟩)
    rw [← iI_of (iI a)]
    refine e_if_eq C 15 dL_down_8 (by decide) ⟨(iI a).le_toInt, (iI a).toInt_lt⟩ (fun c8 => ?_) (fun c8 => ?_)
    · refine e_lconst C 0 dL_down_15 rfl ?_
      exact fin 0 (by rw [if_pos c8])
    · refine e_lconst C 1 dL_down_11 rfl ?_
      refine e_goto C 16 dL_down_12 (by decide) ?_
      exact fin 1 (by rw [if_neg c8])

set_option maxRecDepth 100000 in
set_option maxHeartbeats 4000000 in
theorem w_quota {x z : Int} (hM : gCx w l yX5_quota cX5_quota 4 (some .int) 7 mc ms [.ref 1, .int (iI x), .int (iI z)] h post2 px2) (hK : gK h 1 = (5, 15)) (h47 : ∀ r h', post2 r h' → gK h' 47 = (9, 1) ∧ ∃ a, r = some (.int (iI a))) (hE : ∀ E h', px2 E h' → ∃ i : Nat, (["java/lang/IndexOutOfBoundsException", "java/lang/IllegalArgumentException"] : List String)[i]? = some E) : gCw w l yL_quota cL_quota 5 (some .int) [(0, 10, 13, 21), (0, 10, 17, 13)] 8 mc ms [.ref 1, .int (iI x), .int (iI z), .ref 47] h (qWp ["java/lang/IndexOutOfBoundsException", "java/lang/IllegalArgumentException"] px2 post2 (fun a => (iI a).toInt64)) := by
  refine gStartW (by decide +kernel) (by simp [Value.category]) (Nat.le_of_ble_eq_true rfl) (fun p e s m args below meth c C ht => ?_)
  have hNc := C.2.2.2.2.2.1.2.2.2.2.2.2.2.2
  show gG w m 5 _ h 0 0 [some (.ref 1), some (.int (iI x)), some (.int (iI z)), some (.ref 47), none] [] 0
  refine e_aload_n C 3 dL_quota_0 rfl rfl ?_
  refine e_iconst C dL_quota_1 ?_
  refine e_aload_n C 0 dL_quota_2 rfl rfl ?_
  refine e_iload_n C 1 dL_quota_3 rfl rfl ?_
  refine e_iload_n C 2 dL_quota_4 rfl rfl ?_
  refine e_callX C [.int (iI x), .int (iI z)] [.int (iI 0), .ref 47] wd_361 (kL_23 rfl) hM rfl rfl hK (Nat.le_of_ble_eq_true rfl) (Nat.le_of_ble_eq_true rfl) (by show 0 + mc ≤ mc; omega) (by show 0 + ms ≤ ms; omega) (by simp [Value.category]) dL_quota_5 (fun E h' hp => ?_) (fun r h' hp => ?_)
  · obtain ⟨i, hi⟩ := hE E h' hp
    rcases i with _ | _ | i
    · cases hi
      refine e_catch C [] ⟨0, 10, 13, 21⟩ [⟨0, 10, 17, 13⟩] ht (fun z hz => nomatch hz) rfl (by decide) lk_21 lc_IOB 4 (by decide) (Or.inr ⟨dL_quota_13, ?_⟩)
      refine e_iconst C dL_quota_15 ?_
      exact e_iret C dL_quota_16 (by omega) (by omega) (Or.inl ⟨0, _, rfl, hp, rfl⟩)
    · cases hi
      refine e_catch C [⟨0, 10, 13, 21⟩] ⟨0, 10, 17, 13⟩ [] ht (fun z hz => by rw [List.mem_singleton.mp hz]; exact Or.inr ⟨by decide, "java/lang/IndexOutOfBoundsException", lk_21, hNc _ (by simp) _ (by simp) (by decide)⟩) rfl (by decide) lk_13 lc_IAE 4 (by decide) (Or.inr ⟨dL_quota_17, ?_⟩)
      refine e_iconst C dL_quota_19 ?_
      exact e_iret C dL_quota_20 (by omega) (by omega) (Or.inl ⟨1, _, rfl, hp, rfl⟩)
    · simp at hi
  · obtain ⟨k47, a, rfl⟩ := h47 r h' hp
    refine e_i2l C dL_quota_8 ?_
    refine e_last C k47 dL_quota_9 ?_
    refine e_goto C 21 dL_quota_10 (by decide) ?_
    refine e_iconst C dL_quota_21 ?_
    exact e_iret C dL_quota_22 (by omega) (by omega) (Or.inr ⟨rfl, a, h', hp, rfl⟩)

set_option maxRecDepth 100000 in
set_option maxHeartbeats 4000000 in
theorem w_limit {x : Int} (hM : gCx w l yX5_limit cX5_limit 3 (some .int) 7 mc ms [.ref 1, .int (iI x)] h post2 px2) (hK : gK h 1 = (5, 15)) (h47 : ∀ r h', post2 r h' → gK h' 47 = (9, 1) ∧ ∃ a, r = some (.int (iI a))) (hE : ∀ E h', px2 E h' → ∃ i : Nat, (["java/lang/IllegalArgumentException"] : List String)[i]? = some E) : gCw w l yL_limit cL_limit 4 (some .int) [(0, 9, 12, 13)] 8 mc ms [.ref 1, .int (iI x), .ref 47] h (qWp ["java/lang/IllegalArgumentException"] px2 post2 (fun a => (iI a).toInt64)) := by
  refine gStartW (by decide +kernel) (by simp [Value.category]) (Nat.le_of_ble_eq_true rfl) (fun p e s m args below meth c C ht => ?_)
  have hNc := C.2.2.2.2.2.1.2.2.2.2.2.2.2.2
  show gG w m 4 _ h 0 0 [some (.ref 1), some (.int (iI x)), some (.ref 47), none] [] 0
  refine e_aload_n C 2 dL_limit_0 rfl rfl ?_
  refine e_iconst C dL_limit_1 ?_
  refine e_aload_n C 0 dL_limit_2 rfl rfl ?_
  refine e_iload_n C 1 dL_limit_3 rfl rfl ?_
  refine e_callX C [.int (iI x)] [.int (iI 0), .ref 47] wd_374 (kL_27 rfl) hM rfl rfl hK (Nat.le_of_ble_eq_true rfl) (Nat.le_of_ble_eq_true rfl) (by show 0 + mc ≤ mc; omega) (by show 0 + ms ≤ ms; omega) (by simp [Value.category]) dL_limit_4 (fun E h' hp => ?_) (fun r h' hp => ?_)
  · obtain ⟨i, hi⟩ := hE E h' hp
    rcases i with _ | i
    · cases hi
      refine e_catch C [] ⟨0, 9, 12, 13⟩ [] ht (fun z hz => nomatch hz) rfl (by decide) lk_13 lc_IAE 3 (by decide) (Or.inl ⟨3, rfl, dL_limit_12, ?_⟩)
      refine e_iconst C dL_limit_13 ?_
      exact e_iret C dL_limit_14 (by omega) (by omega) (Or.inl ⟨0, _, rfl, hp, rfl⟩)
    · simp at hi
  · obtain ⟨k47, a, rfl⟩ := h47 r h' hp
    refine e_i2l C dL_limit_7 ?_
    refine e_last C k47 dL_limit_8 ?_
    refine e_goto C 15 dL_limit_9 (by decide) ?_
    refine e_iconst C dL_limit_15 ?_
    exact e_iret C dL_limit_16 (by omega) (by omega) (Or.inr ⟨rfl, a, h', hp, rfl⟩)

set_option maxRecDepth 100000 in
set_option maxHeartbeats 4000000 in
theorem w_write {x z t : Int} (hM : gCx w l yX5_write cX5_write 5 (some .int) 7 mc ms [.ref 1, .int (iI x), .int (iI z), .int (iI t)] h post2 px2) (hK : gK h 1 = (5, 15)) (h47 : ∀ r h', post2 r h' → gK h' 47 = (9, 1) ∧ ∃ a, r = some (.int (iI a))) (hE : ∀ E h', px2 E h' → ∃ i : Nat, (["java/lang/IndexOutOfBoundsException", "java/lang/IllegalArgumentException", "java/lang/IllegalStateException"] : List String)[i]? = some E) : gCw w l yL_write cL_write 6 (some .int) [(0, 12, 15, 21), (0, 12, 19, 13), (0, 12, 23, 15)] 8 mc ms [.ref 1, .int (iI x), .int (iI z), .int (iI t), .ref 47] h (qWp ["java/lang/IndexOutOfBoundsException", "java/lang/IllegalArgumentException", "java/lang/IllegalStateException"] px2 post2 (fun a => (iI a).toInt64)) := by
  refine gStartW (by decide +kernel) (by simp [Value.category]) (Nat.le_of_ble_eq_true rfl) (fun p e s m args below meth c C ht => ?_)
  have hNc := C.2.2.2.2.2.1.2.2.2.2.2.2.2.2
  show gG w m 6 _ h 0 0 [some (.ref 1), some (.int (iI x)), some (.int (iI z)), some (.int (iI t)), some (.ref 47), none] [] 0
  refine e_aload C dL_write_0 rfl ?_
  refine e_iconst C dL_write_2 ?_
  refine e_aload_n C 0 dL_write_3 rfl rfl ?_
  refine e_iload_n C 1 dL_write_4 rfl rfl ?_
  refine e_iload_n C 2 dL_write_5 rfl rfl ?_
  refine e_iload_n C 3 dL_write_6 rfl rfl ?_
  refine e_callX C [.int (iI x), .int (iI z), .int (iI t)] [.int (iI 0), .ref 47] wd_382 (kL_30 rfl) hM rfl rfl hK (Nat.le_of_ble_eq_true rfl) (Nat.le_of_ble_eq_true rfl) (by show 0 + mc ≤ mc; omega) (by show 0 + ms ≤ ms; omega) (by simp [Value.category]) dL_write_7 (fun E h' hp => ?_) (fun r h' hp => ?_)
  · obtain ⟨i, hi⟩ := hE E h' hp
    rcases i with _ | _ | _ | i
    · cases hi
      refine e_catch C [] ⟨0, 12, 15, 21⟩ [⟨0, 12, 19, 13⟩, ⟨0, 12, 23, 15⟩] ht (fun z hz => nomatch hz) rfl (by decide) lk_21 lc_IOB 5 (by decide) (Or.inr ⟨dL_write_15, ?_⟩)
      refine e_iconst C dL_write_17 ?_
      exact e_iret C dL_write_18 (by omega) (by omega) (Or.inl ⟨0, _, rfl, hp, rfl⟩)
    · cases hi
      refine e_catch C [⟨0, 12, 15, 21⟩] ⟨0, 12, 19, 13⟩ [⟨0, 12, 23, 15⟩] ht (fun z hz => by rw [List.mem_singleton.mp hz]; exact Or.inr ⟨by decide, "java/lang/IndexOutOfBoundsException", lk_21, hNc _ (by simp) _ (by simp) (by decide)⟩) rfl (by decide) lk_13 lc_IAE 5 (by decide) (Or.inr ⟨dL_write_19, ?_⟩)
      refine e_iconst C dL_write_21 ?_
      exact e_iret C dL_write_22 (by omega) (by omega) (Or.inl ⟨1, _, rfl, hp, rfl⟩)
    · cases hi
      refine e_catch C [⟨0, 12, 15, 21⟩, ⟨0, 12, 19, 13⟩] ⟨0, 12, 23, 15⟩ [] ht (fun z hz => by rcases List.mem_cons.mp hz with rfl | hz; exact Or.inr ⟨by decide, "java/lang/IndexOutOfBoundsException", lk_21, hNc _ (by simp) _ (by simp) (by decide)⟩; rw [List.mem_singleton.mp hz]; exact Or.inr ⟨by decide, "java/lang/IllegalArgumentException", lk_13, hNc _ (by simp) _ (by simp) (by decide)⟩) rfl (by decide) lk_15 lc_ISE 5 (by decide) (Or.inr ⟨dL_write_23, ?_⟩)
      refine e_iconst C dL_write_25 ?_
      exact e_iret C dL_write_26 (by omega) (by omega) (Or.inl ⟨2, _, rfl, hp, rfl⟩)
    · simp at hi
  · obtain ⟨k47, a, rfl⟩ := h47 r h' hp
    refine e_i2l C dL_write_10 ?_
    refine e_last C k47 dL_write_11 ?_
    refine e_goto C 27 dL_write_12 (by decide) ?_
    refine e_iconst C dL_write_27 ?_
    exact e_iret C dL_write_28 (by omega) (by omega) (Or.inr ⟨rfl, a, h', hp, rfl⟩)

set_option maxRecDepth 100000 in
set_option maxHeartbeats 4000000 in
theorem w_take {x : Int} (hM : gCx w l yX5_take cX5_take 4 (some .int) 7 mc ms [.ref 1, .int (iI x)] h post2 px2) (hK : gK h 1 = (5, 15)) (h47 : ∀ r h', post2 r h' → gK h' 47 = (9, 1) ∧ ∃ a, r = some (.int (iI a))) (hE : ∀ E h', px2 E h' → ∃ i : Nat, (["java/lang/IndexOutOfBoundsException", "java/lang/IllegalStateException"] : List String)[i]? = some E) : gCw w l yL_take cL_take 4 (some .int) [(0, 9, 12, 21), (0, 9, 15, 15)] 8 mc ms [.ref 1, .int (iI x), .ref 47] h (qWp ["java/lang/IndexOutOfBoundsException", "java/lang/IllegalStateException"] px2 post2 (fun a => (iI a).toInt64)) := by
  refine gStartW (by decide +kernel) (by simp [Value.category]) (Nat.le_of_ble_eq_true rfl) (fun p e s m args below meth c C ht => ?_)
  have hNc := C.2.2.2.2.2.1.2.2.2.2.2.2.2.2
  show gG w m 4 _ h 0 0 [some (.ref 1), some (.int (iI x)), some (.ref 47), none] [] 0
  refine e_aload_n C 2 dL_take_0 rfl rfl ?_
  refine e_iconst C dL_take_1 ?_
  refine e_aload_n C 0 dL_take_2 rfl rfl ?_
  refine e_iload_n C 1 dL_take_3 rfl rfl ?_
  refine e_callX C [.int (iI x)] [.int (iI 0), .ref 47] wd_463 (kL_34 rfl) hM rfl rfl hK (Nat.le_of_ble_eq_true rfl) (Nat.le_of_ble_eq_true rfl) (by show 0 + mc ≤ mc; omega) (by show 0 + ms ≤ ms; omega) (by simp [Value.category]) dL_take_4 (fun E h' hp => ?_) (fun r h' hp => ?_)
  · obtain ⟨i, hi⟩ := hE E h' hp
    rcases i with _ | _ | i
    · cases hi
      refine e_catch C [] ⟨0, 9, 12, 21⟩ [⟨0, 9, 15, 15⟩] ht (fun z hz => nomatch hz) rfl (by decide) lk_21 lc_IOB 3 (by decide) (Or.inl ⟨3, rfl, dL_take_12, ?_⟩)
      refine e_iconst C dL_take_13 ?_
      exact e_iret C dL_take_14 (by omega) (by omega) (Or.inl ⟨0, _, rfl, hp, rfl⟩)
    · cases hi
      refine e_catch C [⟨0, 9, 12, 21⟩] ⟨0, 9, 15, 15⟩ [] ht (fun z hz => by rw [List.mem_singleton.mp hz]; exact Or.inr ⟨by decide, "java/lang/IndexOutOfBoundsException", lk_21, hNc _ (by simp) _ (by simp) (by decide)⟩) rfl (by decide) lk_15 lc_ISE 3 (by decide) (Or.inl ⟨3, rfl, dL_take_15, ?_⟩)
      refine e_iconst C dL_take_16 ?_
      exact e_iret C dL_take_17 (by omega) (by omega) (Or.inl ⟨1, _, rfl, hp, rfl⟩)
    · simp at hi
  · obtain ⟨k47, a, rfl⟩ := h47 r h' hp
    refine e_i2l C dL_take_7 ?_
    refine e_last C k47 dL_take_8 ?_
    refine e_goto C 18 dL_take_9 (by decide) ?_
    refine e_iconst C dL_take_18 ?_
    exact e_iret C dL_take_19 (by omega) (by omega) (Or.inr ⟨rfl, a, h', hp, rfl⟩)

set_option maxRecDepth 100000 in
set_option maxHeartbeats 4000000 in
theorem w_read {x : Int} (hM : gCx w l yX5_read cX5_read 3 (some .int) 7 mc ms [.ref 1, .int (iI x)] h post2 px2) (hK : gK h 1 = (5, 15)) (h47 : ∀ r h', post2 r h' → gK h' 47 = (9, 1) ∧ ∃ a, r = some (.int (iI a))) (hE : ∀ E h', px2 E h' → ∃ i : Nat, (["java/lang/IndexOutOfBoundsException", "java/lang/IllegalStateException"] : List String)[i]? = some E) : gCw w l yL_read cL_read 4 (some .int) [(0, 9, 12, 21), (0, 9, 15, 15)] 8 mc ms [.ref 1, .int (iI x), .ref 47] h (qWp ["java/lang/IndexOutOfBoundsException", "java/lang/IllegalStateException"] px2 post2 (fun a => (iI a).toInt64)) := by
  refine gStartW (by decide +kernel) (by simp [Value.category]) (Nat.le_of_ble_eq_true rfl) (fun p e s m args below meth c C ht => ?_)
  have hNc := C.2.2.2.2.2.1.2.2.2.2.2.2.2.2
  show gG w m 4 _ h 0 0 [some (.ref 1), some (.int (iI x)), some (.ref 47), none] [] 0
  refine e_aload_n C 2 dL_read_0 rfl rfl ?_
  refine e_iconst C dL_read_1 ?_
  refine e_aload_n C 0 dL_read_2 rfl rfl ?_
  refine e_iload_n C 1 dL_read_3 rfl rfl ?_
  refine e_callX C [.int (iI x)] [.int (iI 0), .ref 47] wd_472 (kL_37 rfl) hM rfl rfl hK (Nat.le_of_ble_eq_true rfl) (Nat.le_of_ble_eq_true rfl) (by show 0 + mc ≤ mc; omega) (by show 0 + ms ≤ ms; omega) (by simp [Value.category]) dL_read_4 (fun E h' hp => ?_) (fun r h' hp => ?_)
  · obtain ⟨i, hi⟩ := hE E h' hp
    rcases i with _ | _ | i
    · cases hi
      refine e_catch C [] ⟨0, 9, 12, 21⟩ [⟨0, 9, 15, 15⟩] ht (fun z hz => nomatch hz) rfl (by decide) lk_21 lc_IOB 3 (by decide) (Or.inl ⟨3, rfl, dL_read_12, ?_⟩)
      refine e_iconst C dL_read_13 ?_
      exact e_iret C dL_read_14 (by omega) (by omega) (Or.inl ⟨0, _, rfl, hp, rfl⟩)
    · cases hi
      refine e_catch C [⟨0, 9, 12, 21⟩] ⟨0, 9, 15, 15⟩ [] ht (fun z hz => by rw [List.mem_singleton.mp hz]; exact Or.inr ⟨by decide, "java/lang/IndexOutOfBoundsException", lk_21, hNc _ (by simp) _ (by simp) (by decide)⟩) rfl (by decide) lk_15 lc_ISE 3 (by decide) (Or.inl ⟨3, rfl, dL_read_15, ?_⟩)
      refine e_iconst C dL_read_16 ?_
      exact e_iret C dL_read_17 (by omega) (by omega) (Or.inl ⟨1, _, rfl, hp, rfl⟩)
    · simp at hi
  · obtain ⟨k47, a, rfl⟩ := h47 r h' hp
    refine e_i2l C dL_read_7 ?_
    refine e_last C k47 dL_read_8 ?_
    refine e_goto C 18 dL_read_9 (by decide) ?_
    refine e_iconst C dL_read_18 ?_
    exact e_iret C dL_read_19 (by omega) (by omega) (Or.inr ⟨rfl, a, h', hp, rfl⟩)

set_option maxRecDepth 100000 in
set_option maxHeartbeats 4000000 in
theorem w_split {x : Int} (hM : gCx w l yX5_split cX5_split 6 (some .int) 7 mc ms [.ref 1, .int (iI x)] h post2 px2) (hK : gK h 1 = (5, 15)) (h47 : ∀ r h', post2 r h' → gK h' 47 = (9, 1) ∧ ∃ a, r = some (.int (iI a))) (hE : ∀ E h', px2 E h' → ∃ i : Nat, (["java/lang/IndexOutOfBoundsException", "java/lang/IllegalStateException"] : List String)[i]? = some E) : gCw w l yL_split cL_split 4 (some .int) [(0, 9, 12, 21), (0, 9, 15, 15)] 8 mc ms [.ref 1, .int (iI x), .ref 47] h (qWp ["java/lang/IndexOutOfBoundsException", "java/lang/IllegalStateException"] px2 post2 (fun a => (iI a).toInt64)) := by
  refine gStartW (by decide +kernel) (by simp [Value.category]) (Nat.le_of_ble_eq_true rfl) (fun p e s m args below meth c C ht => ?_)
  have hNc := C.2.2.2.2.2.1.2.2.2.2.2.2.2.2
  show gG w m 4 _ h 0 0 [some (.ref 1), some (.int (iI x)), some (.ref 47), none] [] 0
  refine e_aload_n C 2 dL_split_0 rfl rfl ?_
  refine e_iconst C dL_split_1 ?_
  refine e_aload_n C 0 dL_split_2 rfl rfl ?_
  refine e_iload_n C 1 dL_split_3 rfl rfl ?_
  refine e_callX C [.int (iI x)] [.int (iI 0), .ref 47] wd_480 (kL_40 rfl) hM rfl rfl hK (Nat.le_of_ble_eq_true rfl) (Nat.le_of_ble_eq_true rfl) (by show 0 + mc ≤ mc; omega) (by show 0 + ms ≤ ms; omega) (by simp [Value.category]) dL_split_4 (fun E h' hp => ?_) (fun r h' hp => ?_)
  · obtain ⟨i, hi⟩ := hE E h' hp
    rcases i with _ | _ | i
    · cases hi
      refine e_catch C [] ⟨0, 9, 12, 21⟩ [⟨0, 9, 15, 15⟩] ht (fun z hz => nomatch hz) rfl (by decide) lk_21 lc_IOB 3 (by decide) (Or.inl ⟨3, rfl, dL_split_12, ?_⟩)
      refine e_iconst C dL_split_13 ?_
      exact e_iret C dL_split_14 (by omega) (by omega) (Or.inl ⟨0, _, rfl, hp, rfl⟩)
    · cases hi
      refine e_catch C [⟨0, 9, 12, 21⟩] ⟨0, 9, 15, 15⟩ [] ht (fun z hz => by rw [List.mem_singleton.mp hz]; exact Or.inr ⟨by decide, "java/lang/IndexOutOfBoundsException", lk_21, hNc _ (by simp) _ (by simp) (by decide)⟩) rfl (by decide) lk_15 lc_ISE 3 (by decide) (Or.inl ⟨3, rfl, dL_split_15, ?_⟩)
      refine e_iconst C dL_split_16 ?_
      exact e_iret C dL_split_17 (by omega) (by omega) (Or.inl ⟨1, _, rfl, hp, rfl⟩)
    · simp at hi
  · obtain ⟨k47, a, rfl⟩ := h47 r h' hp
    refine e_i2l C dL_split_7 ?_
    refine e_last C k47 dL_split_8 ?_
    refine e_goto C 18 dL_split_9 (by decide) ?_
    refine e_iconst C dL_split_18 ?_
    exact e_iret C dL_split_19 (by omega) (by omega) (Or.inr ⟨rfl, a, h', hp, rfl⟩)

set_option maxRecDepth 100000 in
set_option maxHeartbeats 4000000 in
theorem w_join {x : Int} (hM : gCx w l yX5_join cX5_join 5 (some .int) 7 mc ms [.ref 1, .int (iI x)] h post2 px2) (hK : gK h 1 = (5, 15)) (h47 : ∀ r h', post2 r h' → gK h' 47 = (9, 1) ∧ ∃ a, r = some (.int (iI a))) (hE : ∀ E h', px2 E h' → ∃ i : Nat, (["java/lang/IndexOutOfBoundsException", "java/lang/IllegalStateException"] : List String)[i]? = some E) : gCw w l yL_join cL_join 4 (some .int) [(0, 9, 12, 21), (0, 9, 15, 15)] 8 mc ms [.ref 1, .int (iI x), .ref 47] h (qWp ["java/lang/IndexOutOfBoundsException", "java/lang/IllegalStateException"] px2 post2 (fun a => (iI a).toInt64)) := by
  refine gStartW (by decide +kernel) (by simp [Value.category]) (Nat.le_of_ble_eq_true rfl) (fun p e s m args below meth c C ht => ?_)
  have hNc := C.2.2.2.2.2.1.2.2.2.2.2.2.2.2
  show gG w m 4 _ h 0 0 [some (.ref 1), some (.int (iI x)), some (.ref 47), none] [] 0
  refine e_aload_n C 2 dL_join_0 rfl rfl ?_
  refine e_iconst C dL_join_1 ?_
  refine e_aload_n C 0 dL_join_2 rfl rfl ?_
  refine e_iload_n C 1 dL_join_3 rfl rfl ?_
  refine e_callX C [.int (iI x)] [.int (iI 0), .ref 47] wd_497 (kL_43 rfl) hM rfl rfl hK (Nat.le_of_ble_eq_true rfl) (Nat.le_of_ble_eq_true rfl) (by show 0 + mc ≤ mc; omega) (by show 0 + ms ≤ ms; omega) (by simp [Value.category]) dL_join_4 (fun E h' hp => ?_) (fun r h' hp => ?_)
  · obtain ⟨i, hi⟩ := hE E h' hp
    rcases i with _ | _ | i
    · cases hi
      refine e_catch C [] ⟨0, 9, 12, 21⟩ [⟨0, 9, 15, 15⟩] ht (fun z hz => nomatch hz) rfl (by decide) lk_21 lc_IOB 3 (by decide) (Or.inl ⟨3, rfl, dL_join_12, ?_⟩)
      refine e_iconst C dL_join_13 ?_
      exact e_iret C dL_join_14 (by omega) (by omega) (Or.inl ⟨0, _, rfl, hp, rfl⟩)
    · cases hi
      refine e_catch C [⟨0, 9, 12, 21⟩] ⟨0, 9, 15, 15⟩ [] ht (fun z hz => by rw [List.mem_singleton.mp hz]; exact Or.inr ⟨by decide, "java/lang/IndexOutOfBoundsException", lk_21, hNc _ (by simp) _ (by simp) (by decide)⟩) rfl (by decide) lk_15 lc_ISE 3 (by decide) (Or.inl ⟨3, rfl, dL_join_15, ?_⟩)
      refine e_iconst C dL_join_16 ?_
      exact e_iret C dL_join_17 (by omega) (by omega) (Or.inl ⟨1, _, rfl, hp, rfl⟩)
    · simp at hi
  · obtain ⟨k47, a, rfl⟩ := h47 r h' hp
    refine e_i2l C dL_join_7 ?_
    refine e_last C k47 dL_join_8 ?_
    refine e_goto C 18 dL_join_9 (by decide) ?_
    refine e_iconst C dL_join_18 ?_
    exact e_iret C dL_join_19 (by omega) (by omega) (Or.inr ⟨rfl, a, h', hp, rfl⟩)

set_option maxRecDepth 100000 in
set_option maxHeartbeats 4000000 in
theorem w_move {x z : Int} (hM : gCx w l yX5_move cX5_move 5 (some .int) 7 mc ms [.ref 1, .int (iI x), .int (iI z)] h post2 px2) (hK : gK h 1 = (5, 15)) (h47 : ∀ r h', post2 r h' → gK h' 47 = (9, 1) ∧ ∃ a, r = some (.int (iI a))) (hE : ∀ E h', px2 E h' → ∃ i : Nat, (["java/lang/IndexOutOfBoundsException", "java/lang/IllegalStateException"] : List String)[i]? = some E) : gCw w l yL_move cL_move 5 (some .int) [(0, 10, 13, 21), (0, 10, 17, 15)] 8 mc ms [.ref 1, .int (iI x), .int (iI z), .ref 47] h (qWp ["java/lang/IndexOutOfBoundsException", "java/lang/IllegalStateException"] px2 post2 (fun a => (iI a).toInt64)) := by
  refine gStartW (by decide +kernel) (by simp [Value.category]) (Nat.le_of_ble_eq_true rfl) (fun p e s m args below meth c C ht => ?_)
  have hNc := C.2.2.2.2.2.1.2.2.2.2.2.2.2.2
  show gG w m 5 _ h 0 0 [some (.ref 1), some (.int (iI x)), some (.int (iI z)), some (.ref 47), none] [] 0
  refine e_aload_n C 3 dL_move_0 rfl rfl ?_
  refine e_iconst C dL_move_1 ?_
  refine e_aload_n C 0 dL_move_2 rfl rfl ?_
  refine e_iload_n C 1 dL_move_3 rfl rfl ?_
  refine e_iload_n C 2 dL_move_4 rfl rfl ?_
  refine e_callX C [.int (iI x), .int (iI z)] [.int (iI 0), .ref 47] wd_514 (kL_46 rfl) hM rfl rfl hK (Nat.le_of_ble_eq_true rfl) (Nat.le_of_ble_eq_true rfl) (by show 0 + mc ≤ mc; omega) (by show 0 + ms ≤ ms; omega) (by simp [Value.category]) dL_move_5 (fun E h' hp => ?_) (fun r h' hp => ?_)
  · obtain ⟨i, hi⟩ := hE E h' hp
    rcases i with _ | _ | i
    · cases hi
      refine e_catch C [] ⟨0, 10, 13, 21⟩ [⟨0, 10, 17, 15⟩] ht (fun z hz => nomatch hz) rfl (by decide) lk_21 lc_IOB 4 (by decide) (Or.inr ⟨dL_move_13, ?_⟩)
      refine e_iconst C dL_move_15 ?_
      exact e_iret C dL_move_16 (by omega) (by omega) (Or.inl ⟨0, _, rfl, hp, rfl⟩)
    · cases hi
      refine e_catch C [⟨0, 10, 13, 21⟩] ⟨0, 10, 17, 15⟩ [] ht (fun z hz => by rw [List.mem_singleton.mp hz]; exact Or.inr ⟨by decide, "java/lang/IndexOutOfBoundsException", lk_21, hNc _ (by simp) _ (by simp) (by decide)⟩) rfl (by decide) lk_15 lc_ISE 4 (by decide) (Or.inr ⟨dL_move_17, ?_⟩)
      refine e_iconst C dL_move_19 ?_
      exact e_iret C dL_move_20 (by omega) (by omega) (Or.inl ⟨1, _, rfl, hp, rfl⟩)
    · simp at hi
  · obtain ⟨k47, a, rfl⟩ := h47 r h' hp
    refine e_i2l C dL_move_8 ?_
    refine e_last C k47 dL_move_9 ?_
    refine e_goto C 21 dL_move_10 (by decide) ?_
    refine e_iconst C dL_move_21 ?_
    exact e_iret C dL_move_22 (by omega) (by omega) (Or.inr ⟨rfl, a, h', hp, rfl⟩)

set_option maxRecDepth 100000 in
set_option maxHeartbeats 4000000 in
theorem w_callOff {x : Int} (hM : gCx w l yX5_callOff cX5_callOff 3 (some .int) 7 mc ms [.ref 1, .int (iI x)] h post2 px2) (hK : gK h 1 = (5, 15)) (h47 : ∀ r h', post2 r h' → gK h' 47 = (9, 1) ∧ ∃ a, r = some (.int (iI a))) (hE : ∀ E h', px2 E h' → ∃ i : Nat, (["java/lang/IndexOutOfBoundsException", "java/lang/IllegalStateException"] : List String)[i]? = some E) : gCw w l yL_callOff cL_callOff 4 (some .int) [(0, 9, 12, 21), (0, 9, 15, 15)] 8 mc ms [.ref 1, .int (iI x), .ref 47] h (qWp ["java/lang/IndexOutOfBoundsException", "java/lang/IllegalStateException"] px2 post2 (fun a => (iI a).toInt64)) := by
  refine gStartW (by decide +kernel) (by simp [Value.category]) (Nat.le_of_ble_eq_true rfl) (fun p e s m args below meth c C ht => ?_)
  have hNc := C.2.2.2.2.2.1.2.2.2.2.2.2.2.2
  show gG w m 4 _ h 0 0 [some (.ref 1), some (.int (iI x)), some (.ref 47), none] [] 0
  refine e_aload_n C 2 dL_callOff_0 rfl rfl ?_
  refine e_iconst C dL_callOff_1 ?_
  refine e_aload_n C 0 dL_callOff_2 rfl rfl ?_
  refine e_iload_n C 1 dL_callOff_3 rfl rfl ?_
  refine e_callX C [.int (iI x)] [.int (iI 0), .ref 47] wd_523 (kL_49 rfl) hM rfl rfl hK (Nat.le_of_ble_eq_true rfl) (Nat.le_of_ble_eq_true rfl) (by show 0 + mc ≤ mc; omega) (by show 0 + ms ≤ ms; omega) (by simp [Value.category]) dL_callOff_4 (fun E h' hp => ?_) (fun r h' hp => ?_)
  · obtain ⟨i, hi⟩ := hE E h' hp
    rcases i with _ | _ | i
    · cases hi
      refine e_catch C [] ⟨0, 9, 12, 21⟩ [⟨0, 9, 15, 15⟩] ht (fun z hz => nomatch hz) rfl (by decide) lk_21 lc_IOB 3 (by decide) (Or.inl ⟨3, rfl, dL_callOff_12, ?_⟩)
      refine e_iconst C dL_callOff_13 ?_
      exact e_iret C dL_callOff_14 (by omega) (by omega) (Or.inl ⟨0, _, rfl, hp, rfl⟩)
    · cases hi
      refine e_catch C [⟨0, 9, 12, 21⟩] ⟨0, 9, 15, 15⟩ [] ht (fun z hz => by rw [List.mem_singleton.mp hz]; exact Or.inr ⟨by decide, "java/lang/IndexOutOfBoundsException", lk_21, hNc _ (by simp) _ (by simp) (by decide)⟩) rfl (by decide) lk_15 lc_ISE 3 (by decide) (Or.inl ⟨3, rfl, dL_callOff_15, ?_⟩)
      refine e_iconst C dL_callOff_16 ?_
      exact e_iret C dL_callOff_17 (by omega) (by omega) (Or.inl ⟨1, _, rfl, hp, rfl⟩)
    · simp at hi
  · obtain ⟨k47, a, rfl⟩ := h47 r h' hp
    refine e_i2l C dL_callOff_7 ?_
    refine e_last C k47 dL_callOff_8 ?_
    refine e_goto C 18 dL_callOff_9 (by decide) ?_
    refine e_iconst C dL_callOff_18 ?_
    exact e_iret C dL_callOff_19 (by omega) (by omega) (Or.inr ⟨rfl, a, h', hp, rfl⟩)

set_option maxRecDepth 100000 in
set_option maxHeartbeats 4000000 in
theorem w_pass {x : Int} (hM : gCx w l yX5_pass cX5_pass 3 (some .int) 7 mc ms [.ref 1, .int (iI x)] h post2 px2) (hK : gK h 1 = (5, 15)) (h47 : ∀ r h', post2 r h' → gK h' 47 = (9, 1) ∧ ∃ a, r = some (.int (iI a))) (hE : ∀ E h', px2 E h' → ∃ i : Nat, (["java/lang/IllegalArgumentException", "java/lang/IllegalStateException"] : List String)[i]? = some E) : gCw w l yL_pass cL_pass 4 (some .int) [(0, 9, 12, 13), (0, 9, 15, 15)] 8 mc ms [.ref 1, .int (iI x), .ref 47] h (qWp ["java/lang/IllegalArgumentException", "java/lang/IllegalStateException"] px2 post2 (fun a => (iI a).toInt64)) := by
  refine gStartW (by decide +kernel) (by simp [Value.category]) (Nat.le_of_ble_eq_true rfl) (fun p e s m args below meth c C ht => ?_)
  have hNc := C.2.2.2.2.2.1.2.2.2.2.2.2.2.2
  show gG w m 4 _ h 0 0 [some (.ref 1), some (.int (iI x)), some (.ref 47), none] [] 0
  refine e_aload_n C 2 dL_pass_0 rfl rfl ?_
  refine e_iconst C dL_pass_1 ?_
  refine e_aload_n C 0 dL_pass_2 rfl rfl ?_
  refine e_iload_n C 1 dL_pass_3 rfl rfl ?_
  refine e_callX C [.int (iI x)] [.int (iI 0), .ref 47] wd_531 (kL_52 rfl) hM rfl rfl hK (Nat.le_of_ble_eq_true rfl) (Nat.le_of_ble_eq_true rfl) (by show 0 + mc ≤ mc; omega) (by show 0 + ms ≤ ms; omega) (by simp [Value.category]) dL_pass_4 (fun E h' hp => ?_) (fun r h' hp => ?_)
  · obtain ⟨i, hi⟩ := hE E h' hp
    rcases i with _ | _ | i
    · cases hi
      refine e_catch C [] ⟨0, 9, 12, 13⟩ [⟨0, 9, 15, 15⟩] ht (fun z hz => nomatch hz) rfl (by decide) lk_13 lc_IAE 3 (by decide) (Or.inl ⟨3, rfl, dL_pass_12, ?_⟩)
      refine e_iconst C dL_pass_13 ?_
      exact e_iret C dL_pass_14 (by omega) (by omega) (Or.inl ⟨0, _, rfl, hp, rfl⟩)
    · cases hi
      refine e_catch C [⟨0, 9, 12, 13⟩] ⟨0, 9, 15, 15⟩ [] ht (fun z hz => by rw [List.mem_singleton.mp hz]; exact Or.inr ⟨by decide, "java/lang/IllegalArgumentException", lk_13, hNc _ (by simp) _ (by simp) (by decide)⟩) rfl (by decide) lk_15 lc_ISE 3 (by decide) (Or.inl ⟨3, rfl, dL_pass_15, ?_⟩)
      refine e_iconst C dL_pass_16 ?_
      exact e_iret C dL_pass_17 (by omega) (by omega) (Or.inl ⟨1, _, rfl, hp, rfl⟩)
    · simp at hi
  · obtain ⟨k47, a, rfl⟩ := h47 r h' hp
    refine e_i2l C dL_pass_7 ?_
    refine e_last C k47 dL_pass_8 ?_
    refine e_goto C 18 dL_pass_9 (by decide) ?_
    refine e_iconst C dL_pass_18 ?_
    exact e_iret C dL_pass_19 (by omega) (by omega) (Or.inr ⟨rfl, a, h', hp, rfl⟩)

set_option maxRecDepth 100000 in
set_option maxHeartbeats 4000000 in
theorem w_shardOf {x : Int} (hM : gCx w l yX5_shardOf cX5_shardOf 2 (some .int) 7 mc ms [.ref 1, .int (iI x)] h post2 px2) (hK : gK h 1 = (5, 15)) (h47 : ∀ r h', post2 r h' → gK h' 47 = (9, 1) ∧ ∃ a, r = some (.int (iI a))) (hE : ∀ E h', px2 E h' → ∃ i : Nat, (["java/lang/IndexOutOfBoundsException"] : List String)[i]? = some E) : gCw w l yL_shardOf cL_shardOf 4 (some .int) [(0, 9, 12, 21)] 8 mc ms [.ref 1, .int (iI x), .ref 47] h (qWp ["java/lang/IndexOutOfBoundsException"] px2 post2 (fun a => (iI a).toInt64)) := by
  refine gStartW (by decide +kernel) (by simp [Value.category]) (Nat.le_of_ble_eq_true rfl) (fun p e s m args below meth c C ht => ?_)
  have hNc := C.2.2.2.2.2.1.2.2.2.2.2.2.2.2
  show gG w m 4 _ h 0 0 [some (.ref 1), some (.int (iI x)), some (.ref 47), none] [] 0
  refine e_aload_n C 2 dL_shardOf_0 rfl rfl ?_
  refine e_iconst C dL_shardOf_1 ?_
  refine e_aload_n C 0 dL_shardOf_2 rfl rfl ?_
  refine e_iload_n C 1 dL_shardOf_3 rfl rfl ?_
  refine e_callX C [.int (iI x)] [.int (iI 0), .ref 47] wd_603 (kL_55 rfl) hM rfl rfl hK (Nat.le_of_ble_eq_true rfl) (Nat.le_of_ble_eq_true rfl) (by show 0 + mc ≤ mc; omega) (by show 0 + ms ≤ ms; omega) (by simp [Value.category]) dL_shardOf_4 (fun E h' hp => ?_) (fun r h' hp => ?_)
  · obtain ⟨i, hi⟩ := hE E h' hp
    rcases i with _ | i
    · cases hi
      refine e_catch C [] ⟨0, 9, 12, 21⟩ [] ht (fun z hz => nomatch hz) rfl (by decide) lk_21 lc_IOB 3 (by decide) (Or.inl ⟨3, rfl, dL_shardOf_12, ?_⟩)
      refine e_iconst C dL_shardOf_13 ?_
      exact e_iret C dL_shardOf_14 (by omega) (by omega) (Or.inl ⟨0, _, rfl, hp, rfl⟩)
    · simp at hi
  · obtain ⟨k47, a, rfl⟩ := h47 r h' hp
    refine e_i2l C dL_shardOf_7 ?_
    refine e_last C k47 dL_shardOf_8 ?_
    refine e_goto C 15 dL_shardOf_9 (by decide) ?_
    refine e_iconst C dL_shardOf_15 ?_
    exact e_iret C dL_shardOf_16 (by omega) (by omega) (Or.inr ⟨rfl, a, h', hp, rfl⟩)

set_option maxRecDepth 100000 in
set_option maxHeartbeats 4000000 in
theorem w_shard {x z : Int} (hM : gCx w l yX5_shard cX5_shard 4 (some .int) 7 mc ms [.ref 1, .int (iI x), .int (iI z)] h post2 px2) (hK : gK h 1 = (5, 15)) (h47 : ∀ r h', post2 r h' → gK h' 47 = (9, 1) ∧ ∃ a, r = some (.int (iI a))) (hE : ∀ E h', px2 E h' → ∃ i : Nat, (["java/lang/IndexOutOfBoundsException", "java/lang/IllegalArgumentException"] : List String)[i]? = some E) : gCw w l yL_shard cL_shard 5 (some .int) [(0, 10, 13, 21), (0, 10, 17, 13)] 8 mc ms [.ref 1, .int (iI x), .int (iI z), .ref 47] h (qWp ["java/lang/IndexOutOfBoundsException", "java/lang/IllegalArgumentException"] px2 post2 (fun a => (iI a).toInt64)) := by
  refine gStartW (by decide +kernel) (by simp [Value.category]) (Nat.le_of_ble_eq_true rfl) (fun p e s m args below meth c C ht => ?_)
  have hNc := C.2.2.2.2.2.1.2.2.2.2.2.2.2.2
  show gG w m 5 _ h 0 0 [some (.ref 1), some (.int (iI x)), some (.int (iI z)), some (.ref 47), none] [] 0
  refine e_aload_n C 3 dL_shard_0 rfl rfl ?_
  refine e_iconst C dL_shard_1 ?_
  refine e_aload_n C 0 dL_shard_2 rfl rfl ?_
  refine e_iload_n C 1 dL_shard_3 rfl rfl ?_
  refine e_iload_n C 2 dL_shard_4 rfl rfl ?_
  refine e_callX C [.int (iI x), .int (iI z)] [.int (iI 0), .ref 47] wd_610 (kL_58 rfl) hM rfl rfl hK (Nat.le_of_ble_eq_true rfl) (Nat.le_of_ble_eq_true rfl) (by show 0 + mc ≤ mc; omega) (by show 0 + ms ≤ ms; omega) (by simp [Value.category]) dL_shard_5 (fun E h' hp => ?_) (fun r h' hp => ?_)
  · obtain ⟨i, hi⟩ := hE E h' hp
    rcases i with _ | _ | i
    · cases hi
      refine e_catch C [] ⟨0, 10, 13, 21⟩ [⟨0, 10, 17, 13⟩] ht (fun z hz => nomatch hz) rfl (by decide) lk_21 lc_IOB 4 (by decide) (Or.inr ⟨dL_shard_13, ?_⟩)
      refine e_iconst C dL_shard_15 ?_
      exact e_iret C dL_shard_16 (by omega) (by omega) (Or.inl ⟨0, _, rfl, hp, rfl⟩)
    · cases hi
      refine e_catch C [⟨0, 10, 13, 21⟩] ⟨0, 10, 17, 13⟩ [] ht (fun z hz => by rw [List.mem_singleton.mp hz]; exact Or.inr ⟨by decide, "java/lang/IndexOutOfBoundsException", lk_21, hNc _ (by simp) _ (by simp) (by decide)⟩) rfl (by decide) lk_13 lc_IAE 4 (by decide) (Or.inr ⟨dL_shard_17, ?_⟩)
      refine e_iconst C dL_shard_19 ?_
      exact e_iret C dL_shard_20 (by omega) (by omega) (Or.inl ⟨1, _, rfl, hp, rfl⟩)
    · simp at hi
  · obtain ⟨k47, a, rfl⟩ := h47 r h' hp
    refine e_i2l C dL_shard_8 ?_
    refine e_last C k47 dL_shard_9 ?_
    refine e_goto C 21 dL_shard_10 (by decide) ?_
    refine e_iconst C dL_shard_21 ?_
    exact e_iret C dL_shard_22 (by omega) (by omega) (Or.inr ⟨rfl, a, h', hp, rfl⟩)

set_option maxRecDepth 100000 in
set_option maxHeartbeats 4000000 in
theorem w_machineOf {x z : Int} (hM : gCx w l yX5_machineOf cX5_machineOf 4 (some .int) 7 mc ms [.ref 1, .int (iI x), .int (iI z)] h post2 px2) (hK : gK h 1 = (5, 15)) (h47 : ∀ r h', post2 r h' → gK h' 47 = (9, 1) ∧ ∃ a, r = some (.int (iI a))) (hE : ∀ E h', px2 E h' → ∃ i : Nat, (["java/lang/IndexOutOfBoundsException", "java/lang/IllegalArgumentException"] : List String)[i]? = some E) : gCw w l yL_machineOf cL_machineOf 5 (some .int) [(0, 10, 13, 21), (0, 10, 17, 13)] 8 mc ms [.ref 1, .int (iI x), .int (iI z), .ref 47] h (qWp ["java/lang/IndexOutOfBoundsException", "java/lang/IllegalArgumentException"] px2 post2 (fun a => (iI a).toInt64)) := by
  refine gStartW (by decide +kernel) (by simp [Value.category]) (Nat.le_of_ble_eq_true rfl) (fun p e s m args below meth c C ht => ?_)
  have hNc := C.2.2.2.2.2.1.2.2.2.2.2.2.2.2
  show gG w m 5 _ h 0 0 [some (.ref 1), some (.int (iI x)), some (.int (iI z)), some (.ref 47), none] [] 0
  refine e_aload_n C 3 dL_machineOf_0 rfl rfl ?_
  refine e_iconst C dL_machineOf_1 ?_
  refine e_aload_n C 0 dL_machineOf_2 rfl rfl ?_
  refine e_iload_n C 1 dL_machineOf_3 rfl rfl ?_
  refine e_iload_n C 2 dL_machineOf_4 rfl rfl ?_
  refine e_callX C [.int (iI x), .int (iI z)] [.int (iI 0), .ref 47] wd_618 (kL_61 rfl) hM rfl rfl hK (Nat.le_of_ble_eq_true rfl) (Nat.le_of_ble_eq_true rfl) (by show 0 + mc ≤ mc; omega) (by show 0 + ms ≤ ms; omega) (by simp [Value.category]) dL_machineOf_5 (fun E h' hp => ?_) (fun r h' hp => ?_)
  · obtain ⟨i, hi⟩ := hE E h' hp
    rcases i with _ | _ | i
    · cases hi
      refine e_catch C [] ⟨0, 10, 13, 21⟩ [⟨0, 10, 17, 13⟩] ht (fun z hz => nomatch hz) rfl (by decide) lk_21 lc_IOB 4 (by decide) (Or.inr ⟨dL_machineOf_13, ?_⟩)
      refine e_iconst C dL_machineOf_15 ?_
      exact e_iret C dL_machineOf_16 (by omega) (by omega) (Or.inl ⟨0, _, rfl, hp, rfl⟩)
    · cases hi
      refine e_catch C [⟨0, 10, 13, 21⟩] ⟨0, 10, 17, 13⟩ [] ht (fun z hz => by rw [List.mem_singleton.mp hz]; exact Or.inr ⟨by decide, "java/lang/IndexOutOfBoundsException", lk_21, hNc _ (by simp) _ (by simp) (by decide)⟩) rfl (by decide) lk_13 lc_IAE 4 (by decide) (Or.inr ⟨dL_machineOf_17, ?_⟩)
      refine e_iconst C dL_machineOf_19 ?_
      exact e_iret C dL_machineOf_20 (by omega) (by omega) (Or.inl ⟨1, _, rfl, hp, rfl⟩)
    · simp at hi
  · obtain ⟨k47, a, rfl⟩ := h47 r h' hp
    refine e_i2l C dL_machineOf_8 ?_
    refine e_last C k47 dL_machineOf_9 ?_
    refine e_goto C 21 dL_machineOf_10 (by decide) ?_
    refine e_iconst C dL_machineOf_21 ?_
    exact e_iret C dL_machineOf_22 (by omega) (by omega) (Or.inr ⟨rfl, a, h', hp, rfl⟩)

set_option maxRecDepth 100000 in
set_option maxHeartbeats 4000000 in
theorem w_tenant {x z : Int} (hM : gCx w l yX5_tenant cX5_tenant 4 (some .int) 7 mc ms [.ref 1, .int (iI x), .int (iI z)] h post2 px2) (hK : gK h 1 = (5, 15)) (h47 : ∀ r h', post2 r h' → gK h' 47 = (9, 1) ∧ ∃ a, r = some (.int (iI a))) (hE : ∀ E h', px2 E h' → ∃ i : Nat, (["java/lang/IndexOutOfBoundsException", "java/lang/IllegalArgumentException"] : List String)[i]? = some E) : gCw w l yL_tenant cL_tenant 5 (some .int) [(0, 10, 13, 21), (0, 10, 17, 13)] 8 mc ms [.ref 1, .int (iI x), .int (iI z), .ref 47] h (qWp ["java/lang/IndexOutOfBoundsException", "java/lang/IllegalArgumentException"] px2 post2 (fun a => (iI a).toInt64)) := by
  refine gStartW (by decide +kernel) (by simp [Value.category]) (Nat.le_of_ble_eq_true rfl) (fun p e s m args below meth c C ht => ?_)
  have hNc := C.2.2.2.2.2.1.2.2.2.2.2.2.2.2
  show gG w m 5 _ h 0 0 [some (.ref 1), some (.int (iI x)), some (.int (iI z)), some (.ref 47), none] [] 0
  refine e_aload_n C 3 dL_tenant_0 rfl rfl ?_
  refine e_iconst C dL_tenant_1 ?_
  refine e_aload_n C 0 dL_tenant_2 rfl rfl ?_
  refine e_iload_n C 1 dL_tenant_3 rfl rfl ?_
  refine e_iload_n C 2 dL_tenant_4 rfl rfl ?_
  refine e_callX C [.int (iI x), .int (iI z)] [.int (iI 0), .ref 47] wd_629 (kL_64 rfl) hM rfl rfl hK (Nat.le_of_ble_eq_true rfl) (Nat.le_of_ble_eq_true rfl) (by show 0 + mc ≤ mc; omega) (by show 0 + ms ≤ ms; omega) (by simp [Value.category]) dL_tenant_5 (fun E h' hp => ?_) (fun r h' hp => ?_)
  · obtain ⟨i, hi⟩ := hE E h' hp
    rcases i with _ | _ | i
    · cases hi
      refine e_catch C [] ⟨0, 10, 13, 21⟩ [⟨0, 10, 17, 13⟩] ht (fun z hz => nomatch hz) rfl (by decide) lk_21 lc_IOB 4 (by decide) (Or.inr ⟨dL_tenant_13, ?_⟩)
      refine e_iconst C dL_tenant_15 ?_
      exact e_iret C dL_tenant_16 (by omega) (by omega) (Or.inl ⟨0, _, rfl, hp, rfl⟩)
    · cases hi
      refine e_catch C [⟨0, 10, 13, 21⟩] ⟨0, 10, 17, 13⟩ [] ht (fun z hz => by rw [List.mem_singleton.mp hz]; exact Or.inr ⟨by decide, "java/lang/IndexOutOfBoundsException", lk_21, hNc _ (by simp) _ (by simp) (by decide)⟩) rfl (by decide) lk_13 lc_IAE 4 (by decide) (Or.inr ⟨dL_tenant_17, ?_⟩)
      refine e_iconst C dL_tenant_19 ?_
      exact e_iret C dL_tenant_20 (by omega) (by omega) (Or.inl ⟨1, _, rfl, hp, rfl⟩)
    · simp at hi
  · obtain ⟨k47, a, rfl⟩ := h47 r h' hp
    refine e_i2l C dL_tenant_8 ?_
    refine e_last C k47 dL_tenant_9 ?_
    refine e_goto C 21 dL_tenant_10 (by decide) ?_
    refine e_iconst C dL_tenant_21 ?_
    exact e_iret C dL_tenant_22 (by omega) (by omega) (Or.inr ⟨rfl, a, h', hp, rfl⟩)

set_option maxRecDepth 100000 in
set_option maxHeartbeats 4000000 in
theorem w_billAnew {x : Int} (hM : gCx w l yX5_billAnew cX5_billAnew 4 (some .int) 7 mc ms [.ref 1, .int (iI x)] h post2 px2) (hK : gK h 1 = (5, 15)) (h47 : ∀ r h', post2 r h' → gK h' 47 = (9, 1) ∧ ∃ a, r = some (.int (iI a))) (hE : ∀ E h', px2 E h' → ∃ i : Nat, (["java/lang/IndexOutOfBoundsException"] : List String)[i]? = some E) : gCw w l yL_billAnew cL_billAnew 4 (some .int) [(0, 9, 12, 21)] 8 mc ms [.ref 1, .int (iI x), .ref 47] h (qWp ["java/lang/IndexOutOfBoundsException"] px2 post2 (fun a => (iI a).toInt64)) := by
  refine gStartW (by decide +kernel) (by simp [Value.category]) (Nat.le_of_ble_eq_true rfl) (fun p e s m args below meth c C ht => ?_)
  have hNc := C.2.2.2.2.2.1.2.2.2.2.2.2.2.2
  show gG w m 4 _ h 0 0 [some (.ref 1), some (.int (iI x)), some (.ref 47), none] [] 0
  refine e_aload_n C 2 dL_billAnew_0 rfl rfl ?_
  refine e_iconst C dL_billAnew_1 ?_
  refine e_aload_n C 0 dL_billAnew_2 rfl rfl ?_
  refine e_iload_n C 1 dL_billAnew_3 rfl rfl ?_
  refine e_callX C [.int (iI x)] [.int (iI 0), .ref 47] wd_636 (kL_67 rfl) hM rfl rfl hK (Nat.le_of_ble_eq_true rfl) (Nat.le_of_ble_eq_true rfl) (by show 0 + mc ≤ mc; omega) (by show 0 + ms ≤ ms; omega) (by simp [Value.category]) dL_billAnew_4 (fun E h' hp => ?_) (fun r h' hp => ?_)
  · obtain ⟨i, hi⟩ := hE E h' hp
    rcases i with _ | i
    · cases hi
      refine e_catch C [] ⟨0, 9, 12, 21⟩ [] ht (fun z hz => nomatch hz) rfl (by decide) lk_21 lc_IOB 3 (by decide) (Or.inl ⟨3, rfl, dL_billAnew_12, ?_⟩)
      refine e_iconst C dL_billAnew_13 ?_
      exact e_iret C dL_billAnew_14 (by omega) (by omega) (Or.inl ⟨0, _, rfl, hp, rfl⟩)
    · simp at hi
  · obtain ⟨k47, a, rfl⟩ := h47 r h' hp
    refine e_i2l C dL_billAnew_7 ?_
    refine e_last C k47 dL_billAnew_8 ?_
    refine e_goto C 15 dL_billAnew_9 (by decide) ?_
    refine e_iconst C dL_billAnew_15 ?_
    exact e_iret C dL_billAnew_16 (by omega) (by omega) (Or.inr ⟨rfl, a, h', hp, rfl⟩)

set_option maxRecDepth 100000 in
set_option maxHeartbeats 4000000 in
theorem w_whereAnew {x : Int} (hM : gCx w l yX5_whereAnew cX5_whereAnew 3 (some .int) 7 mc ms [.ref 1, .int (iI x)] h post2 px2) (hK : gK h 1 = (5, 15)) (h47 : ∀ r h', post2 r h' → gK h' 47 = (9, 1) ∧ ∃ a, r = some (.int (iI a))) (hE : ∀ E h', px2 E h' → ∃ i : Nat, (["java/lang/IndexOutOfBoundsException"] : List String)[i]? = some E) : gCw w l yL_whereAnew cL_whereAnew 4 (some .int) [(0, 9, 12, 21)] 8 mc ms [.ref 1, .int (iI x), .ref 47] h (qWp ["java/lang/IndexOutOfBoundsException"] px2 post2 (fun a => (iI a).toInt64)) := by
  refine gStartW (by decide +kernel) (by simp [Value.category]) (Nat.le_of_ble_eq_true rfl) (fun p e s m args below meth c C ht => ?_)
  have hNc := C.2.2.2.2.2.1.2.2.2.2.2.2.2.2
  show gG w m 4 _ h 0 0 [some (.ref 1), some (.int (iI x)), some (.ref 47), none] [] 0
  refine e_aload_n C 2 dL_whereAnew_0 rfl rfl ?_
  refine e_iconst C dL_whereAnew_1 ?_
  refine e_aload_n C 0 dL_whereAnew_2 rfl rfl ?_
  refine e_iload_n C 1 dL_whereAnew_3 rfl rfl ?_
  refine e_callX C [.int (iI x)] [.int (iI 0), .ref 47] wd_647 (kL_70 rfl) hM rfl rfl hK (Nat.le_of_ble_eq_true rfl) (Nat.le_of_ble_eq_true rfl) (by show 0 + mc ≤ mc; omega) (by show 0 + ms ≤ ms; omega) (by simp [Value.category]) dL_whereAnew_4 (fun E h' hp => ?_) (fun r h' hp => ?_)
  · obtain ⟨i, hi⟩ := hE E h' hp
    rcases i with _ | i
    · cases hi
      refine e_catch C [] ⟨0, 9, 12, 21⟩ [] ht (fun z hz => nomatch hz) rfl (by decide) lk_21 lc_IOB 3 (by decide) (Or.inl ⟨3, rfl, dL_whereAnew_12, ?_⟩)
      refine e_iconst C dL_whereAnew_13 ?_
      exact e_iret C dL_whereAnew_14 (by omega) (by omega) (Or.inl ⟨0, _, rfl, hp, rfl⟩)
    · simp at hi
  · obtain ⟨k47, a, rfl⟩ := h47 r h' hp
    refine e_i2l C dL_whereAnew_7 ?_
    refine e_last C k47 dL_whereAnew_8 ?_
    refine e_goto C 15 dL_whereAnew_9 (by decide) ?_
    refine e_iconst C dL_whereAnew_15 ?_
    exact e_iret C dL_whereAnew_16 (by omega) (by omega) (Or.inr ⟨rfl, a, h', hp, rfl⟩)
end WR
