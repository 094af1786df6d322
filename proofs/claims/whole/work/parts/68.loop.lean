/-! THE LAW: its loop, its entry -/
section LZ
variable {w : gW} {l : Launch} {p : Program} {e : Env} {s : State} {m : MethodId} {args : Array Value} {below : List Frame} {meth : Method} {c : Code} {Q : State → Prop} {L : Nat} {xs : Nat → Int32}

set_option maxRecDepth 100000 in
set_option maxHeartbeats 4000000 in
theorem law_loop (hfl : l.stackTraces = false) (C : gE w yL_law cL_law 7 (some .boolean) p s m args meth c) (hX : va_X (wb w) L xs s (wH w)) (hL : L ≤ 2048)
    (fin : ∀ (h : gH) (k u : Nat) (lo : List (Option Value)), k ≤ 601024 → u ≤ 7293034 → gG w m 7 (eW p l e room_1 s m args below meth c Q) h k u lo [] 1336) :
    ∀ (n cn : Nat) (h : gH) (k u : Nat) (S Y : gS) (sr : Nat → Nat) (A : List gCE) (B : List gOE) (nm ns : Nat) (z5 z6 : Option Value), cn + n = 513 → 4 * cn ≤ 2048 → qSt h k u S Y sr A B nm ns (cn : Int) → gG w m 7 (eW p l e room_1 s m args below meth c Q) h k u [some (.ref 0), some (.ref 1), some (.ref 34), some (.ref 47), some (.int (iI ((4 * cn : Nat) : Int))), z5, z6] [] 23 := by
  intro n
  induction n with
  | zero => intro cn h k u S Y sr A B nm ns z5 z6 h1 h2; omega
  | succ n ih =>
    intro cn h k u S Y sr A B nm ns z5 z6 hn hc H
    have h01 := H.2.2.2.2.2.1.1.1.2.2.1.1
    have hk := H.2.2.2.2.2.2.1
    have hu := H.2.2.2.2.2.2.2
    refine e_iload C dL_law_23 rfl ?_
    refine e_aload_n C 0 dL_law_25 rfl rfl ?_
    refine e_slen C hX dL_law_26 ?_
    refine e_iconst C dL_law_27 ?_
    refine e_isub C dL_law_28 ?_
    refine e_icmp_gt C 1336 dL_law_29 (by decide) (by omega) (by omega) (fun c1 => fin _ _ _ _ (by omega) (by omega)) (fun c1 => ?_)
    have hi : 4 * cn + 4 ≤ L := by omega
    have K : qNx w m (eW p l e room_1 s m args below meth c Q) cn 1330 := by
      intro h' k' u' S' Y' s' A' B' nm' ns' y5 y6 H'
      refine t_iinc (lo' := [some (.ref 0), some (.ref 1), some (.ref 34), some (.ref 47), some (.int (iI ((4 * (cn + 1) : Nat) : Int))), y5, y6]) C dL_law_1330 rfl (by decide) (by rw [show (((4 * cn : Nat) : Int) + 4) = ((4 * (cn + 1) : Nat) : Int) by omega]; rfl) ?_
      refine e_goto C 23 dL_law_1333 (by decide) ?_
      exact ih (cn + 1) h' k' u' S' Y' s' A' B' nm' ns' y5 y6 (by omega) (by omega) (by rw [Int.natCast_succ]; exact H')
    refine e_aload_n C 0 dL_law_32 rfl rfl ?_
    refine e_iload C dL_law_33 rfl ?_
    refine e_sld C hX (4 * cn) rfl (by omega) (by omega) dL_law_35 ?_
    refine e_bipush C dL_law_36 (by decide) ?_
    refine e_iand C dL_law_38 ?_
    rw [← iI_of (iI (xs (4 * cn)).toInt &&& iI 31)]
    have hr := iI_r (iI (xs (4 * cn)).toInt &&& iI 31)
    generalize (iI (xs (4 * cn)).toInt &&& iI 31).toInt = v at hr ⊢
    by_cases hv : v < 0 ∨ 20 < v
    · refine e_tableOut C 1330 dL_law_39 hr hv (by decide) ?_
      exact K _ _ _ _ _ _ _ _ _ _ _ _ H.mono
    · have hv2 : v = 0 ∨ v = 1 ∨ v = 2 ∨ v = 3 ∨ v = 4 ∨ v = 5 ∨ v = 6 ∨ v = 7 ∨ v = 8 ∨ v = 9 ∨ v = 10 ∨ v = 11 ∨ v = 12 ∨ v = 13 ∨ v = 14 ∨ v = 15 ∨ v = 16 ∨ v = 17 ∨ v = 18 ∨ v = 19 ∨ v = 20 := by omega
      rcases hv2 with rfl | rfl | rfl | rfl | rfl | rfl | rfl | rfl | rfl | rfl | rfl | rfl | rfl | rfl | rfl | rfl | rfl | rfl | rfl | rfl | rfl
      · exact e_tableIn C 136 dL_law_39 hr (by omega) (by omega) rfl (by decide) (j_machine hfl C hX hL H hi K)
      · exact e_tableIn C 192 dL_law_39 hr (by omega) (by omega) rfl (by decide) (j_down hfl C hX hL H hi K)
      · exact e_tableIn C 283 dL_law_39 hr (by omega) (by omega) rfl (by decide) (j_quota hfl C hX hL H hi K)
      · exact e_tableIn C 351 dL_law_39 hr (by omega) (by omega) rfl (by decide) (j_limit hfl C hX hL H hi K)
      · exact e_tableIn C 407 dL_law_39 hr (by omega) (by omega) rfl (by decide) (j_write hfl C hX hL H hi K)
      · exact e_tableIn C 487 dL_law_39 hr (by omega) (by omega) rfl (by decide) (j_take hfl C hX hL H hi K)
      · exact e_tableIn C 543 dL_law_39 hr (by omega) (by omega) rfl (by decide) (j_read hfl C hX hL H hi K)
      · exact e_tableIn C 599 dL_law_39 hr (by omega) (by omega) rfl (by decide) (j_split hfl C hX hL H hi K)
      · exact e_tableIn C 655 dL_law_39 hr (by omega) (by omega) rfl (by decide) (j_join hfl C hX hL H hi K)
      · exact e_tableIn C 711 dL_law_39 hr (by omega) (by omega) rfl (by decide) (j_move hfl C hX hL H hi K)
      · exact e_tableIn C 779 dL_law_39 hr (by omega) (by omega) rfl (by decide) (j_callOff hfl C hX hL H hi K)
      · exact e_tableIn C 835 dL_law_39 hr (by omega) (by omega) rfl (by decide) (j_pass hfl C hX hL H hi K)
      · exact e_tableIn C 891 dL_law_39 hr (by omega) (by omega) rfl (by decide) (j_hour hfl C hX hL H hi K)
      · exact e_tableIn C 904 dL_law_39 hr (by omega) (by omega) rfl (by decide) (j_shards hfl C hX hL H hi K)
      · exact e_tableIn C 917 dL_law_39 hr (by omega) (by omega) rfl (by decide) (j_shardOf hfl C hX hL H hi K)
      · exact e_tableIn C 973 dL_law_39 hr (by omega) (by omega) rfl (by decide) (j_shard hfl C hX hL H hi K)
      · exact e_tableIn C 1041 dL_law_39 hr (by omega) (by omega) rfl (by decide) (j_machineOf hfl C hX hL H hi K)
      · exact e_tableIn C 1109 dL_law_39 hr (by omega) (by omega) rfl (by decide) (j_tenant hfl C hX hL H hi K)
      · exact e_tableIn C 1177 dL_law_39 hr (by omega) (by omega) rfl (by decide) (j_billAnew hfl C hX hL H hi K)
      · exact e_tableIn C 1233 dL_law_39 hr (by omega) (by omega) rfl (by decide) (j_whereAnew hfl C hX hL H hi K)
      · exact e_tableIn C 1289 dL_law_39 hr (by omega) (by omega) rfl (by decide) (j_moves hfl C hX hL H hi K)
theorem wL_long : Cond.arrayClass .long ∈ gTb := gIn 880 (by decide +kernel) (by decide +kernel)
variable {h0 : gH}

set_option maxRecDepth 100000 in
set_option maxHeartbeats 4000000 in
/-- the loop's entry: the objects are made -/
theorem law_body (hfl : l.stackTraces = false) (C : gE w yL_law cL_law 7 (some .boolean) p s m args meth c) (hX : va_X (wb w) L xs s (wH w)) (hL : L ≤ 2048) (hno : gn h0 = 0)
    (fin : ∀ (h : gH) (k u : Nat) (lo : List (Option Value)), k ≤ 601024 → u ≤ 7293034 → gG w m 7 (eW p l e room_1 s m args below meth c Q) h k u lo [] 1336) : gG w m 7 (eW p l e room_1 s m args below meth c Q) h0 0 0 [some (.ref 0), none, none, none, none, none, none] [] 0 := by
  have eK : ∀ (h : gH) (kd : Nat × Nat) (b : Nat), gK (gnew h kd) b = if b = gn h + 1 then kd else gK h b := fun _ _ _ => rfl
  have eI : ∀ (h : gH) (kd : Nat × Nat) (b : Nat), gI (gnew h kd) b = if b = gn h + 1 then (fun _ => 0) else gI h b := fun _ _ _ => rfl
  have eR : ∀ (h : gH) (kd : Nat × Nat) (b : Nat), gR (gnew h kd) b = if b = gn h + 1 then (fun _ => none) else gR h b := fun _ _ _ => rfl
  refine e_new C gbn5 (nL_8 rfl) (Nat.le_of_ble_eq_true rfl) (Nat.le_of_ble_eq_true rfl) dL_law_0 ?_
  rw [hno]
  have H1 : xIn 1 0 0 0 0 0 (gnew h0 (5, 15)) := by
    refine ⟨by show gn h0 + 1 = 1; omega, fun a a1 a2 => ?_⟩
    have : a = 1 := by omega
    subst this
    rw [eK, eI, eR, hno, if_pos rfl, if_pos rfl, if_pos rfl]
    refine ⟨rfl, fun x => rfl, fun x => ?_⟩
    unfold icR icM
    rw [if_pos rfl, if_neg (by omega)]
  generalize gnew h0 (5, 15) = h1 at H1 ⊢
  refine e_dup C dL_law_3 rfl ?_
  refine e_callI C [] [.ref (0 + 1)] (kL_73 (y := yL_law) rfl).1 (kL_73 (y := yL_law) rfl).2 rfl (e5_init H1) rfl rfl (Nat.le_of_ble_eq_true rfl) (Nat.le_of_ble_eq_true rfl) (Nat.le_of_ble_eq_true rfl) (Nat.le_of_ble_eq_true rfl) (Nat.le_of_ble_eq_true rfl) dL_law_4 (fun r h2 z => ?_)
  obtain ⟨rfl, hRX, hn2⟩ := z
  show gG w m 7 _ h2 33 2225 _ [.ref 1] 7
  refine t_astore_n (lo' := [some (.ref 0), some (.ref 1), none, none, none, none, none]) C 1 dL_law_7 rfl (by decide) rfl ?_
  refine e_new C gbn6 (nL_74 rfl) (Nat.le_of_ble_eq_true rfl) (Nat.le_of_ble_eq_true rfl) dL_law_8 ?_
  rw [hn2]
  have H3 : yIn h2 0 (fun _ _ => 0) (gnew h2 (6, 20)) := by
    refine ⟨by show gn h2 + 1 = 34 + 0; omega, fun a ha => ⟨by rw [eK, if_neg (by omega)], by rw [eI, if_neg (by omega)], by rw [eR, if_neg (by omega)]⟩, by rw [eK, if_pos (by omega)], fun f f1 f2 => by omega, fun f hf => ?_, fun f hf => rfl⟩
    have : f = 0 := by omega
    subst this
    rw [eI, if_pos (by omega)]
  generalize gnew h2 (6, 20) = h3 at H3 ⊢
  refine e_dup C dL_law_11 rfl ?_
  refine e_callI C [] [.ref (33 + 1)] (kL_76 (y := yL_law) rfl).1 (kL_76 (y := yL_law) rfl).2 rfl (e6_init H3) rfl rfl (Nat.le_of_ble_eq_true rfl) (Nat.le_of_ble_eq_true rfl) (Nat.le_of_ble_eq_true rfl) (Nat.le_of_ble_eq_true rfl) (Nat.le_of_ble_eq_true rfl) dL_law_12 (fun r h4 z => ?_)
  obtain ⟨rfl, hh, rfl, hSh, hn4, hlow⟩ := z
  show gG w m 7 _ (gwr hh gS0) 46 4383 _ [.ref 34] 15
  refine t_astore_n (lo' := [some (.ref 0), some (.ref 1), some (.ref 34), none, none, none, none]) C 2 dL_law_15 rfl (by decide) rfl ?_
  refine e_iconst C dL_law_16 ?_
  refine e_newL C wL_long (Nat.le_of_ble_eq_true rfl) (Nat.le_of_ble_eq_true rfl) dL_law_17 ?_
  have hn5 : gn (gwr hh gS0) = 46 := hn4
  rw [hn5]
  have R1 : RX gY0 (fun j => j) [] [] hh := by
    refine hRX.cong (by omega) hlow (fun a h1 h2 _ => by omega)
  have R2 : RX gY0 (fun j => j) [] [] (gwr hh gS0) := R1.wr hSh gS0
  have H5 : qSt (gnew (gwr hh gS0) (9, 1)) 47 4384 gS0 gY0 (fun j => j) [] [] 0 1 ((0 : Nat) : Int) := by
    have b0 : ∀ a, a ≤ 46 → gK (gnew (gwr hh gS0) (9, 1)) a = gK (gwr hh gS0) a ∧ gI (gnew (gwr hh gS0) (9, 1)) a = gI (gwr hh gS0) a ∧ gR (gnew (gwr hh gS0) (9, 1)) a = gR (gwr hh gS0) a := fun a ha => ⟨by rw [eK, if_neg (by omega)], by rw [eI, if_neg (by omega)], by rw [eR, if_neg (by omega)]⟩
    refine ⟨R2.cong (by show gn (gwr hh gS0) ≤ gn (gwr hh gS0) + 1; omega) (fun a ha => b0 a (by omega)) (fun a h1 h2 _ => b0 a (by omega)), ⟨fun f hf => by rw [(b0 _ (by omega)).1]; exact hSh.1 f hf, fun f h1 hf => by rw [(b0 34 (by omega)).2.2]; exact hSh.2 f h1 hf⟩, gwr_self (fun f hf => by rw [(b0 _ (by omega)).2.1]; exact gwr_I hh gS0 hf), by rw [eK, if_pos (by omega)], by show 47 ≤ gn (gwr hh gS0) + 1; omega, qj_init, ?_, ?_⟩
    · have := qj_init.1.1.2.2.1.1; omega
    · have := qj_init.1.1.2.2.1.1; omega
  generalize gnew (gwr hh gS0) (9, 1) = h5 at H5 ⊢
  show gG w m 7 _ h5 47 4384 _ [.ref 47] 19
  refine t_astore_n (lo' := [some (.ref 0), some (.ref 1), some (.ref 34), some (.ref 47), none, none, none]) C 3 dL_law_19 rfl (by decide) rfl ?_
  refine e_iconst C dL_law_20 ?_
  refine t_istore (lo' := [some (.ref 0), some (.ref 1), some (.ref 34), some (.ref 47), some (.int (iI ((4 * 0 : Nat) : Int))), none, none]) C dL_law_21 (by decide) rfl ?_
  exact law_loop hfl C hX hL fin 513 0 h5 47 4384 gS0 gY0 (fun j => j) [] [] 0 1 none none rfl (by omega) H5
end LZ
