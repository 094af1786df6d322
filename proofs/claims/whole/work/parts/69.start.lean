/-! THE LAW: what the tables give at its entry -/
theorem gTb_tbl {x : Cond} (h : x ∈ gTb) : x ∈ lw_tbl := (List.mem_filter.mp h).1
theorem gNs_tbl {x : Cond} (h : x ∈ gNs) : x ∈ lw_tbl := (List.mem_filter.mp h).1
theorem q_arrP {s : State} {args : Array Value} {t : FieldType} (hne : ∀ C, t ≠ .object C) (h : (Cond.arrayClass t).before args s = true) : ∃ c : ClassId, ArrOfT s c t ∧ va_RA s c t := by
  obtain ⟨c, k, comp, h1, h2, h3⟩ := Cond.arrayClass_spec h
  refine ⟨c, fun n z => ⟨fun k h => (by cases h), k, h2, comp, h3⟩, ?_⟩
  cases t with
  | object C => exact absurd rfl (hne C)
  | _ => exact h1
theorem q_arrO {s : State} {args : Array Value} {C : String} (h : (Cond.arrayOver (.object C)).before args s = true) : ∃ c : ClassId, ArrOfT s c (.object C) ∧ va_RA s c (.object C) := by
  obtain ⟨comp, c, k, h1, h2, h3, h4, h5⟩ := Cond.arrayOver_spec h
  exact ⟨c, fun n z => ⟨fun k h => (by cases h), k, h3, comp, h4⟩, k, comp, h3, h4, h1, h5⟩
theorem q_strs : ∀ q ∈ gStr, Cond.stringRef RX5 q.1 q.2 ∈ lw_tbl := by decide +kernel
theorem q_nc : ∀ E ∈ ["java/lang/IllegalArgumentException", "java/lang/IllegalStateException", "java/lang/IndexOutOfBoundsException"], ∀ F ∈ ["java/lang/IllegalArgumentException", "java/lang/IllegalStateException", "java/lang/IndexOutOfBoundsException"], E ≠ F → Cond.not (.castable E F) ∈ flatC (Jvm.Cond.and given_1 narrow_1) := by decide +kernel
theorem q_u1 : Cond.isRef (.static Bundle.tN "UNASSIGNED_STACK" Bundle.steD) ∈ flatC (Jvm.Cond.and given_1 narrow_1) := by decide +kernel
theorem q_u2 : Cond.isRef (.static Bundle.tN "SUPPRESSED_SENTINEL" Bundle.listD) ∈ flatC (Jvm.Cond.and given_1 narrow_1) := by decide +kernel
theorem q_l1 : Cond.laysStatic Bundle.tN "UNASSIGNED_STACK" Bundle.steD ∈ lw_tbl := by decide +kernel
theorem q_l2 : Cond.laysStatic Bundle.tN "SUPPRESSED_SENTINEL" Bundle.listD ∈ lw_tbl := by decide +kernel
theorem q_l3 : Cond.initialized Bundle.tN ∈ lw_tbl := by decide +kernel
theorem q_ao : Cond.arrayOver (.object RX2) ∈ lw_tbl ∧ Cond.arrayOver (.object RX3) ∈ lw_tbl ∧ Cond.arrayOver (.object RX4) ∈ lw_tbl := by decide +kernel
theorem q_ac : Cond.arrayClass .int ∈ lw_tbl ∧ Cond.arrayClass .boolean ∈ lw_tbl ∧ Cond.arrayClass .long ∈ lw_tbl := by decide +kernel
theorem q_in : Cond.instantiable RX0 6 ∈ lw_tbl ∧ Cond.instantiable RX1 4 ∈ lw_tbl ∧ Cond.instantiable RX2 4 ∈ lw_tbl ∧ Cond.instantiable RX3 9 ∈ lw_tbl ∧ Cond.instantiable RX4 3 ∈ lw_tbl ∧ Cond.instantiable RX5 15 ∈ lw_tbl ∧ Cond.instantiable RX6 20 ∈ lw_tbl := by decide +kernel
/-- where a string constant lies -/
def q_str (s : State) (k : Nat) : Nat := match (Term.string RX5 k).eval #[] s none [] s with
  | some (.ref a) => a
  | _ => 0
set_option maxHeartbeats 4000000 in
theorem gKn_at {s : State} {b : Nat} (hts : ∀ x ∈ lw_tbl, x.before #[Value.ref b] s = true) (hgv : (Jvm.Cond.and given_1 narrow_1).before #[Value.ref b] s = true) (hbl : b < s.heap.size) : ∃ w : gW, wb w = b ∧ wz w = s.heap.size ∧ wH w = s.heap ∧ gKn w s := by
  have hfl := flat_of_before _ hgv
  obtain ⟨i0, i1, i2, i3, i4, i5, i6⟩ := q_in
  obtain ⟨c0, iS0, K0⟩ := u_known (C := RX0) (T := TX0) (N := 6) (n := 6) hts (fun x hx => gTb_tbl (gcl0.2.1 x hx)) (hts _ i0)
  obtain ⟨c1, iS1, K1⟩ := u_known (C := RX1) (T := TX1) (N := 4) (n := 4) hts (fun x hx => gTb_tbl (gcl1.2.1 x hx)) (hts _ i1)
  obtain ⟨c2, iS2, K2⟩ := u_known (C := RX2) (T := TX2) (N := 4) (n := 4) hts (fun x hx => gTb_tbl (gcl2.2.1 x hx)) (hts _ i2)
  obtain ⟨c3, iS3, K3⟩ := u_known (C := RX3) (T := TX3) (N := 9) (n := 9) hts (fun x hx => gTb_tbl (gcl3.2.1 x hx)) (hts _ i3)
  obtain ⟨c4, iS4, K4⟩ := u_known (C := RX4) (T := TX4) (N := 3) (n := 3) hts (fun x hx => gTb_tbl (gcl4.2.1 x hx)) (hts _ i4)
  obtain ⟨c5, iS5, K5⟩ := u_known (C := RX5) (T := TX5) (N := 15) (n := 15) hts (fun x hx => gTb_tbl (gcl5.2.1 x hx)) (hts _ i5)
  obtain ⟨c6, iS6, K6⟩ := u_known (C := RX6) (T := TX6) (N := 20) (n := 20) hts (fun x hx => gTb_tbl (gcl6.2.1 x hx)) (hts _ i6)
  obtain ⟨a7, A7⟩ := q_arrP (fun C h => by cases h) (hts _ q_ac.1)
  obtain ⟨a8, A8⟩ := q_arrP (fun C h => by cases h) (hts _ q_ac.2.1)
  obtain ⟨a9, A9⟩ := q_arrP (fun C h => by cases h) (hts _ q_ac.2.2)
  obtain ⟨a10, A10⟩ := q_arrO (hts _ q_ao.1)
  obtain ⟨a11, A11⟩ := q_arrO (hts _ q_ao.2.1)
  obtain ⟨a12, A12⟩ := q_arrO (hts _ q_ao.2.2)
  obtain ⟨dC, dI, hD⟩ : ∃ (dC : Nat → ClassId) (dI : Nat → Nat → Nat), ∀ (k : Nat) (q : vw_C), vwCl[k]? = some q → u_Kn s q.1 q.2.1 q.2.2 (dC k) (dI k) := by
    refine ⟨fun k => match k with | 0 => c0 | 1 => c1 | 2 => c2 | 3 => c3 | 4 => c4 | 5 => c5 | _ => c6, fun k => match k with | 0 => iS0 | 1 => iS1 | 2 => iS2 | 3 => iS3 | 4 => iS4 | 5 => iS5 | _ => iS6, ?_⟩
    intro k q hq
    match k, hq with
    | 0, hq => cases hq; exact K0
    | 1, hq => cases hq; exact K1
    | 2, hq => cases hq; exact K2
    | 3, hq => cases hq; exact K3
    | 4, hq => cases hq; exact K4
    | 5, hq => cases hq; exact K5
    | 6, hq => cases hq; exact K6
    | k + 7, hq => simp at hq
  refine ⟨((dC, dI), (fun k => match k with | 7 => a7 | 8 => a8 | 9 => a9 | 10 => a10 | 11 => a11 | _ => a12), s.heap.size, b, s.heap, q_str s), rfl, rfl, rfl, rfl, hbl, ⟨hD, ?_⟩, fun x hx => va_Nw.of (gNw_tab (gNs_w hx)) (hts x (gNs_tbl hx)), vx_Zqof (hts _ q_l1) (hts _ q_l3) (hfl _ q_u1) (fun a h1 h2 => Nat.not_lt.mpr h2 h1), vx_Zqof (hts _ q_l2) (hts _ q_l3) (hfl _ q_u2) (fun a h1 h2 => Nat.not_lt.mpr h2 h1), fun q hq => ?_, ⟨va_AO.of (hts _ q_ao.1), va_AO.of (hts _ q_ao.2.1), va_AO.of (hts _ q_ao.2.2)⟩, fun E hE F hF hn => va_Nc.of (hfl _ (q_nc E hE F hF hn))⟩
  · intro k q hq
    match k, hq with
    | 0, hq => cases hq; exact A7
    | 1, hq => cases hq; exact A8
    | 2, hq => cases hq; exact A9
    | 3, hq => cases hq; exact A10
    | 4, hq => cases hq; exact A11
    | 5, hq => cases hq; exact A12
    | k + 6, hq => simp [gtys] at hq
  · have h1 := hts _ (q_strs q hq)
    obtain ⟨k, cf, i, a, -, -, -, -, -, h2⟩ := Cond.stringRef_spec K5.2.1 h1
    have h3 : (Term.string RX5 q.1).eval #[] s none [] s = some (.ref a) := h2
    have e : q_str s q.1 = a := by unfold q_str; rw [h3]
    show vk_R RX5 q.1 q.2 (q_str s q.1) s
    rw [e]
    exact vk_R.of h1 h2
