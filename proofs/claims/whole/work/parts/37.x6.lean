/-! THE CLASS: its public methods (rows laid by wip/whole/gen/x6.py) -/
theorem FrX.dead {h : gH} {n : Nat} (h33 : 33 ≤ gn h) (hn : gn h ≤ n) : FrX h (gdead h n) := ⟨hn, fun a h1 h2 => ⟨by show (if a ≤ gn h then gK h a else (13, 0)) = _; rw [if_pos h2], rfl, rfl, rfl⟩⟩
theorem RX.dead {Y : gS} {s : Nat → Nat} {A : List gCE} {B : List gOE} {h : gH} (H : RX Y s A B h) {n : Nat} (hn : gn h ≤ n) : RX Y s A B (gdead h n) :=
  H.ext (FrX.dead H.1 hn) (fun a ha => ⟨by show (if a ≤ gn h then gK h a else (13, 0)) = _; rw [if_pos (Nat.le_trans ha H.1)], rfl, rfl⟩)
/-- a public method that answers -/
def gXs (w : gW) (l : Launch) (y2 : MethodName) (cc2 : ByteArray) (nL2 : Nat) (ret2 : Option FieldType) (mc2 ms2 : Nat) (as : List Value) (Y : gS) (s : Nat → Nat) (A : List gCE) (B : List gOE) (r : Option Value) (Y2 : gS) (s2 : Nat → Nat) (A2 : List gCE) (B2 : List gOE) : Prop :=
  ∀ h, RX Y s A B h → gCx w l y2 cc2 nL2 ret2 7 mc2 ms2 as h (fun q h' => q = r ∧ RX Y2 s2 A2 B2 h' ∧ FrX h h') (fun _ _ => False)
/-- .. that throws -/
def gXt (w : gW) (l : Launch) (y2 : MethodName) (cc2 : ByteArray) (nL2 : Nat) (ret2 : Option FieldType) (as : List Value) (Y : gS) (s : Nat → Nat) (A : List gCE) (B : List gOE) (E : String) : Prop :=
  ∀ h, RX Y s A B h → gCx w l y2 cc2 nL2 ret2 7 1 6 as h (fun _ _ => False) (fun E2 h' => E2 = E ∧ RX Y s A B h' ∧ FrX h h')
section XG
variable {w : gW} {l : Launch} {Y : gS} {s : Nat → Nat} {A : List gCE} {B : List gOE}
theorem gXs_start {y2 : MethodName} {cc2 : ByteArray} {nL2 : Nat} {ret2 : Option FieldType} {mc2 ms2 : Nat} {as : List Value} {r : Option Value} {Y2 : gS} {s2 : Nat → Nat} {A2 : List gCE} {B2 : List gOE} (hy : plainName y2.cls = true) (has : ∀ v ∈ as, v.category = 1) (hn : as.length ≤ nL2)
    (body : ∀ (m : MethodId) (Wp : Heap → List Loc → Nat → Nat → JFrame → Prop) (h : gH), gC w l y2 cc2 nL2 ret2 7 mc2 ms2 (fun q h' => q = r ∧ RX Y2 s2 A2 B2 h' ∧ FrX h h') (fun _ _ => False) m Wp → ∀ (H : RX Y s A B h) (F : FrX h h), gG w m nL2 Wp h 0 0 (as.map some ++ List.replicate (nL2 - as.length) none) [] 0) : gXs w l y2 cc2 nL2 ret2 mc2 ms2 as Y s A B r Y2 s2 A2 B2 :=
  fun h H => gStart hy has hn (fun m Wp C => body m Wp h C H (FrX.rf h))
theorem gXt_start {y2 : MethodName} {cc2 : ByteArray} {nL2 : Nat} {ret2 : Option FieldType} {as : List Value} {E : String} (hy : plainName y2.cls = true) (has : ∀ v ∈ as, v.category = 1) (hn : as.length ≤ nL2)
    (body : ∀ (m : MethodId) (Wp : Heap → List Loc → Nat → Nat → JFrame → Prop) (h : gH), gC w l y2 cc2 nL2 ret2 7 1 6 (fun _ _ => False) (fun E2 h' => E2 = E ∧ RX Y s A B h' ∧ FrX h h') m Wp → ∀ (H : RX Y s A B h) (F : FrX h h), gG w m nL2 Wp h 0 0 (as.map some ++ List.replicate (nL2 - as.length) none) [] 0) : gXt w l y2 cc2 nL2 ret2 as Y s A B E :=
  fun h H => gStart hy has hn (fun m Wp C => body m Wp h C H (FrX.rf h))

set_option maxRecDepth 100000 in
set_option maxHeartbeats 4000000 in
theorem p5_hour : gXs w l yX5_hour cX5_hour 1 (some .int) 0 0 [.ref 1] Y s A B (some (.int (iI (Y 0 8)))) (Y) s A B := by
  refine gXs_start (by decide +kernel) (by simp [Value.category]) (Nat.le_of_ble_eq_true rfl) (fun m Wp h C H F => ?_)
  obtain ⟨h0, hh0⟩ : ∃ h0, h0 = h := ⟨_, rfl⟩
  rw [← hh0] at C
  have F : FrX h0 h := by rw [hh0]; exact F
  show gG w m 1 Wp h 0 0 [some (.ref 1)] [] 0
  refine g_aload_n C 0 dX5_hour_0 rfl rfl ?_
  refine x_gmain C H (fX5_193 rfl) rfl (Y 0 8) rfl dX5_hour_1 ?_
  exact g_iret C dX5_hour_4 (by omega) (by omega) ⟨rfl, H, F⟩

set_option maxRecDepth 100000 in
set_option maxHeartbeats 4000000 in
theorem p5_shards : gXs w l yX5_shards cX5_shards 1 (some .int) 0 0 [.ref 1] Y s A B (some (.int (iI (Y 0 7)))) (Y) s A B := by
  refine gXs_start (by decide +kernel) (by simp [Value.category]) (Nat.le_of_ble_eq_true rfl) (fun m Wp h C H F => ?_)
  obtain ⟨h0, hh0⟩ : ∃ h0, h0 = h := ⟨_, rfl⟩
  rw [← hh0] at C
  have F : FrX h0 h := by rw [hh0]; exact F
  show gG w m 1 Wp h 0 0 [some (.ref 1)] [] 0
  refine g_aload_n C 0 dX5_shards_0 rfl rfl ?_
  refine x_gmain C H (fX5_45 rfl) rfl (Y 0 7) rfl dX5_shards_1 ?_
  exact g_iret C dX5_shards_4 (by omega) (by omega) ⟨rfl, H, F⟩

set_option maxRecDepth 100000 in
set_option maxHeartbeats 4000000 in
theorem p5_moves (b : Int) (hb : b = 0 ∨ b = 1) : gXs w l yX5_moves cX5_moves 2 (some .int) 0 0 [.ref 1, .int (iI b)] Y s A B (some (.int (iI (if b = 0 then Y 0 11 else Y 0 10)))) (Y) s A B := by
  refine gXs_start (by decide +kernel) (by simp [Value.category]) (Nat.le_of_ble_eq_true rfl) (fun m Wp h C H F => ?_)
  obtain ⟨h0, hh0⟩ : ∃ h0, h0 = h := ⟨_, rfl⟩
  rw [← hh0] at C
  have F : FrX h0 h := by rw [hh0]; exact F
  show gG w m 2 Wp h 0 0 [some (.ref 1), some (.int (iI b))] [] 0
  refine g_iload_n C 1 dX5_moves_0 rfl rfl ?_
  refine g_if_eq C 11 dX5_moves_1 (by decide) (by omega) (fun c1 => ?_) (fun c1 => ?_)
  · refine g_aload_n C 0 dX5_moves_11 rfl rfl ?_
    refine x_gmain C H (fX5_248 rfl) rfl (Y 0 11) rfl dX5_moves_12 ?_
    exact g_iret C dX5_moves_15 (by omega) (by omega) ⟨by simp [c1], H, F⟩
  · refine g_aload_n C 0 dX5_moves_4 rfl rfl ?_
    refine x_gmain C H (fX5_245 rfl) rfl (Y 0 10) rfl dX5_moves_5 ?_
    refine g_goto C 15 dX5_moves_8 (by decide) ?_
    exact g_iret C dX5_moves_15 (by omega) (by omega) ⟨by simp [c1], H, F⟩

set_option maxRecDepth 100000 in
set_option maxHeartbeats 4000000 in
theorem p5_machine_1 (hfl : l.stackTraces = false) (x : Int) (hx : (-2147483648 ≤ x ∧ x < 2147483648)) (hp : ¬ (100 ≤ x ∧ x ≤ 10000)) : gXt w l yX5_machine cX5_machine 3 (some .int) [.ref 1, .int (iI x)] Y s A B "java/lang/IllegalArgumentException" := by
  refine gXt_start (by decide +kernel) (by simp [Value.category]) (Nat.le_of_ble_eq_true rfl) (fun m Wp h C H F => ?_)
  obtain ⟨h0, hh0⟩ : ∃ h0, h0 = h := ⟨_, rfl⟩
  rw [← hh0] at C
  have F : FrX h0 h := by rw [hh0]; exact F
  show gG w m 3 Wp h 0 0 [some (.ref 1), some (.int (iI x)), none] [] 0
  refine g_iload_n C 1 dX5_machine_0 rfl rfl ?_
  refine g_bipush C dX5_machine_1 (by decide) ?_
  refine g_icmp_lt C 13 dX5_machine_3 (by decide) (by omega) (by omega) (fun c3 => ?_) (fun c3 => ?_)
  · exact g_throw C hfl (t_49_51 rfl) dX5_machine_13 dX5_machine_16 dX5_machine_17 dX5_machine_19 dX5_machine_22 (by decide) (by omega) (by omega) (Nat.le_of_ble_eq_true rfl) (fun n hn => ⟨rfl, H.dead hn, F.tr (FrX.dead H.1 hn)⟩)
  · refine g_iload_n C 1 dX5_machine_6 rfl rfl ?_
    refine g_sipush C dX5_machine_7 (by decide) ?_
    refine g_icmp_le C 23 dX5_machine_10 (by decide) (by omega) (by omega) (fun c10 => ?_) (fun c10 => ?_)
    · omega
    · exact g_throw C hfl (t_49_51 rfl) dX5_machine_13 dX5_machine_16 dX5_machine_17 dX5_machine_19 dX5_machine_22 (by decide) (by omega) (by omega) (Nat.le_of_ble_eq_true rfl) (fun n hn => ⟨rfl, H.dead hn, F.tr (FrX.dead H.1 hn)⟩)

set_option maxRecDepth 100000 in
set_option maxHeartbeats 4000000 in
theorem p5_machine_2 (hfl : l.stackTraces = false) (x : Int) (hx : (-2147483648 ≤ x ∧ x < 2147483648)) (nm : Nat) (hm : Y 0 5 = nm) (hnm : nm ≤ 6) (hp : 100 ≤ x ∧ x ≤ 10000) (hq : nm = 6) : gXt w l yX5_machine cX5_machine 3 (some .int) [.ref 1, .int (iI x)] Y s A B "java/lang/IllegalStateException" := by
  refine gXt_start (by decide +kernel) (by simp [Value.category]) (Nat.le_of_ble_eq_true rfl) (fun m Wp h C H F => ?_)
  obtain ⟨h0, hh0⟩ : ∃ h0, h0 = h := ⟨_, rfl⟩
  rw [← hh0] at C
  have F : FrX h0 h := by rw [hh0]; exact F
  show gG w m 3 Wp h 0 0 [some (.ref 1), some (.int (iI x)), none] [] 0
  refine g_iload_n C 1 dX5_machine_0 rfl rfl ?_
  refine g_bipush C dX5_machine_1 (by decide) ?_
  refine g_icmp_lt C 13 dX5_machine_3 (by decide) (by omega) (by omega) (fun c3 => ?_) (fun c3 => ?_)
  · omega
  · refine g_iload_n C 1 dX5_machine_6 rfl rfl ?_
    refine g_sipush C dX5_machine_7 (by decide) ?_
    refine g_icmp_le C 23 dX5_machine_10 (by decide) (by omega) (by omega) (fun c10 => ?_) (fun c10 => ?_)
    · refine g_aload_n C 0 dX5_machine_23 rfl rfl ?_
      refine x_gmain C H (fX5_56 rfl) rfl (Y 0 5) rfl dX5_machine_24 ?_
      refine g_bipush C dX5_machine_27 (by decide) ?_
      refine g_icmp_lt C 42 dX5_machine_29 (by decide) (by omega) (by omega) (fun c29 => ?_) (fun c29 => ?_)
      · omega
      · exact g_throw C hfl (t_59_61 rfl) dX5_machine_32 dX5_machine_35 dX5_machine_36 dX5_machine_38 dX5_machine_41 (by decide) (by omega) (by omega) (Nat.le_of_ble_eq_true rfl) (fun n hn => ⟨rfl, H.dead hn, F.tr (FrX.dead H.1 hn)⟩)
    · omega

set_option maxRecDepth 100000 in
set_option maxHeartbeats 4000000 in
theorem p5_machine_3 (x : Int) (hx : (-2147483648 ≤ x ∧ x < 2147483648)) (nm : Nat) (hm : Y 0 5 = nm) (hnm : nm ≤ 6) (ns : Nat) (hn : Y 0 7 = ns) (hns : ns ≤ 16) (hN : gNu Y) (hp : 100 ≤ x ∧ x ≤ 10000) (hq : nm < 6) (hq0 : 0 < nm) : gXs w l yX5_machine cX5_machine 3 (some .int) 0 0 [.ref 1, .int (iI x)] Y s A B (some (.int (iI ((nm : Int))))) ((su (su (su Y 2 (nm + 1) x) 3 (nm + 1) 1) 0 5 ((nm : Int) + 1))) s A B := by
  refine gXs_start (by decide +kernel) (by simp [Value.category]) (Nat.le_of_ble_eq_true rfl) (fun m Wp h C H F => ?_)
  obtain ⟨h0, hh0⟩ : ∃ h0, h0 = h := ⟨_, rfl⟩
  rw [← hh0] at C
  have F : FrX h0 h := by rw [hh0]; exact F
  have hz : nm + 1 ≤ 6 := by omega
  have hnz := hN (nm + 1) hz
  show gG w m 3 Wp h 0 0 [some (.ref 1), some (.int (iI x)), none] [] 0
  refine g_iload_n C 1 dX5_machine_0 rfl rfl ?_
  refine g_bipush C dX5_machine_1 (by decide) ?_
  refine g_icmp_lt C 13 dX5_machine_3 (by decide) (by omega) (by omega) (fun c3 => ?_) (fun c3 => ?_)
  · omega
  · refine g_iload_n C 1 dX5_machine_6 rfl rfl ?_
    refine g_sipush C dX5_machine_7 (by decide) ?_
    refine g_icmp_le C 23 dX5_machine_10 (by decide) (by omega) (by omega) (fun c10 => ?_) (fun c10 => ?_)
    · refine g_aload_n C 0 dX5_machine_23 rfl rfl ?_
      refine x_gmain C H (fX5_56 rfl) rfl (Y 0 5) rfl dX5_machine_24 ?_
      refine g_bipush C dX5_machine_27 (by decide) ?_
      refine g_icmp_lt C 42 dX5_machine_29 (by decide) (by omega) (by omega) (fun c29 => ?_) (fun c29 => ?_)
      · refine g_aload_n C 0 dX5_machine_42 rfl rfl ?_
        refine x_rmain C H 10 (fX5_32 rfl) (by omega) dX5_machine_43 ?_
        refine g_aload_n C 0 dX5_machine_46 rfl rfl ?_
        refine x_gmain C H (fX5_56 rfl) rfl (Y 0 5) rfl dX5_machine_47 ?_
        refine x_macs C H nm (by omega) (by omega) dX5_machine_50 ?_
        refine s_astore_n (lo' := [_, _, _]) C 2 dX5_machine_51 rfl (by decide) rfl ?_
        refine g_aload_n C 2 dX5_machine_52 rfl rfl ?_
        refine g_iload_n C 1 dX5_machine_53 rfl rfl ?_
        refine x_pmac C H F hz (by omega) (fX5_64 rfl) dX5_machine_54 (fun h H F => ?_)
        refine g_aload_n C 2 dX5_machine_57 rfl rfl ?_
        refine g_iconst C dX5_machine_58 ?_
        refine x_pmacz C H F hz (by omega) (by omega) (fX5_67 rfl) dX5_machine_59 (fun h H F => ?_)
        refine g_aload_n C 0 dX5_machine_62 rfl rfl ?_
        refine g_dup C dX5_machine_63 rfl ?_
        refine x_gmain C H (fX5_56 rfl) rfl ((nm : Int)) hm dX5_machine_64 ?_
        refine g_iconst C dX5_machine_67 ?_
        refine g_iadd C dX5_machine_68 ?_
        refine x_pmain C H F (fX5_56 rfl) rfl dX5_machine_69 (fun h H F => ?_)
        refine g_aload_n C 2 dX5_machine_72 rfl rfl ?_
        refine x_gmac C H hz (by omega) (fX5_71 rfl) (Y 1 (nm + 1)) rfl dX5_machine_73 ?_
        refine g_if_ne C 84 dX5_machine_76 (by decide) (by omega) (fun c76 => ?_) (fun c76 => ?_)
        · refine g_aload_n C 2 dX5_machine_84 rfl rfl ?_
          refine x_gmac C H hz (by omega) (fX5_71 rfl) (Y 1 (nm + 1)) rfl dX5_machine_85 ?_
          exact g_iret C dX5_machine_88 (by omega) (by omega) ⟨by first | (rw [hnz]; done) | (rw [hnz]; congr 3 <;> omega), H, F⟩
        · omega
      · omega
    · omega

theorem yset_1 (Y : gS) (s : Nat → Nat) (z : Nat) : ∀ k i, yset Y s z k 1 i = Y 1 i
  | 0, _ => rfl
  | k + 1, i => yset_1 Y s z k i

set_option maxRecDepth 100000 in
set_option maxHeartbeats 4000000 in
theorem p5_machine_4 (x : Int) (hx : (-2147483648 ≤ x ∧ x < 2147483648)) (nm : Nat) (hm : Y 0 5 = nm) (hnm : nm ≤ 6) (ns : Nat) (hn : Y 0 7 = ns) (hns : ns ≤ 16) (hN : gNu Y) (hp : 100 ≤ x ∧ x ≤ 10000) (hq0 : nm = 0) : gXs w l yX5_machine cX5_machine 3 (some .int) 0 0 [.ref 1, .int (iI x)] Y s A B (some (.int (iI (0)))) (yset (su (su (su Y 2 (nm + 1) x) 3 (nm + 1) 1) 0 5 ((nm : Int) + 1)) s (nm + 1) ns) s A B := by
  refine gXs_start (by decide +kernel) (by simp [Value.category]) (Nat.le_of_ble_eq_true rfl) (fun m Wp h C H F => ?_)
  obtain ⟨h0, hh0⟩ : ∃ h0, h0 = h := ⟨_, rfl⟩
  rw [← hh0] at C
  have F : FrX h0 h := by rw [hh0]; exact F
  have hz : nm + 1 ≤ 6 := by omega
  have hnz := hN (nm + 1) hz
  show gG w m 3 Wp h 0 0 [some (.ref 1), some (.int (iI x)), none] [] 0
  refine g_iload_n C 1 dX5_machine_0 rfl rfl ?_
  refine g_bipush C dX5_machine_1 (by decide) ?_
  refine g_icmp_lt C 13 dX5_machine_3 (by decide) (by omega) (by omega) (fun c3 => ?_) (fun c3 => ?_)
  · omega
  · refine g_iload_n C 1 dX5_machine_6 rfl rfl ?_
    refine g_sipush C dX5_machine_7 (by decide) ?_
    refine g_icmp_le C 23 dX5_machine_10 (by decide) (by omega) (by omega) (fun c10 => ?_) (fun c10 => ?_)
    · refine g_aload_n C 0 dX5_machine_23 rfl rfl ?_
      refine x_gmain C H (fX5_56 rfl) rfl (Y 0 5) rfl dX5_machine_24 ?_
      refine g_bipush C dX5_machine_27 (by decide) ?_
      refine g_icmp_lt C 42 dX5_machine_29 (by decide) (by omega) (by omega) (fun c29 => ?_) (fun c29 => ?_)
      · refine g_aload_n C 0 dX5_machine_42 rfl rfl ?_
        refine x_rmain C H 10 (fX5_32 rfl) (by omega) dX5_machine_43 ?_
        refine g_aload_n C 0 dX5_machine_46 rfl rfl ?_
        refine x_gmain C H (fX5_56 rfl) rfl (Y 0 5) rfl dX5_machine_47 ?_
        refine x_macs C H nm (by omega) (by omega) dX5_machine_50 ?_
        refine s_astore_n (lo' := [_, _, _]) C 2 dX5_machine_51 rfl (by decide) rfl ?_
        refine g_aload_n C 2 dX5_machine_52 rfl rfl ?_
        refine g_iload_n C 1 dX5_machine_53 rfl rfl ?_
        refine x_pmac C H F hz (by omega) (fX5_64 rfl) dX5_machine_54 (fun h H F => ?_)
        refine g_aload_n C 2 dX5_machine_57 rfl rfl ?_
        refine g_iconst C dX5_machine_58 ?_
        refine x_pmacz C H F hz (by omega) (by omega) (fX5_67 rfl) dX5_machine_59 (fun h H F => ?_)
        refine g_aload_n C 0 dX5_machine_62 rfl rfl ?_
        refine g_dup C dX5_machine_63 rfl ?_
        refine x_gmain C H (fX5_56 rfl) rfl ((nm : Int)) hm dX5_machine_64 ?_
        refine g_iconst C dX5_machine_67 ?_
        refine g_iadd C dX5_machine_68 ?_
        refine x_pmain C H F (fX5_56 rfl) rfl dX5_machine_69 (fun h H F => ?_)
        refine g_aload_n C 2 dX5_machine_72 rfl rfl ?_
        refine x_gmac C H hz (by omega) (fX5_71 rfl) (Y 1 (nm + 1)) rfl dX5_machine_73 ?_
        refine g_if_ne C 84 dX5_machine_76 (by decide) (by omega) (fun c76 => ?_) (fun c76 => ?_)
        · omega
        · refine g_aload_n C 0 dX5_machine_79 rfl rfl ?_
          refine g_aload_n C 2 dX5_machine_80 rfl rfl ?_
          refine x_call C H F [_] _ (kX5_74 rfl) (e5_settle (z := nm + 1) hz ns hn hns) rfl rfl H.2.1.1 (by decide) (by omega) (by omega) (Nat.le_of_ble_eq_true rfl) dX5_machine_81 (fun h H F => ?_)
          refine g_aload_n C 2 dX5_machine_84 rfl rfl ?_
          refine x_gmac C H hz (by omega) (fX5_71 rfl) (Y 1 (nm + 1)) (yset_1 _ s _ ns _) dX5_machine_85 ?_
          exact g_iret C dX5_machine_88 (by omega) (by omega) ⟨by first | (rw [hnz]; done) | (rw [hnz]; congr 3 <;> omega), H, F⟩
      · omega
    · omega

set_option maxRecDepth 100000 in
set_option maxHeartbeats 4000000 in
theorem p5_down_1 (hfl : l.stackTraces = false) (x : Int) (hx : (-2147483648 ≤ x ∧ x < 2147483648)) (b : Int) (hb : b = 0 ∨ b = 1) (nm : Nat) (hm : Y 0 5 = nm) (hnm : nm ≤ 6) (hp : ¬ (0 ≤ x ∧ x < nm)) : gXt w l yX5_down cX5_down 5 (some .boolean) [.ref 1, .int (iI x), .int (iI b)] Y s A B "java/lang/IndexOutOfBoundsException" := by
  refine gXt_start (by decide +kernel) (by simp [Value.category]) (Nat.le_of_ble_eq_true rfl) (fun m Wp h C H F => ?_)
  obtain ⟨h0, hh0⟩ : ∃ h0, h0 = h := ⟨_, rfl⟩
  rw [← hh0] at C
  have F : FrX h0 h := by rw [hh0]; exact F
  show gG w m 5 Wp h 0 0 [some (.ref 1), some (.int (iI x)), some (.int (iI b)), none, none] [] 0
  refine g_aload_n C 0 dX5_down_0 rfl rfl ?_
  refine g_iload_n C 1 dX5_down_1 rfl rfl ?_
  refine x_call C H F [_] _ (kX5_77 rfl) (e5_isMachine_f x hx (by omega) (by omega)) rfl rfl H.2.1.1 (by decide) (by omega) (by omega) (Nat.le_of_ble_eq_true rfl) dX5_down_2 (fun h H F => ?_)
  refine g_if_ne C 18 dX5_down_5 (by decide) (by omega) (fun c5 => ?_) (fun c5 => ?_)
  · omega
  · exact g_throw C hfl (t_81_83 rfl) dX5_down_8 dX5_down_11 dX5_down_12 dX5_down_14 dX5_down_17 (by decide) (by omega) (by omega) (Nat.le_of_ble_eq_true rfl) (fun n hn => ⟨rfl, H.dead hn, F.tr (FrX.dead H.1 hn)⟩)

set_option maxRecDepth 100000 in
set_option maxHeartbeats 4000000 in
theorem p5_down_2 (x : Int) (hx : (-2147483648 ≤ x ∧ x < 2147483648)) (b : Int) (hb : b = 0 ∨ b = 1) (nm : Nat) (hm : Y 0 5 = nm) (hnm : nm ≤ 6) (mi : Nat) (he : x = (mi : Int)) (hp : mi < nm) (h01 : Y 3 (mi + 1) = 0 ∨ Y 3 (mi + 1) = 1) (hb0 : b = 0) : gXs w l yX5_down cX5_down 5 (some .boolean) 0 0 [.ref 1, .int (iI x), .int (iI b)] Y s A B (some (.int (iI (bI (Y 3 (mi + 1) = 0))))) (su Y 3 (mi + 1) 1) s A B := by
  refine gXs_start (by decide +kernel) (by simp [Value.category]) (Nat.le_of_ble_eq_true rfl) (fun m Wp h C H F => ?_)
  obtain ⟨h0, hh0⟩ : ∃ h0, h0 = h := ⟨_, rfl⟩
  rw [← hh0] at C
  have F : FrX h0 h := by rw [hh0]; exact F
  have hz : mi + 1 ≤ 6 := by omega
  subst he
  show gG w m 5 Wp h 0 0 [some (.ref 1), some (.int (iI (mi : Int))), some (.int (iI b)), none, none] [] 0
  refine g_aload_n C 0 dX5_down_0 rfl rfl ?_
  refine g_iload_n C 1 dX5_down_1 rfl rfl ?_
  refine x_call C H F [_] _ (kX5_77 rfl) (e5_isMachine_t (mi : Int) hx (by omega) (by omega)) rfl rfl H.2.1.1 (by decide) (by omega) (by omega) (Nat.le_of_ble_eq_true rfl) dX5_down_2 (fun h H F => ?_)
  refine g_if_ne C 18 dX5_down_5 (by decide) (by omega) (fun c5 => ?_) (fun c5 => ?_)
  · refine g_aload_n C 0 dX5_down_18 rfl rfl ?_
    refine x_rmain C H 10 (fX5_32 rfl) (by omega) dX5_down_19 ?_
    refine g_iload_n C 1 dX5_down_22 rfl rfl ?_
    refine x_macs C H mi (by omega) (by omega) dX5_down_23 ?_
    refine s_astore_n (lo' := [_, _, _, _, _]) C 3 dX5_down_24 rfl (by decide) rfl ?_
    refine g_aload_n C 3 dX5_down_25 rfl rfl ?_
    refine x_gmac C H hz (by omega) (fX5_67 rfl) (Y 3 (mi + 1)) rfl dX5_down_26 ?_
    refine g_if_ne C 36 dX5_down_29 (by decide) (gd01 h01) (fun c29 => ?_) (fun c29 => ?_)
    · refine g_iconst C dX5_down_36 ?_
      refine s_istore (lo' := [_, _, _, _, _]) C dX5_down_37 (by decide) rfl ?_
      refine g_aload_n C 3 dX5_down_39 rfl rfl ?_
      refine g_iload_n C 2 dX5_down_40 rfl rfl ?_
      refine g_if_ne C 48 dX5_down_41 (by decide) (by omega) (fun c41 => ?_) (fun c41 => ?_)
      · omega
      · refine g_iconst C dX5_down_44 ?_
        refine g_goto C 49 dX5_down_45 (by decide) ?_
        refine x_pmacz C H F hz (by omega) (by omega) (fX5_67 rfl) dX5_down_49 (fun h H F => ?_)
        refine g_iload_n C 2 dX5_down_52 rfl rfl ?_
        refine g_if_eq C 61 dX5_down_53 (by decide) (by omega) (fun c53 => ?_) (fun c53 => ?_)
        · refine g_iload C dX5_down_61 rfl ?_
          exact g_zret C dX5_down_63 (by omega) (by omega) (by omega) ⟨by first | (rw [bI_t c29]; done) | (rw [bI_f c29]; done), H, F⟩
        · omega
    · refine g_iconst C dX5_down_32 ?_
      refine g_goto C 37 dX5_down_33 (by decide) ?_
      refine s_istore (lo' := [_, _, _, _, _]) C dX5_down_37 (by decide) rfl ?_
      refine g_aload_n C 3 dX5_down_39 rfl rfl ?_
      refine g_iload_n C 2 dX5_down_40 rfl rfl ?_
      refine g_if_ne C 48 dX5_down_41 (by decide) (by omega) (fun c41 => ?_) (fun c41 => ?_)
      · omega
      · refine g_iconst C dX5_down_44 ?_
        refine g_goto C 49 dX5_down_45 (by decide) ?_
        refine x_pmacz C H F hz (by omega) (by omega) (fX5_67 rfl) dX5_down_49 (fun h H F => ?_)
        refine g_iload_n C 2 dX5_down_52 rfl rfl ?_
        refine g_if_eq C 61 dX5_down_53 (by decide) (by omega) (fun c53 => ?_) (fun c53 => ?_)
        · refine g_iload C dX5_down_61 rfl ?_
          exact g_zret C dX5_down_63 (by omega) (by omega) (by omega) ⟨by first | (rw [bI_t c29]; done) | (rw [bI_f c29]; done), H, F⟩
        · omega
  · omega

set_option maxRecDepth 100000 in
set_option maxHeartbeats 4000000 in
theorem p5_down_3 (x : Int) (hx : (-2147483648 ≤ x ∧ x < 2147483648)) (b : Int) (hb : b = 0 ∨ b = 1) (nm : Nat) (hm : Y 0 5 = nm) (hnm : nm ≤ 6) (ns : Nat) (hn : Y 0 7 = ns) (hns : ns ≤ 16) (mi : Nat) (he : x = (mi : Int)) (hp : mi < nm) (h01 : Y 3 (mi + 1) = 0 ∨ Y 3 (mi + 1) = 1) (hN : gNu Y) (hb1 : b = 1) : gXs w l yX5_down cX5_down 5 (some .boolean) 0 0 [.ref 1, .int (iI x), .int (iI b)] Y s A B (some (.int (iI (bI (Y 3 (mi + 1) = 0))))) (yfmo (su Y 3 (mi + 1) 0) s (mi + 1) ns) s A B := by
  refine gXs_start (by decide +kernel) (by simp [Value.category]) (Nat.le_of_ble_eq_true rfl) (fun m Wp h C H F => ?_)
  obtain ⟨h0, hh0⟩ : ∃ h0, h0 = h := ⟨_, rfl⟩
  rw [← hh0] at C
  have F : FrX h0 h := by rw [hh0]; exact F
  have hz : mi + 1 ≤ 6 := by omega
  subst he
  show gG w m 5 Wp h 0 0 [some (.ref 1), some (.int (iI (mi : Int))), some (.int (iI b)), none, none] [] 0
  refine g_aload_n C 0 dX5_down_0 rfl rfl ?_
  refine g_iload_n C 1 dX5_down_1 rfl rfl ?_
  refine x_call C H F [_] _ (kX5_77 rfl) (e5_isMachine_t (mi : Int) hx (by omega) (by omega)) rfl rfl H.2.1.1 (by decide) (by omega) (by omega) (Nat.le_of_ble_eq_true rfl) dX5_down_2 (fun h H F => ?_)
  refine g_if_ne C 18 dX5_down_5 (by decide) (by omega) (fun c5 => ?_) (fun c5 => ?_)
  · refine g_aload_n C 0 dX5_down_18 rfl rfl ?_
    refine x_rmain C H 10 (fX5_32 rfl) (by omega) dX5_down_19 ?_
    refine g_iload_n C 1 dX5_down_22 rfl rfl ?_
    refine x_macs C H mi (by omega) (by omega) dX5_down_23 ?_
    refine s_astore_n (lo' := [_, _, _, _, _]) C 3 dX5_down_24 rfl (by decide) rfl ?_
    refine g_aload_n C 3 dX5_down_25 rfl rfl ?_
    refine x_gmac C H hz (by omega) (fX5_67 rfl) (Y 3 (mi + 1)) rfl dX5_down_26 ?_
    refine g_if_ne C 36 dX5_down_29 (by decide) (gd01 h01) (fun c29 => ?_) (fun c29 => ?_)
    · refine g_iconst C dX5_down_36 ?_
      refine s_istore (lo' := [_, _, _, _, _]) C dX5_down_37 (by decide) rfl ?_
      refine g_aload_n C 3 dX5_down_39 rfl rfl ?_
      refine g_iload_n C 2 dX5_down_40 rfl rfl ?_
      refine g_if_ne C 48 dX5_down_41 (by decide) (by omega) (fun c41 => ?_) (fun c41 => ?_)
      · refine g_iconst C dX5_down_48 ?_
        refine x_pmacz C H F hz (by omega) (by omega) (fX5_67 rfl) dX5_down_49 (fun h H F => ?_)
        refine g_iload_n C 2 dX5_down_52 rfl rfl ?_
        refine g_if_eq C 61 dX5_down_53 (by decide) (by omega) (fun c53 => ?_) (fun c53 => ?_)
        · omega
        · refine g_aload_n C 0 dX5_down_56 rfl rfl ?_
          refine g_aload_n C 3 dX5_down_57 rfl rfl ?_
          refine x_call C H F [_] _ (kX5_86 rfl) (e5_failMovesOf (z := mi + 1) hz (by omega) ns hn hns hN) rfl rfl H.2.1.1 (by decide) (by omega) (by omega) (Nat.le_of_ble_eq_true rfl) dX5_down_58 (fun h H F => ?_)
          refine g_iload C dX5_down_61 rfl ?_
          exact g_zret C dX5_down_63 (by omega) (by omega) (by omega) ⟨by first | (rw [bI_t c29]; done) | (rw [bI_f c29]; done), H, F⟩
      · omega
    · refine g_iconst C dX5_down_32 ?_
      refine g_goto C 37 dX5_down_33 (by decide) ?_
      refine s_istore (lo' := [_, _, _, _, _]) C dX5_down_37 (by decide) rfl ?_
      refine g_aload_n C 3 dX5_down_39 rfl rfl ?_
      refine g_iload_n C 2 dX5_down_40 rfl rfl ?_
      refine g_if_ne C 48 dX5_down_41 (by decide) (by omega) (fun c41 => ?_) (fun c41 => ?_)
      · refine g_iconst C dX5_down_48 ?_
        refine x_pmacz C H F hz (by omega) (by omega) (fX5_67 rfl) dX5_down_49 (fun h H F => ?_)
        refine g_iload_n C 2 dX5_down_52 rfl rfl ?_
        refine g_if_eq C 61 dX5_down_53 (by decide) (by omega) (fun c53 => ?_) (fun c53 => ?_)
        · omega
        · refine g_aload_n C 0 dX5_down_56 rfl rfl ?_
          refine g_aload_n C 3 dX5_down_57 rfl rfl ?_
          refine x_call C H F [_] _ (kX5_86 rfl) (e5_failMovesOf (z := mi + 1) hz (by omega) ns hn hns hN) rfl rfl H.2.1.1 (by decide) (by omega) (by omega) (Nat.le_of_ble_eq_true rfl) dX5_down_58 (fun h H F => ?_)
          refine g_iload C dX5_down_61 rfl ?_
          exact g_zret C dX5_down_63 (by omega) (by omega) (by omega) ⟨by first | (rw [bI_t c29]; done) | (rw [bI_f c29]; done), H, F⟩
      · omega
  · omega

set_option maxRecDepth 100000 in
set_option maxHeartbeats 4000000 in
theorem p5_quota_1 (hfl : l.stackTraces = false) (t : Int) (ht : (-2147483648 ≤ t ∧ t < 2147483648)) (b : Int) (hb : (-2147483648 ≤ b ∧ b < 2147483648)) (hp : ¬ (0 ≤ t ∧ t < 4)) : gXt w l yX5_quota cX5_quota 4 (some .int) [.ref 1, .int (iI t), .int (iI b)] Y s A B "java/lang/IndexOutOfBoundsException" := by
  refine gXt_start (by decide +kernel) (by simp [Value.category]) (Nat.le_of_ble_eq_true rfl) (fun m Wp h C H F => ?_)
  obtain ⟨h0, hh0⟩ : ∃ h0, h0 = h := ⟨_, rfl⟩
  rw [← hh0] at C
  have F : FrX h0 h := by rw [hh0]; exact F
  show gG w m 4 Wp h 0 0 [some (.ref 1), some (.int (iI t)), some (.int (iI b)), none] [] 0
  refine g_aload_n C 0 dX5_quota_0 rfl rfl ?_
  refine g_iload_n C 1 dX5_quota_1 rfl rfl ?_
  refine x_call C H F [_] _ (kX5_89 rfl) (e5_isTenant_f t ht (by omega)) rfl rfl H.2.1.1 (by decide) (by omega) (by omega) (Nat.le_of_ble_eq_true rfl) dX5_quota_2 (fun h H F => ?_)
  refine g_if_ne C 18 dX5_quota_5 (by decide) (by omega) (fun c5 => ?_) (fun c5 => ?_)
  · omega
  · exact g_throw C hfl (t_81_92 rfl) dX5_quota_8 dX5_quota_11 dX5_quota_12 dX5_quota_14 dX5_quota_17 (by decide) (by omega) (by omega) (Nat.le_of_ble_eq_true rfl) (fun n hn => ⟨rfl, H.dead hn, F.tr (FrX.dead H.1 hn)⟩)

set_option maxRecDepth 100000 in
set_option maxHeartbeats 4000000 in
theorem p5_quota_2 (hfl : l.stackTraces = false) (t : Int) (ht : (-2147483648 ≤ t ∧ t < 2147483648)) (b : Int) (hb : (-2147483648 ≤ b ∧ b < 2147483648)) (hp : 0 ≤ t ∧ t < 4) (hq : ¬ (0 ≤ b ∧ b ≤ 20000)) : gXt w l yX5_quota cX5_quota 4 (some .int) [.ref 1, .int (iI t), .int (iI b)] Y s A B "java/lang/IllegalArgumentException" := by
  refine gXt_start (by decide +kernel) (by simp [Value.category]) (Nat.le_of_ble_eq_true rfl) (fun m Wp h C H F => ?_)
  obtain ⟨h0, hh0⟩ : ∃ h0, h0 = h := ⟨_, rfl⟩
  rw [← hh0] at C
  have F : FrX h0 h := by rw [hh0]; exact F
  show gG w m 4 Wp h 0 0 [some (.ref 1), some (.int (iI t)), some (.int (iI b)), none] [] 0
  refine g_aload_n C 0 dX5_quota_0 rfl rfl ?_
  refine g_iload_n C 1 dX5_quota_1 rfl rfl ?_
  refine x_call C H F [_] _ (kX5_89 rfl) (e5_isTenant_t t ht (by omega)) rfl rfl H.2.1.1 (by decide) (by omega) (by omega) (Nat.le_of_ble_eq_true rfl) dX5_quota_2 (fun h H F => ?_)
  refine g_if_ne C 18 dX5_quota_5 (by decide) (by omega) (fun c5 => ?_) (fun c5 => ?_)
  · refine g_iload_n C 2 dX5_quota_18 rfl rfl ?_
    refine g_if_lt C 29 dX5_quota_19 (by decide) (by omega) (fun c19 => ?_) (fun c19 => ?_)
    · exact g_throw C hfl (t_49_94 rfl) dX5_quota_29 dX5_quota_32 dX5_quota_33 dX5_quota_35 dX5_quota_38 (by decide) (by omega) (by omega) (Nat.le_of_ble_eq_true rfl) (fun n hn => ⟨rfl, H.dead hn, F.tr (FrX.dead H.1 hn)⟩)
    · refine g_iload_n C 2 dX5_quota_22 rfl rfl ?_
      refine g_sipush C dX5_quota_23 (by decide) ?_
      refine g_icmp_le C 39 dX5_quota_26 (by decide) (by omega) (by omega) (fun c26 => ?_) (fun c26 => ?_)
      · omega
      · exact g_throw C hfl (t_49_94 rfl) dX5_quota_29 dX5_quota_32 dX5_quota_33 dX5_quota_35 dX5_quota_38 (by decide) (by omega) (by omega) (Nat.le_of_ble_eq_true rfl) (fun n hn => ⟨rfl, H.dead hn, F.tr (FrX.dead H.1 hn)⟩)
  · omega

set_option maxRecDepth 100000 in
set_option maxHeartbeats 4000000 in
theorem p5_quota_3 (t : Int) (ht : (-2147483648 ≤ t ∧ t < 2147483648)) (b : Int) (hb : (-2147483648 ≤ b ∧ b < 2147483648)) (hp : 0 ≤ t ∧ t < 4) (hq : 0 ≤ b ∧ b ≤ 20000) : gXs w l yX5_quota cX5_quota 4 (some .int) 0 0 [.ref 1, .int (iI t), .int (iI b)] Y s A B (some (.int (iI (Y 6 t.toNat)))) (su Y 6 t.toNat b) s A B := by
  refine gXs_start (by decide +kernel) (by simp [Value.category]) (Nat.le_of_ble_eq_true rfl) (fun m Wp h C H F => ?_)
  obtain ⟨h0, hh0⟩ : ∃ h0, h0 = h := ⟨_, rfl⟩
  rw [← hh0] at C
  have F : FrX h0 h := by rw [hh0]; exact F
  have htx : t = (t.toNat : Int) := by omega
  have htl : t.toNat < 4 := by omega
  show gG w m 4 Wp h 0 0 [some (.ref 1), some (.int (iI t)), some (.int (iI b)), none] [] 0
  refine g_aload_n C 0 dX5_quota_0 rfl rfl ?_
  refine g_iload_n C 1 dX5_quota_1 rfl rfl ?_
  refine x_call C H F [_] _ (kX5_89 rfl) (e5_isTenant_t t ht (by omega)) rfl rfl H.2.1.1 (by decide) (by omega) (by omega) (Nat.le_of_ble_eq_true rfl) dX5_quota_2 (fun h H F => ?_)
  refine g_if_ne C 18 dX5_quota_5 (by decide) (by omega) (fun c5 => ?_) (fun c5 => ?_)
  · refine g_iload_n C 2 dX5_quota_18 rfl rfl ?_
    refine g_if_lt C 29 dX5_quota_19 (by decide) (by omega) (fun c19 => ?_) (fun c19 => ?_)
    · omega
    · refine g_iload_n C 2 dX5_quota_22 rfl rfl ?_
      refine g_sipush C dX5_quota_23 (by decide) ?_
      refine g_icmp_le C 39 dX5_quota_26 (by decide) (by omega) (by omega) (fun c26 => ?_) (fun c26 => ?_)
      · refine g_aload_n C 0 dX5_quota_39 rfl rfl ?_
        refine x_rmain C H 5 (fX5_27 rfl) (by omega) dX5_quota_40 ?_
        refine g_iload_n C 1 dX5_quota_43 rfl rfl ?_
        refine x_tens C H t.toNat htx htl dX5_quota_44 ?_
        refine x_gten C H htl (by omega) (fX5_96 rfl) (Y 6 t.toNat) rfl dX5_quota_45 ?_
        refine s_istore_n (lo' := [_, _, _, _]) C 3 dX5_quota_48 rfl (by decide) rfl ?_
        refine g_aload_n C 0 dX5_quota_49 rfl rfl ?_
        refine x_rmain C H 5 (fX5_27 rfl) (by omega) dX5_quota_50 ?_
        refine g_iload_n C 1 dX5_quota_53 rfl rfl ?_
        refine x_tens C H t.toNat htx htl dX5_quota_54 ?_
        refine g_iload_n C 2 dX5_quota_55 rfl rfl ?_
        refine x_pten C H F htl (by omega) (fX5_96 rfl) dX5_quota_56 (fun h H F => ?_)
        refine g_iload_n C 3 dX5_quota_59 rfl rfl ?_
        exact g_iret C dX5_quota_60 (by omega) (by omega) ⟨rfl, H, F⟩
      · omega
  · omega

set_option maxRecDepth 100000 in
set_option maxHeartbeats 4000000 in
theorem p5_limit_1 (hfl : l.stackTraces = false) (x : Int) (hx : (-2147483648 ≤ x ∧ x < 2147483648)) (hp : ¬ (0 ≤ x ∧ x ≤ 1000)) : gXt w l yX5_limit cX5_limit 3 (some .int) [.ref 1, .int (iI x)] Y s A B "java/lang/IllegalArgumentException" := by
  refine gXt_start (by decide +kernel) (by simp [Value.category]) (Nat.le_of_ble_eq_true rfl) (fun m Wp h C H F => ?_)
  obtain ⟨h0, hh0⟩ : ∃ h0, h0 = h := ⟨_, rfl⟩
  rw [← hh0] at C
  have F : FrX h0 h := by rw [hh0]; exact F
  show gG w m 3 Wp h 0 0 [some (.ref 1), some (.int (iI x)), none] [] 0
  refine g_iload_n C 1 dX5_limit_0 rfl rfl ?_
  refine g_if_lt C 11 dX5_limit_1 (by decide) (by omega) (fun c1 => ?_) (fun c1 => ?_)
  · exact g_throw C hfl (t_49_99 rfl) dX5_limit_11 dX5_limit_14 dX5_limit_15 dX5_limit_17 dX5_limit_20 (by decide) (by omega) (by omega) (Nat.le_of_ble_eq_true rfl) (fun n hn => ⟨rfl, H.dead hn, F.tr (FrX.dead H.1 hn)⟩)
  · refine g_iload_n C 1 dX5_limit_4 rfl rfl ?_
    refine g_sipush C dX5_limit_5 (by decide) ?_
    refine g_icmp_le C 21 dX5_limit_8 (by decide) (by omega) (by omega) (fun c8 => ?_) (fun c8 => ?_)
    · omega
    · exact g_throw C hfl (t_49_99 rfl) dX5_limit_11 dX5_limit_14 dX5_limit_15 dX5_limit_17 dX5_limit_20 (by decide) (by omega) (by omega) (Nat.le_of_ble_eq_true rfl) (fun n hn => ⟨rfl, H.dead hn, F.tr (FrX.dead H.1 hn)⟩)

set_option maxRecDepth 100000 in
set_option maxHeartbeats 4000000 in
theorem p5_limit_2 (x : Int) (hx : (-2147483648 ≤ x ∧ x < 2147483648)) (hp : 0 ≤ x ∧ x ≤ 1000) : gXs w l yX5_limit cX5_limit 3 (some .int) 0 0 [.ref 1, .int (iI x)] Y s A B (some (.int (iI (Y 0 9)))) (su Y 0 9 x) s A B := by
  refine gXs_start (by decide +kernel) (by simp [Value.category]) (Nat.le_of_ble_eq_true rfl) (fun m Wp h C H F => ?_)
  obtain ⟨h0, hh0⟩ : ∃ h0, h0 = h := ⟨_, rfl⟩
  rw [← hh0] at C
  have F : FrX h0 h := by rw [hh0]; exact F
  show gG w m 3 Wp h 0 0 [some (.ref 1), some (.int (iI x)), none] [] 0
  refine g_iload_n C 1 dX5_limit_0 rfl rfl ?_
  refine g_if_lt C 11 dX5_limit_1 (by decide) (by omega) (fun c1 => ?_) (fun c1 => ?_)
  · omega
  · refine g_iload_n C 1 dX5_limit_4 rfl rfl ?_
    refine g_sipush C dX5_limit_5 (by decide) ?_
    refine g_icmp_le C 21 dX5_limit_8 (by decide) (by omega) (by omega) (fun c8 => ?_) (fun c8 => ?_)
    · refine g_aload_n C 0 dX5_limit_21 rfl rfl ?_
      refine x_gmain C H (fX5_101 rfl) rfl (Y 0 9) rfl dX5_limit_22 ?_
      refine s_istore_n (lo' := [_, _, _]) C 2 dX5_limit_25 rfl (by decide) rfl ?_
      refine g_aload_n C 0 dX5_limit_26 rfl rfl ?_
      refine g_iload_n C 1 dX5_limit_27 rfl rfl ?_
      refine x_pmain C H F (fX5_101 rfl) rfl dX5_limit_28 (fun h H F => ?_)
      refine g_iload_n C 2 dX5_limit_31 rfl rfl ?_
      exact g_iret C dX5_limit_32 (by omega) (by omega) ⟨rfl, H, F⟩
    · omega

set_option maxRecDepth 100000 in
set_option maxHeartbeats 4000000 in
theorem p5_read_1 (hfl : l.stackTraces = false) (key : Int) (hkey : (-2147483648 ≤ key ∧ key < 2147483648)) (hp : ¬ (0 ≤ key ∧ key < 1000)) : gXt w l yX5_read cX5_read 3 (some .int) [.ref 1, .int (iI key)] Y s A B "java/lang/IndexOutOfBoundsException" := by
  refine gXt_start (by decide +kernel) (by simp [Value.category]) (Nat.le_of_ble_eq_true rfl) (fun m Wp h C H F => ?_)
  obtain ⟨h0, hh0⟩ : ∃ h0, h0 = h := ⟨_, rfl⟩
  rw [← hh0] at C
  have F : FrX h0 h := by rw [hh0]; exact F
  show gG w m 3 Wp h 0 0 [some (.ref 1), some (.int (iI key)), none] [] 0
  refine g_aload_n C 0 dX5_read_0 rfl rfl ?_
  refine g_iload_n C 1 dX5_read_1 rfl rfl ?_
  refine x_call C H F [_] _ (kX5_104 rfl) (e5_isKey_f key hkey (by omega)) rfl rfl H.2.1.1 (by decide) (by omega) (by omega) (Nat.le_of_ble_eq_true rfl) dX5_read_2 (fun h H F => ?_)
  refine g_if_ne C 18 dX5_read_5 (by decide) (by omega) (fun c5 => ?_) (fun c5 => ?_)
  · omega
  · exact g_throw C hfl (t_81_136 rfl) dX5_read_8 dX5_read_11 dX5_read_12 dX5_read_14 dX5_read_17 (by decide) (by omega) (by omega) (Nat.le_of_ble_eq_true rfl) (fun n hn => ⟨rfl, H.dead hn, F.tr (FrX.dead H.1 hn)⟩)

set_option maxRecDepth 100000 in
set_option maxHeartbeats 4000000 in
theorem p5_take_1 (hfl : l.stackTraces = false) (key : Int) (hkey : (-2147483648 ≤ key ∧ key < 2147483648)) (hp : ¬ (0 ≤ key ∧ key < 1000)) : gXt w l yX5_take cX5_take 4 (some .int) [.ref 1, .int (iI key)] Y s A B "java/lang/IndexOutOfBoundsException" := by
  refine gXt_start (by decide +kernel) (by simp [Value.category]) (Nat.le_of_ble_eq_true rfl) (fun m Wp h C H F => ?_)
  obtain ⟨h0, hh0⟩ : ∃ h0, h0 = h := ⟨_, rfl⟩
  rw [← hh0] at C
  have F : FrX h0 h := by rw [hh0]; exact F
  show gG w m 4 Wp h 0 0 [some (.ref 1), some (.int (iI key)), none, none] [] 0
  refine g_aload_n C 0 dX5_take_0 rfl rfl ?_
  refine g_iload_n C 1 dX5_take_1 rfl rfl ?_
  refine x_call C H F [_] _ (kX5_104 rfl) (e5_isKey_f key hkey (by omega)) rfl rfl H.2.1.1 (by decide) (by omega) (by omega) (Nat.le_of_ble_eq_true rfl) dX5_take_2 (fun h H F => ?_)
  refine g_if_ne C 18 dX5_take_5 (by decide) (by omega) (fun c5 => ?_) (fun c5 => ?_)
  · omega
  · exact g_throw C hfl (t_81_136 rfl) dX5_take_8 dX5_take_11 dX5_take_12 dX5_take_14 dX5_take_17 (by decide) (by omega) (by omega) (Nat.le_of_ble_eq_true rfl) (fun n hn => ⟨rfl, H.dead hn, F.tr (FrX.dead H.1 hn)⟩)

set_option maxRecDepth 100000 in
set_option maxHeartbeats 4000000 in
theorem p5_shardOf_1 (hfl : l.stackTraces = false) (key : Int) (hkey : (-2147483648 ≤ key ∧ key < 2147483648)) (hp : ¬ (0 ≤ key ∧ key < 1000)) : gXt w l yX5_shardOf cX5_shardOf 2 (some .int) [.ref 1, .int (iI key)] Y s A B "java/lang/IndexOutOfBoundsException" := by
  refine gXt_start (by decide +kernel) (by simp [Value.category]) (Nat.le_of_ble_eq_true rfl) (fun m Wp h C H F => ?_)
  obtain ⟨h0, hh0⟩ : ∃ h0, h0 = h := ⟨_, rfl⟩
  rw [← hh0] at C
  have F : FrX h0 h := by rw [hh0]; exact F
  show gG w m 2 Wp h 0 0 [some (.ref 1), some (.int (iI key))] [] 0
  refine g_aload_n C 0 dX5_shardOf_0 rfl rfl ?_
  refine g_iload_n C 1 dX5_shardOf_1 rfl rfl ?_
  refine x_call C H F [_] _ (kX5_104 rfl) (e5_isKey_f key hkey (by omega)) rfl rfl H.2.1.1 (by decide) (by omega) (by omega) (Nat.le_of_ble_eq_true rfl) dX5_shardOf_2 (fun h H F => ?_)
  refine g_if_ne C 18 dX5_shardOf_5 (by decide) (by omega) (fun c5 => ?_) (fun c5 => ?_)
  · omega
  · exact g_throw C hfl (t_81_136 rfl) dX5_shardOf_8 dX5_shardOf_11 dX5_shardOf_12 dX5_shardOf_14 dX5_shardOf_17 (by decide) (by omega) (by omega) (Nat.le_of_ble_eq_true rfl) (fun n hn => ⟨rfl, H.dead hn, F.tr (FrX.dead H.1 hn)⟩)

set_option maxRecDepth 100000 in
set_option maxHeartbeats 4000000 in
theorem p5_whereAnew_1 (hfl : l.stackTraces = false) (key : Int) (hkey : (-2147483648 ≤ key ∧ key < 2147483648)) (hp : ¬ (0 ≤ key ∧ key < 1000)) : gXt w l yX5_whereAnew cX5_whereAnew 3 (some .int) [.ref 1, .int (iI key)] Y s A B "java/lang/IndexOutOfBoundsException" := by
  refine gXt_start (by decide +kernel) (by simp [Value.category]) (Nat.le_of_ble_eq_true rfl) (fun m Wp h C H F => ?_)
  obtain ⟨h0, hh0⟩ : ∃ h0, h0 = h := ⟨_, rfl⟩
  rw [← hh0] at C
  have F : FrX h0 h := by rw [hh0]; exact F
  show gG w m 3 Wp h 0 0 [some (.ref 1), some (.int (iI key)), none] [] 0
  refine g_aload_n C 0 dX5_whereAnew_0 rfl rfl ?_
  refine g_iload_n C 1 dX5_whereAnew_1 rfl rfl ?_
  refine x_call C H F [_] _ (kX5_104 rfl) (e5_isKey_f key hkey (by omega)) rfl rfl H.2.1.1 (by decide) (by omega) (by omega) (Nat.le_of_ble_eq_true rfl) dX5_whereAnew_2 (fun h H F => ?_)
  refine g_if_ne C 18 dX5_whereAnew_5 (by decide) (by omega) (fun c5 => ?_) (fun c5 => ?_)
  · omega
  · exact g_throw C hfl (t_81_136 rfl) dX5_whereAnew_8 dX5_whereAnew_11 dX5_whereAnew_12 dX5_whereAnew_14 dX5_whereAnew_17 (by decide) (by omega) (by omega) (Nat.le_of_ble_eq_true rfl) (fun n hn => ⟨rfl, H.dead hn, F.tr (FrX.dead H.1 hn)⟩)

set_option maxRecDepth 100000 in
set_option maxHeartbeats 4000000 in
theorem p5_shardOf_2 (key : Int) (hkey : (-2147483648 ≤ key ∧ key < 2147483648)) (ns : Nat) (hn : Y 0 7 = ns) (hns : ns ≤ 16) (j : Nat) (hj : j < ns) (hk0 : 0 ≤ key ∧ key < 1000) (hf : ∀ i, i < ns → 0 ≤ Y 10 (s i) ∧ Y 10 (s i) ≤ 1000) (hle : Y 10 (s j) ≤ key) (hgt : ∀ i, j < i → i < ns → key < Y 10 (s i)) : gXs w l yX5_shardOf cX5_shardOf 2 (some .int) 0 0 [.ref 1, .int (iI key)] Y s A B (some (.int (iI ((j : Int))))) (Y) s A B := by
  refine gXs_start (by decide +kernel) (by simp [Value.category]) (Nat.le_of_ble_eq_true rfl) (fun m Wp h C H F => ?_)
  obtain ⟨h0, hh0⟩ : ∃ h0, h0 = h := ⟨_, rfl⟩
  rw [← hh0] at C
  have F : FrX h0 h := by rw [hh0]; exact F
  have hkx : key = (key.toNat : Int) := by omega
  have hkl : key.toNat < 1000 := by omega
  have hsj : s j < 16 := (H.2.2.1.2.2.2 j (by omega)).1
  show gG w m 2 Wp h 0 0 [some (.ref 1), some (.int (iI key))] [] 0
  refine g_aload_n C 0 dX5_shardOf_0 rfl rfl ?_
  refine g_iload_n C 1 dX5_shardOf_1 rfl rfl ?_
  refine x_call C H F [_] _ (kX5_104 rfl) (e5_isKey_t key hkey (by omega)) rfl rfl H.2.1.1 (by decide) (by omega) (by omega) (Nat.le_of_ble_eq_true rfl) dX5_shardOf_2 (fun h H F => ?_)
  refine g_if_ne C 18 dX5_shardOf_5 (by decide) (by omega) (fun c5 => ?_) (fun c5 => ?_)
  · refine g_aload_n C 0 dX5_shardOf_18 rfl rfl ?_
    refine g_iload_n C 1 dX5_shardOf_19 rfl rfl ?_
    refine x_call C H F [_] _ (kX5_109 rfl) (e5_numberOfShardWith key hkey ns j hn hns hj hf hle hgt) rfl rfl H.2.1.1 (by decide) (by omega) (by omega) (Nat.le_of_ble_eq_true rfl) dX5_shardOf_20 (fun h H F => ?_)
    exact g_iret C dX5_shardOf_23 (by omega) (by omega) ⟨rfl, H, F⟩
  · omega

set_option maxRecDepth 100000 in
set_option maxHeartbeats 4000000 in
theorem p5_read_2 (hfl : l.stackTraces = false) (key : Int) (hkey : (-2147483648 ≤ key ∧ key < 2147483648)) (ns : Nat) (hn : Y 0 7 = ns) (hns : ns ≤ 16) (j : Nat) (hj : j < ns) (hk0 : 0 ≤ key ∧ key < 1000) (hf : ∀ i, i < ns → 0 ≤ Y 10 (s i) ∧ Y 10 (s i) ≤ 1000) (hle : Y 10 (s j) ≤ key) (hgt : ∀ i, j < i → i < ns → key < Y 10 (s i)) (hu : Y 3 (Y 12 (s j)).toNat = 0) : gXt w l yX5_read cX5_read 3 (some .int) [.ref 1, .int (iI key)] Y s A B "java/lang/IllegalStateException" := by
  refine gXt_start (by decide +kernel) (by simp [Value.category]) (Nat.le_of_ble_eq_true rfl) (fun m Wp h C H F => ?_)
  obtain ⟨h0, hh0⟩ : ∃ h0, h0 = h := ⟨_, rfl⟩
  rw [← hh0] at C
  have F : FrX h0 h := by rw [hh0]; exact F
  have hkx : key = (key.toNat : Int) := by omega
  have hkl : key.toNat < 1000 := by omega
  have hsj : s j < 16 := (H.2.2.1.2.2.2 j (by omega)).1
  have h62 : (Y 12 (s j)).toNat ≤ 6 := x_z6 (i := 2) H hsj (by omega)
  have h63 : (Y 13 (s j)).toNat ≤ 6 := x_z6 (i := 3) H hsj (by omega)
  show gG w m 3 Wp h 0 0 [some (.ref 1), some (.int (iI key)), none] [] 0
  refine g_aload_n C 0 dX5_read_0 rfl rfl ?_
  refine g_iload_n C 1 dX5_read_1 rfl rfl ?_
  refine x_call C H F [_] _ (kX5_104 rfl) (e5_isKey_t key hkey (by omega)) rfl rfl H.2.1.1 (by decide) (by omega) (by omega) (Nat.le_of_ble_eq_true rfl) dX5_read_2 (fun h H F => ?_)
  refine g_if_ne C 18 dX5_read_5 (by decide) (by omega) (fun c5 => ?_) (fun c5 => ?_)
  · refine g_aload_n C 0 dX5_read_18 rfl rfl ?_
    refine x_rmain C H 17 (fX5_38 rfl) (by omega) dX5_read_19 ?_
    refine g_aload_n C 0 dX5_read_22 rfl rfl ?_
    refine g_iload_n C 1 dX5_read_23 rfl rfl ?_
    refine x_call C H F [_] _ (kX5_109 rfl) (e5_numberOfShardWith key hkey ns j hn hns hj hf hle hgt) rfl rfl H.2.1.1 (by decide) (by omega) (by omega) (Nat.le_of_ble_eq_true rfl) dX5_read_24 (fun h H F => ?_)
    refine x_shas C H j rfl (by omega) (s j) rfl dX5_read_27 ?_
    refine s_astore_n (lo' := [_, _, _]) C 2 dX5_read_28 rfl (by decide) rfl ?_
    refine g_aload_n C 2 dX5_read_29 rfl rfl ?_
    refine x_ghome C H hsj (by omega) (fX5_117 rfl) rfl ((Y 12 (s j)).toNat) rfl dX5_read_30 ?_
    refine x_gmac C H h62 (by omega) (fX5_67 rfl) (Y 3 (Y 12 (s j)).toNat) rfl dX5_read_33 ?_
    refine g_if_ne C 49 dX5_read_36 (by decide) (gd01 (Or.inl hu)) (fun c36 => ?_) (fun c36 => ?_)
    · omega
    · exact g_throw C hfl (t_59_140 rfl) dX5_read_39 dX5_read_42 dX5_read_43 dX5_read_45 dX5_read_48 (by decide) (by omega) (by omega) (Nat.le_of_ble_eq_true rfl) (fun n hn => ⟨rfl, H.dead hn, F.tr (FrX.dead H.1 hn)⟩)
  · omega

set_option maxRecDepth 100000 in
set_option maxHeartbeats 4000000 in
theorem p5_read_3 (key : Int) (hkey : (-2147483648 ≤ key ∧ key < 2147483648)) (ns : Nat) (hn : Y 0 7 = ns) (hns : ns ≤ 16) (j : Nat) (hj : j < ns) (hk0 : 0 ≤ key ∧ key < 1000) (hf : ∀ i, i < ns → 0 ≤ Y 10 (s i) ∧ Y 10 (s i) ≤ 1000) (hle : Y 10 (s j) ≤ key) (hgt : ∀ i, j < i → i < ns → key < Y 10 (s i)) (hu : Y 3 (Y 12 (s j)).toNat = 1) : gXs w l yX5_read cX5_read 3 (some .int) 0 0 [.ref 1, .int (iI key)] Y s A B (some (.int (iI (Y 8 key.toNat)))) (su Y 18 (s j) (Y 18 (s j) + 1)) s A B := by
  refine gXs_start (by decide +kernel) (by simp [Value.category]) (Nat.le_of_ble_eq_true rfl) (fun m Wp h C H F => ?_)
  obtain ⟨h0, hh0⟩ : ∃ h0, h0 = h := ⟨_, rfl⟩
  rw [← hh0] at C
  have F : FrX h0 h := by rw [hh0]; exact F
  have hkx : key = (key.toNat : Int) := by omega
  have hkl : key.toNat < 1000 := by omega
  have hsj : s j < 16 := (H.2.2.1.2.2.2 j (by omega)).1
  have h62 : (Y 12 (s j)).toNat ≤ 6 := x_z6 (i := 2) H hsj (by omega)
  have h63 : (Y 13 (s j)).toNat ≤ 6 := x_z6 (i := 3) H hsj (by omega)
  show gG w m 3 Wp h 0 0 [some (.ref 1), some (.int (iI key)), none] [] 0
  refine g_aload_n C 0 dX5_read_0 rfl rfl ?_
  refine g_iload_n C 1 dX5_read_1 rfl rfl ?_
  refine x_call C H F [_] _ (kX5_104 rfl) (e5_isKey_t key hkey (by omega)) rfl rfl H.2.1.1 (by decide) (by omega) (by omega) (Nat.le_of_ble_eq_true rfl) dX5_read_2 (fun h H F => ?_)
  refine g_if_ne C 18 dX5_read_5 (by decide) (by omega) (fun c5 => ?_) (fun c5 => ?_)
  · refine g_aload_n C 0 dX5_read_18 rfl rfl ?_
    refine x_rmain C H 17 (fX5_38 rfl) (by omega) dX5_read_19 ?_
    refine g_aload_n C 0 dX5_read_22 rfl rfl ?_
    refine g_iload_n C 1 dX5_read_23 rfl rfl ?_
    refine x_call C H F [_] _ (kX5_109 rfl) (e5_numberOfShardWith key hkey ns j hn hns hj hf hle hgt) rfl rfl H.2.1.1 (by decide) (by omega) (by omega) (Nat.le_of_ble_eq_true rfl) dX5_read_24 (fun h H F => ?_)
    refine x_shas C H j rfl (by omega) (s j) rfl dX5_read_27 ?_
    refine s_astore_n (lo' := [_, _, _]) C 2 dX5_read_28 rfl (by decide) rfl ?_
    refine g_aload_n C 2 dX5_read_29 rfl rfl ?_
    refine x_ghome C H hsj (by omega) (fX5_117 rfl) rfl ((Y 12 (s j)).toNat) rfl dX5_read_30 ?_
    refine x_gmac C H h62 (by omega) (fX5_67 rfl) (Y 3 (Y 12 (s j)).toNat) rfl dX5_read_33 ?_
    refine g_if_ne C 49 dX5_read_36 (by decide) (gd01 (Or.inr hu)) (fun c36 => ?_) (fun c36 => ?_)
    · refine g_aload_n C 2 dX5_read_49 rfl rfl ?_
      refine g_dup C dX5_read_50 rfl ?_
      refine x_gsha C H hsj (by omega) (fX5_142 rfl) rfl (Y 18 (s j)) rfl dX5_read_51 ?_
      refine g_iconst C dX5_read_54 ?_
      refine g_iadd C dX5_read_55 ?_
      refine x_psha C H F hsj (by omega) (fX5_142 rfl) rfl dX5_read_56 (fun h H F => ?_)
      refine g_aload_n C 0 dX5_read_59 rfl rfl ?_
      refine x_rmain C H 3 (fX5_18 rfl) (by omega) dX5_read_60 ?_
      refine g_iload_n C 1 dX5_read_63 rfl rfl ?_
      refine x_byt C H key.toNat hkx hkl (Y 8 key.toNat) rfl dX5_read_64 ?_
      exact g_iret C dX5_read_65 (by omega) (by omega) ⟨rfl, H, F⟩
    · omega
  · omega

set_option maxRecDepth 100000 in
set_option maxHeartbeats 4000000 in
theorem p5_take_2 (hfl : l.stackTraces = false) (key : Int) (hkey : (-2147483648 ≤ key ∧ key < 2147483648)) (ns : Nat) (hn : Y 0 7 = ns) (hns : ns ≤ 16) (j : Nat) (hj : j < ns) (hk0 : 0 ≤ key ∧ key < 1000) (hf : ∀ i, i < ns → 0 ≤ Y 10 (s i) ∧ Y 10 (s i) ≤ 1000) (hle : Y 10 (s j) ≤ key) (hgt : ∀ i, j < i → i < ns → key < Y 10 (s i)) (hu : Y 3 (Y 12 (s j)).toNat = 0 ∨ Y 3 (Y 12 (s j)).toNat = 1) (hc : (-2147483648 ≤ Y 0 13 ∧ Y 0 13 < 2147483648)) (h8r : (-2147483648 ≤ Y 8 key.toNat ∧ Y 8 key.toNat < 2147483648)) (hp : ¬ (Y 8 key.toNat ≠ 0 ∧ Y 3 (Y 12 (s j)).toNat = 1 ∧ Y 0 13 < 600)) : gXt w l yX5_take cX5_take 4 (some .int) [.ref 1, .int (iI key)] Y s A B "java/lang/IllegalStateException" := by
  refine gXt_start (by decide +kernel) (by simp [Value.category]) (Nat.le_of_ble_eq_true rfl) (fun m Wp h C H F => ?_)
  obtain ⟨h0, hh0⟩ : ∃ h0, h0 = h := ⟨_, rfl⟩
  rw [← hh0] at C
  have F : FrX h0 h := by rw [hh0]; exact F
  have hkx : key = (key.toNat : Int) := by omega
  have hkl : key.toNat < 1000 := by omega
  have hsj : s j < 16 := (H.2.2.1.2.2.2 j (by omega)).1
  have h62 : (Y 12 (s j)).toNat ≤ 6 := x_z6 (i := 2) H hsj (by omega)
  have h63 : (Y 13 (s j)).toNat ≤ 6 := x_z6 (i := 3) H hsj (by omega)
  show gG w m 4 Wp h 0 0 [some (.ref 1), some (.int (iI key)), none, none] [] 0
  refine g_aload_n C 0 dX5_take_0 rfl rfl ?_
  refine g_iload_n C 1 dX5_take_1 rfl rfl ?_
  refine x_call C H F [_] _ (kX5_104 rfl) (e5_isKey_t key hkey (by omega)) rfl rfl H.2.1.1 (by decide) (by omega) (by omega) (Nat.le_of_ble_eq_true rfl) dX5_take_2 (fun h H F => ?_)
  refine g_if_ne C 18 dX5_take_5 (by decide) (by omega) (fun c5 => ?_) (fun c5 => ?_)
  · refine g_aload_n C 0 dX5_take_18 rfl rfl ?_
    refine x_rmain C H 3 (fX5_18 rfl) (by omega) dX5_take_19 ?_
    refine g_iload_n C 1 dX5_take_22 rfl rfl ?_
    refine x_byt C H key.toNat hkx hkl (Y 8 key.toNat) rfl dX5_take_23 ?_
    refine s_istore_n (lo' := [_, _, _, _]) C 2 dX5_take_24 rfl (by decide) rfl ?_
    refine g_aload_n C 0 dX5_take_25 rfl rfl ?_
    refine x_rmain C H 17 (fX5_38 rfl) (by omega) dX5_take_26 ?_
    refine g_aload_n C 0 dX5_take_29 rfl rfl ?_
    refine g_iload_n C 1 dX5_take_30 rfl rfl ?_
    refine x_call C H F [_] _ (kX5_109 rfl) (e5_numberOfShardWith key hkey ns j hn hns hj hf hle hgt) rfl rfl H.2.1.1 (by decide) (by omega) (by omega) (Nat.le_of_ble_eq_true rfl) dX5_take_31 (fun h H F => ?_)
    refine x_shas C H j rfl (by omega) (s j) rfl dX5_take_34 ?_
    refine s_astore_n (lo' := [_, _, _, _]) C 3 dX5_take_35 rfl (by decide) rfl ?_
    refine g_iload_n C 2 dX5_take_36 rfl rfl ?_
    refine g_if_eq C 48 dX5_take_37 (by decide) h8r (fun c37 => ?_) (fun c37 => ?_)
    · exact g_throw C hfl (t_59_138 rfl) dX5_take_48 dX5_take_51 dX5_take_52 dX5_take_54 dX5_take_57 (by decide) (by omega) (by omega) (Nat.le_of_ble_eq_true rfl) (fun n hn => ⟨rfl, H.dead hn, F.tr (FrX.dead H.1 hn)⟩)
    · refine g_aload_n C 0 dX5_take_40 rfl rfl ?_
      refine g_aload_n C 3 dX5_take_41 rfl rfl ?_
      refine x_call C H F [_] _ (kX5_113 rfl) (e5_mayChange hsj hu hc) rfl rfl H.2.1.1 (by decide) (by omega) (by omega) (Nat.le_of_ble_eq_true rfl) dX5_take_42 (fun h H F => ?_)
      refine g_if_ne C 58 dX5_take_45 (by decide) (bI_r _) (fun c45 => ?_) (fun c45 => ?_)
      · exact absurd ⟨c37, Classical.byContradiction fun z => c45 (bI_f z)⟩ hp
      · exact g_throw C hfl (t_59_138 rfl) dX5_take_48 dX5_take_51 dX5_take_52 dX5_take_54 dX5_take_57 (by decide) (by omega) (by omega) (Nat.le_of_ble_eq_true rfl) (fun n hn => ⟨rfl, H.dead hn, F.tr (FrX.dead H.1 hn)⟩)
  · omega

set_option maxRecDepth 100000 in
set_option maxHeartbeats 4000000 in
theorem p5_take_3 (key : Int) (hkey : (-2147483648 ≤ key ∧ key < 2147483648)) (ns : Nat) (hn : Y 0 7 = ns) (hns : ns ≤ 16) (j : Nat) (hj : j < ns) (hk0 : 0 ≤ key ∧ key < 1000) (hf : ∀ i, i < ns → 0 ≤ Y 10 (s i) ∧ Y 10 (s i) ≤ 1000) (hle : Y 10 (s j) ≤ key) (hgt : ∀ i, j < i → i < ns → key < Y 10 (s i)) (hu : Y 3 (Y 12 (s j)).toNat = 0 ∨ Y 3 (Y 12 (s j)).toNat = 1) (hc : (-2147483648 ≤ Y 0 13 ∧ Y 0 13 < 2147483648)) (h8r : (-2147483648 ≤ Y 8 key.toNat ∧ Y 8 key.toNat < 2147483648)) (h9 : -1 ≤ Y 9 key.toNat ∧ Y 9 key.toNat ≤ 3) (hN : gNu Y) (h14 : (-2147483648 ≤ Y 14 (s j) ∧ Y 14 (s j) < 2147483648)) (rg1 : (-2147483648 ≤ (ychg Y (s j) key.toNat (-1) 0 4 (ychg Y (s j) key.toNat (-1) 0 13 (s j)).toNat + (0 - Y 8 key.toNat)) ∧ (ychg Y (s j) key.toNat (-1) 0 4 (ychg Y (s j) key.toNat (-1) 0 13 (s j)).toNat + (0 - Y 8 key.toNat)) < 2147483648)) (rg2 : (-2147483648 ≤ ychg Y (s j) key.toNat (-1) 0 2 (ychg Y (s j) key.toNat (-1) 0 13 (s j)).toNat ∧ ychg Y (s j) key.toNat (-1) 0 2 (ychg Y (s j) key.toNat (-1) 0 13 (s j)).toNat < 2147483648)) (hp1 : Y 8 key.toNat ≠ 0) (hp2 : Y 3 (Y 12 (s j)).toNat = 1) (hp3 : Y 0 13 < 600) : gXs w l yX5_take cX5_take 4 (some .int) 1 6 [.ref 1, .int (iI key)] Y s A B (some (.int (iI (Y 8 key.toNat)))) (ychc (ychg Y (s j) key.toNat (-1) 0) (s j) key (0 - Y 8 key.toNat)) s ((Y 0 8, Y 9 key.toNat, Y 8 key.toNat, -1, 0) :: A) B := by
  refine gXs_start (by decide +kernel) (by simp [Value.category]) (Nat.le_of_ble_eq_true rfl) (fun m Wp h C H F => ?_)
  obtain ⟨h0, hh0⟩ : ∃ h0, h0 = h := ⟨_, rfl⟩
  rw [← hh0] at C
  have F : FrX h0 h := by rw [hh0]; exact F
  have hkx : key = (key.toNat : Int) := by omega
  have hkl : key.toNat < 1000 := by omega
  have hsj : s j < 16 := (H.2.2.1.2.2.2 j (by omega)).1
  have h62 : (Y 12 (s j)).toNat ≤ 6 := x_z6 (i := 2) H hsj (by omega)
  have h63 : (Y 13 (s j)).toNat ≤ 6 := x_z6 (i := 3) H hsj (by omega)
  have hmb : bI (Y 3 (Y 12 (s j)).toNat = 1 ∧ Y 0 13 < 600) = 1 := bI_t ⟨hp2, hp3⟩
  show gG w m 4 Wp h 0 0 [some (.ref 1), some (.int (iI key)), none, none] [] 0
  refine g_aload_n C 0 dX5_take_0 rfl rfl ?_
  refine g_iload_n C 1 dX5_take_1 rfl rfl ?_
  refine x_call C H F [_] _ (kX5_104 rfl) (e5_isKey_t key hkey (by omega)) rfl rfl H.2.1.1 (by decide) (by omega) (by omega) (Nat.le_of_ble_eq_true rfl) dX5_take_2 (fun h H F => ?_)
  refine g_if_ne C 18 dX5_take_5 (by decide) (by omega) (fun c5 => ?_) (fun c5 => ?_)
  · refine g_aload_n C 0 dX5_take_18 rfl rfl ?_
    refine x_rmain C H 3 (fX5_18 rfl) (by omega) dX5_take_19 ?_
    refine g_iload_n C 1 dX5_take_22 rfl rfl ?_
    refine x_byt C H key.toNat hkx hkl (Y 8 key.toNat) rfl dX5_take_23 ?_
    refine s_istore_n (lo' := [_, _, _, _]) C 2 dX5_take_24 rfl (by decide) rfl ?_
    refine g_aload_n C 0 dX5_take_25 rfl rfl ?_
    refine x_rmain C H 17 (fX5_38 rfl) (by omega) dX5_take_26 ?_
    refine g_aload_n C 0 dX5_take_29 rfl rfl ?_
    refine g_iload_n C 1 dX5_take_30 rfl rfl ?_
    refine x_call C H F [_] _ (kX5_109 rfl) (e5_numberOfShardWith key hkey ns j hn hns hj hf hle hgt) rfl rfl H.2.1.1 (by decide) (by omega) (by omega) (Nat.le_of_ble_eq_true rfl) dX5_take_31 (fun h H F => ?_)
    refine x_shas C H j rfl (by omega) (s j) rfl dX5_take_34 ?_
    refine s_astore_n (lo' := [_, _, _, _]) C 3 dX5_take_35 rfl (by decide) rfl ?_
    refine g_iload_n C 2 dX5_take_36 rfl rfl ?_
    refine g_if_eq C 48 dX5_take_37 (by decide) h8r (fun c37 => ?_) (fun c37 => ?_)
    · omega
    · refine g_aload_n C 0 dX5_take_40 rfl rfl ?_
      refine g_aload_n C 3 dX5_take_41 rfl rfl ?_
      refine x_call C H F [_] _ (kX5_113 rfl) (e5_mayChange hsj hu hc) rfl rfl H.2.1.1 (by decide) (by omega) (by omega) (Nat.le_of_ble_eq_true rfl) dX5_take_42 (fun h H F => ?_)
      refine g_if_ne C 58 dX5_take_45 (by decide) (bI_r _) (fun c45 => ?_) (fun c45 => ?_)
      · refine g_aload_n C 0 dX5_take_58 rfl rfl ?_
        refine g_aload_n C 3 dX5_take_59 rfl rfl ?_
        refine g_iload_n C 1 dX5_take_60 rfl rfl ?_
        refine g_iconst C dX5_take_61 ?_
        refine g_iconst C dX5_take_62 ?_
        refine x_call C H F [_, _, _, _] _ (kX5_129 rfl) (e5_change hsj hN key key.toNat hkx hkl (-1) 0 (by omega) h9 h62 h63 h14 rg1 rg2) rfl rfl H.2.1.1 (by decide) (by omega) (by omega) (Nat.le_of_ble_eq_true rfl) dX5_take_63 (fun h H F => ?_)
        refine g_iload_n C 2 dX5_take_66 rfl rfl ?_
        exact g_iret C dX5_take_67 (by omega) (by omega) ⟨rfl, H, F⟩
      · omega
  · omega

set_option maxRecDepth 100000 in
set_option maxHeartbeats 4000000 in
theorem p5_write_1 (hfl : l.stackTraces = false) (key : Int) (hkey : (-2147483648 ≤ key ∧ key < 2147483648)) (t : Int) (ht : (-2147483648 ≤ t ∧ t < 2147483648)) (b : Int) (hb : (-2147483648 ≤ b ∧ b < 2147483648)) (hp : ¬ (0 ≤ key ∧ key < 1000)) : gXt w l yX5_write cX5_write 5 (some .int) [.ref 1, .int (iI key), .int (iI t), .int (iI b)] Y s A B "java/lang/IndexOutOfBoundsException" := by
  refine gXt_start (by decide +kernel) (by simp [Value.category]) (Nat.le_of_ble_eq_true rfl) (fun m Wp h C H F => ?_)
  obtain ⟨h0, hh0⟩ : ∃ h0, h0 = h := ⟨_, rfl⟩
  rw [← hh0] at C
  have F : FrX h0 h := by rw [hh0]; exact F
  show gG w m 5 Wp h 0 0 [some (.ref 1), some (.int (iI key)), some (.int (iI t)), some (.int (iI b)), none] [] 0
  refine g_aload_n C 0 dX5_write_0 rfl rfl ?_
  refine g_iload_n C 1 dX5_write_1 rfl rfl ?_
  refine x_call C H F [_] _ (kX5_104 rfl) (e5_isKey_f key hkey (by omega)) rfl rfl H.2.1.1 (by decide) (by omega) (by omega) (Nat.le_of_ble_eq_true rfl) dX5_write_2 (fun h H F => ?_)
  refine g_if_eq C 16 dX5_write_5 (by decide) (by omega) (fun c5 => ?_) (fun c5 => ?_)
  · exact g_throw C hfl (t_81_107 rfl) dX5_write_16 dX5_write_19 dX5_write_20 dX5_write_22 dX5_write_25 (by decide) (by omega) (by omega) (Nat.le_of_ble_eq_true rfl) (fun n hn => ⟨rfl, H.dead hn, F.tr (FrX.dead H.1 hn)⟩)
  · omega

set_option maxRecDepth 100000 in
set_option maxHeartbeats 4000000 in
theorem p5_write_1b (hfl : l.stackTraces = false) (key : Int) (hkey : (-2147483648 ≤ key ∧ key < 2147483648)) (t : Int) (ht : (-2147483648 ≤ t ∧ t < 2147483648)) (b : Int) (hb : (-2147483648 ≤ b ∧ b < 2147483648)) (hp : 0 ≤ key ∧ key < 1000) (hq : ¬ (0 ≤ t ∧ t < 4)) : gXt w l yX5_write cX5_write 5 (some .int) [.ref 1, .int (iI key), .int (iI t), .int (iI b)] Y s A B "java/lang/IndexOutOfBoundsException" := by
  refine gXt_start (by decide +kernel) (by simp [Value.category]) (Nat.le_of_ble_eq_true rfl) (fun m Wp h C H F => ?_)
  obtain ⟨h0, hh0⟩ : ∃ h0, h0 = h := ⟨_, rfl⟩
  rw [← hh0] at C
  have F : FrX h0 h := by rw [hh0]; exact F
  show gG w m 5 Wp h 0 0 [some (.ref 1), some (.int (iI key)), some (.int (iI t)), some (.int (iI b)), none] [] 0
  refine g_aload_n C 0 dX5_write_0 rfl rfl ?_
  refine g_iload_n C 1 dX5_write_1 rfl rfl ?_
  refine x_call C H F [_] _ (kX5_104 rfl) (e5_isKey_t key hkey (by omega)) rfl rfl H.2.1.1 (by decide) (by omega) (by omega) (Nat.le_of_ble_eq_true rfl) dX5_write_2 (fun h H F => ?_)
  refine g_if_eq C 16 dX5_write_5 (by decide) (by omega) (fun c5 => ?_) (fun c5 => ?_)
  · omega
  · refine g_aload_n C 0 dX5_write_8 rfl rfl ?_
    refine g_iload_n C 2 dX5_write_9 rfl rfl ?_
    refine x_call C H F [_] _ (kX5_89 rfl) (e5_isTenant_f t ht (by omega)) rfl rfl H.2.1.1 (by decide) (by omega) (by omega) (Nat.le_of_ble_eq_true rfl) dX5_write_10 (fun h H F => ?_)
    refine g_if_ne C 26 dX5_write_13 (by decide) (by omega) (fun c13 => ?_) (fun c13 => ?_)
    · omega
    · exact g_throw C hfl (t_81_107 rfl) dX5_write_16 dX5_write_19 dX5_write_20 dX5_write_22 dX5_write_25 (by decide) (by omega) (by omega) (Nat.le_of_ble_eq_true rfl) (fun n hn => ⟨rfl, H.dead hn, F.tr (FrX.dead H.1 hn)⟩)

set_option maxRecDepth 100000 in
set_option maxHeartbeats 4000000 in
theorem p5_write_2 (hfl : l.stackTraces = false) (key : Int) (hkey : (-2147483648 ≤ key ∧ key < 2147483648)) (t : Int) (ht : (-2147483648 ≤ t ∧ t < 2147483648)) (b : Int) (hb : (-2147483648 ≤ b ∧ b < 2147483648)) (hp : 0 ≤ key ∧ key < 1000) (hq : 0 ≤ t ∧ t < 4) (hq2 : ¬ (1 ≤ b ∧ b ≤ 100)) : gXt w l yX5_write cX5_write 5 (some .int) [.ref 1, .int (iI key), .int (iI t), .int (iI b)] Y s A B "java/lang/IllegalArgumentException" := by
  refine gXt_start (by decide +kernel) (by simp [Value.category]) (Nat.le_of_ble_eq_true rfl) (fun m Wp h C H F => ?_)
  obtain ⟨h0, hh0⟩ : ∃ h0, h0 = h := ⟨_, rfl⟩
  rw [← hh0] at C
  have F : FrX h0 h := by rw [hh0]; exact F
  show gG w m 5 Wp h 0 0 [some (.ref 1), some (.int (iI key)), some (.int (iI t)), some (.int (iI b)), none] [] 0
  refine g_aload_n C 0 dX5_write_0 rfl rfl ?_
  refine g_iload_n C 1 dX5_write_1 rfl rfl ?_
  refine x_call C H F [_] _ (kX5_104 rfl) (e5_isKey_t key hkey (by omega)) rfl rfl H.2.1.1 (by decide) (by omega) (by omega) (Nat.le_of_ble_eq_true rfl) dX5_write_2 (fun h H F => ?_)
  refine g_if_eq C 16 dX5_write_5 (by decide) (by omega) (fun c5 => ?_) (fun c5 => ?_)
  · omega
  · refine g_aload_n C 0 dX5_write_8 rfl rfl ?_
    refine g_iload_n C 2 dX5_write_9 rfl rfl ?_
    refine x_call C H F [_] _ (kX5_89 rfl) (e5_isTenant_t t ht (by omega)) rfl rfl H.2.1.1 (by decide) (by omega) (by omega) (Nat.le_of_ble_eq_true rfl) dX5_write_10 (fun h H F => ?_)
    refine g_if_ne C 26 dX5_write_13 (by decide) (by omega) (fun c13 => ?_) (fun c13 => ?_)
    · refine g_iload_n C 3 dX5_write_26 rfl rfl ?_
      refine g_iconst C dX5_write_27 ?_
      refine g_icmp_lt C 37 dX5_write_28 (by decide) (by omega) (by omega) (fun c28 => ?_) (fun c28 => ?_)
      · exact g_throw C hfl (t_49_94 rfl) dX5_write_37 dX5_write_40 dX5_write_41 dX5_write_43 dX5_write_46 (by decide) (by omega) (by omega) (Nat.le_of_ble_eq_true rfl) (fun n hn => ⟨rfl, H.dead hn, F.tr (FrX.dead H.1 hn)⟩)
      · refine g_iload_n C 3 dX5_write_31 rfl rfl ?_
        refine g_bipush C dX5_write_32 (by decide) ?_
        refine g_icmp_le C 47 dX5_write_34 (by decide) (by omega) (by omega) (fun c34 => ?_) (fun c34 => ?_)
        · omega
        · exact g_throw C hfl (t_49_94 rfl) dX5_write_37 dX5_write_40 dX5_write_41 dX5_write_43 dX5_write_46 (by decide) (by omega) (by omega) (Nat.le_of_ble_eq_true rfl) (fun n hn => ⟨rfl, H.dead hn, F.tr (FrX.dead H.1 hn)⟩)
    · omega

set_option maxRecDepth 100000 in
set_option maxHeartbeats 4000000 in
theorem p5_write_3 (hfl : l.stackTraces = false) (key : Int) (hkey : (-2147483648 ≤ key ∧ key < 2147483648)) (t : Int) (ht : (-2147483648 ≤ t ∧ t < 2147483648)) (b : Int) (hb : (-2147483648 ≤ b ∧ b < 2147483648)) (ns : Nat) (hn : Y 0 7 = ns) (hns : ns ≤ 16) (j : Nat) (hj : j < ns) (hk0 : 0 ≤ key ∧ key < 1000) (hf : ∀ i, i < ns → 0 ≤ Y 10 (s i) ∧ Y 10 (s i) ≤ 1000) (hle : Y 10 (s j) ≤ key) (hgt : ∀ i, j < i → i < ns → key < Y 10 (s i)) (hq : 0 ≤ t ∧ t < 4) (hq2 : 1 ≤ b ∧ b ≤ 100) (hu : Y 3 (Y 12 (s j)).toNat = 0 ∨ Y 3 (Y 12 (s j)).toNat = 1) (hc : (-2147483648 ≤ Y 0 13 ∧ Y 0 13 < 2147483648)) (r1 : (-2147483648 ≤ (Y 4 (Y 12 (s j)).toNat + (b - Y 8 key.toNat)) ∧ (Y 4 (Y 12 (s j)).toNat + (b - Y 8 key.toNat)) < 2147483648)) (r2 : (-2147483648 ≤ Y 2 (Y 12 (s j)).toNat ∧ Y 2 (Y 12 (s j)).toNat < 2147483648)) (r3 : (-2147483648 ≤ Y 9 key.toNat ∧ Y 9 key.toNat < 2147483648)) (r4 : (-2147483648 ≤ (Y 5 t.toNat - ygiv Y t key.toNat + b) ∧ (Y 5 t.toNat - ygiv Y t key.toNat + b) < 2147483648)) (r5 : (-2147483648 ≤ Y 6 t.toNat ∧ Y 6 t.toNat < 2147483648)) (hp : ¬ ((Y 3 (Y 12 (s j)).toNat = 1 ∧ Y 0 13 < 600) ∧ Y 4 (Y 12 (s j)).toNat + (b - Y 8 key.toNat) ≤ Y 2 (Y 12 (s j)).toNat ∧ Y 5 t.toNat - ygiv Y t key.toNat + b ≤ Y 6 t.toNat)) : gXt w l yX5_write cX5_write 5 (some .int) [.ref 1, .int (iI key), .int (iI t), .int (iI b)] Y s A B "java/lang/IllegalStateException" := by
  refine gXt_start (by decide +kernel) (by simp [Value.category]) (Nat.le_of_ble_eq_true rfl) (fun m Wp h C H F => ?_)
  obtain ⟨h0, hh0⟩ : ∃ h0, h0 = h := ⟨_, rfl⟩
  rw [← hh0] at C
  have F : FrX h0 h := by rw [hh0]; exact F
  have hkx : key = (key.toNat : Int) := by omega
  have hkl : key.toNat < 1000 := by omega
  have hsj : s j < 16 := (H.2.2.1.2.2.2 j (by omega)).1
  have h62 : (Y 12 (s j)).toNat ≤ 6 := x_z6 (i := 2) H hsj (by omega)
  have h63 : (Y 13 (s j)).toNat ≤ 6 := x_z6 (i := 3) H hsj (by omega)
  have htx : t = (t.toNat : Int) := by omega
  have htl : t.toNat < 4 := by omega
  show gG w m 5 Wp h 0 0 [some (.ref 1), some (.int (iI key)), some (.int (iI t)), some (.int (iI b)), none] [] 0
  refine g_aload_n C 0 dX5_write_0 rfl rfl ?_
  refine g_iload_n C 1 dX5_write_1 rfl rfl ?_
  refine x_call C H F [_] _ (kX5_104 rfl) (e5_isKey_t key hkey (by omega)) rfl rfl H.2.1.1 (by decide) (by omega) (by omega) (Nat.le_of_ble_eq_true rfl) dX5_write_2 (fun h H F => ?_)
  refine g_if_eq C 16 dX5_write_5 (by decide) (by omega) (fun c5 => ?_) (fun c5 => ?_)
  · omega
  · refine g_aload_n C 0 dX5_write_8 rfl rfl ?_
    refine g_iload_n C 2 dX5_write_9 rfl rfl ?_
    refine x_call C H F [_] _ (kX5_89 rfl) (e5_isTenant_t t ht (by omega)) rfl rfl H.2.1.1 (by decide) (by omega) (by omega) (Nat.le_of_ble_eq_true rfl) dX5_write_10 (fun h H F => ?_)
    refine g_if_ne C 26 dX5_write_13 (by decide) (by omega) (fun c13 => ?_) (fun c13 => ?_)
    · refine g_iload_n C 3 dX5_write_26 rfl rfl ?_
      refine g_iconst C dX5_write_27 ?_
      refine g_icmp_lt C 37 dX5_write_28 (by decide) (by omega) (by omega) (fun c28 => ?_) (fun c28 => ?_)
      · omega
      · refine g_iload_n C 3 dX5_write_31 rfl rfl ?_
        refine g_bipush C dX5_write_32 (by decide) ?_
        refine g_icmp_le C 47 dX5_write_34 (by decide) (by omega) (by omega) (fun c34 => ?_) (fun c34 => ?_)
        · refine g_aload_n C 0 dX5_write_47 rfl rfl ?_
          refine x_rmain C H 17 (fX5_38 rfl) (by omega) dX5_write_48 ?_
          refine g_aload_n C 0 dX5_write_51 rfl rfl ?_
          refine g_iload_n C 1 dX5_write_52 rfl rfl ?_
          refine x_call C H F [_] _ (kX5_109 rfl) (e5_numberOfShardWith key hkey ns j hn hns hj hf hle hgt) rfl rfl H.2.1.1 (by decide) (by omega) (by omega) (Nat.le_of_ble_eq_true rfl) dX5_write_53 (fun h H F => ?_)
          refine x_shas C H j rfl (by omega) (s j) rfl dX5_write_56 ?_
          refine s_astore (lo' := [_, _, _, _, _]) C dX5_write_57 (by decide) rfl ?_
          refine g_aload_n C 0 dX5_write_59 rfl rfl ?_
          refine g_aload C dX5_write_60 rfl ?_
          refine x_call C H F [_] _ (kX5_113 rfl) (e5_mayChange hsj hu hc) rfl rfl H.2.1.1 (by decide) (by omega) (by omega) (Nat.le_of_ble_eq_true rfl) dX5_write_62 (fun h H F => ?_)
          refine g_if_eq C 97 dX5_write_65 (by decide) (bI_r _) (fun c65 => ?_) (fun c65 => ?_)
          · exact g_throw C hfl (t_59_127 rfl) dX5_write_97 dX5_write_100 dX5_write_101 dX5_write_103 dX5_write_106 (by decide) (by omega) (by omega) (Nat.le_of_ble_eq_true rfl) (fun n hn => ⟨rfl, H.dead hn, F.tr (FrX.dead H.1 hn)⟩)
          · refine g_aload C dX5_write_68 rfl ?_
            refine x_ghome C H hsj (by omega) (fX5_117 rfl) rfl ((Y 12 (s j)).toNat) rfl dX5_write_70 ?_
            refine g_iload_n C 3 dX5_write_73 rfl rfl ?_
            refine g_aload_n C 0 dX5_write_74 rfl rfl ?_
            refine x_rmain C H 3 (fX5_18 rfl) (by omega) dX5_write_75 ?_
            refine g_iload_n C 1 dX5_write_78 rfl rfl ?_
            refine x_byt C H key.toNat hkx hkl (Y 8 key.toNat) rfl dX5_write_79 ?_
            refine g_isub C dX5_write_80 ?_
            refine x_call C H F [_] _ (kX5_120 rfl) (e2_hasRoomFor h62 (b - Y 8 key.toNat) r1 r2) rfl rfl (H.2.1.2.1 _ h62) (by decide) (by omega) (by omega) (Nat.le_of_ble_eq_true rfl) dX5_write_81 (fun h H F => ?_)
            refine g_if_eq C 97 dX5_write_84 (by decide) (bI_r _) (fun c84 => ?_) (fun c84 => ?_)
            · exact g_throw C hfl (t_59_127 rfl) dX5_write_97 dX5_write_100 dX5_write_101 dX5_write_103 dX5_write_106 (by decide) (by omega) (by omega) (Nat.le_of_ble_eq_true rfl) (fun n hn => ⟨rfl, H.dead hn, F.tr (FrX.dead H.1 hn)⟩)
            · refine g_aload_n C 0 dX5_write_87 rfl rfl ?_
              refine g_iload_n C 2 dX5_write_88 rfl rfl ?_
              refine g_iload_n C 1 dX5_write_89 rfl rfl ?_
              refine g_iload_n C 3 dX5_write_90 rfl rfl ?_
              refine x_call C H F [_, _, _] _ (kX5_123 rfl) (e5_hasQuotaFor t (by omega) key key.toNat hkx hkl b r3 r4 r5) rfl rfl H.2.1.1 (by decide) (by omega) (by omega) (Nat.le_of_ble_eq_true rfl) dX5_write_91 (fun h H F => ?_)
              refine g_if_ne C 107 dX5_write_94 (by decide) (bI_r _) (fun c94 => ?_) (fun c94 => ?_)
              · exact absurd ⟨Classical.byContradiction fun z => c65 (bI_f z), Classical.byContradiction fun z => c84 (bI_f z), Classical.byContradiction fun z => c94 (bI_f z)⟩ hp
              · exact g_throw C hfl (t_59_127 rfl) dX5_write_97 dX5_write_100 dX5_write_101 dX5_write_103 dX5_write_106 (by decide) (by omega) (by omega) (Nat.le_of_ble_eq_true rfl) (fun n hn => ⟨rfl, H.dead hn, F.tr (FrX.dead H.1 hn)⟩)
        · omega
    · omega

set_option maxRecDepth 100000 in
set_option maxHeartbeats 4000000 in
theorem p5_write_4 (key : Int) (hkey : (-2147483648 ≤ key ∧ key < 2147483648)) (t : Int) (ht : (-2147483648 ≤ t ∧ t < 2147483648)) (b : Int) (hb : (-2147483648 ≤ b ∧ b < 2147483648)) (ns : Nat) (hn : Y 0 7 = ns) (hns : ns ≤ 16) (j : Nat) (hj : j < ns) (hk0 : 0 ≤ key ∧ key < 1000) (hf : ∀ i, i < ns → 0 ≤ Y 10 (s i) ∧ Y 10 (s i) ≤ 1000) (hle : Y 10 (s j) ≤ key) (hgt : ∀ i, j < i → i < ns → key < Y 10 (s i)) (hq : 0 ≤ t ∧ t < 4) (hq2 : 1 ≤ b ∧ b ≤ 100) (hu : Y 3 (Y 12 (s j)).toNat = 0 ∨ Y 3 (Y 12 (s j)).toNat = 1) (hc : (-2147483648 ≤ Y 0 13 ∧ Y 0 13 < 2147483648)) (r1 : (-2147483648 ≤ (Y 4 (Y 12 (s j)).toNat + (b - Y 8 key.toNat)) ∧ (Y 4 (Y 12 (s j)).toNat + (b - Y 8 key.toNat)) < 2147483648)) (r2 : (-2147483648 ≤ Y 2 (Y 12 (s j)).toNat ∧ Y 2 (Y 12 (s j)).toNat < 2147483648)) (r3 : (-2147483648 ≤ Y 9 key.toNat ∧ Y 9 key.toNat < 2147483648)) (r4 : (-2147483648 ≤ (Y 5 t.toNat - ygiv Y t key.toNat + b) ∧ (Y 5 t.toNat - ygiv Y t key.toNat + b) < 2147483648)) (r5 : (-2147483648 ≤ Y 6 t.toNat ∧ Y 6 t.toNat < 2147483648)) (h9 : -1 ≤ Y 9 key.toNat ∧ Y 9 key.toNat ≤ 3) (hN : gNu Y) (h14 : (-2147483648 ≤ Y 14 (s j) ∧ Y 14 (s j) < 2147483648)) (rg1 : (-2147483648 ≤ (ychg Y (s j) key.toNat (t) b 4 (ychg Y (s j) key.toNat (t) b 13 (s j)).toNat + (b - Y 8 key.toNat)) ∧ (ychg Y (s j) key.toNat (t) b 4 (ychg Y (s j) key.toNat (t) b 13 (s j)).toNat + (b - Y 8 key.toNat)) < 2147483648)) (rg2 : (-2147483648 ≤ ychg Y (s j) key.toNat (t) b 2 (ychg Y (s j) key.toNat (t) b 13 (s j)).toNat ∧ ychg Y (s j) key.toNat (t) b 2 (ychg Y (s j) key.toNat (t) b 13 (s j)).toNat < 2147483648)) (hp1 : Y 3 (Y 12 (s j)).toNat = 1 ∧ Y 0 13 < 600) (hp2 : Y 4 (Y 12 (s j)).toNat + (b - Y 8 key.toNat) ≤ Y 2 (Y 12 (s j)).toNat) (hp3 : Y 5 t.toNat - ygiv Y t key.toNat + b ≤ Y 6 t.toNat) : gXs w l yX5_write cX5_write 5 (some .int) 1 6 [.ref 1, .int (iI key), .int (iI t), .int (iI b)] Y s A B (some (.int (iI (ychc (ychg Y (s j) key.toNat t b) (s j) key (b - Y 8 key.toNat) 5 t.toNat)))) (ychc (ychg Y (s j) key.toNat t b) (s j) key (b - Y 8 key.toNat)) s ((Y 0 8, Y 9 key.toNat, Y 8 key.toNat, t, b) :: A) B := by
  refine gXs_start (by decide +kernel) (by simp [Value.category]) (Nat.le_of_ble_eq_true rfl) (fun m Wp h C H F => ?_)
  obtain ⟨h0, hh0⟩ : ∃ h0, h0 = h := ⟨_, rfl⟩
  rw [← hh0] at C
  have F : FrX h0 h := by rw [hh0]; exact F
  have hkx : key = (key.toNat : Int) := by omega
  have hkl : key.toNat < 1000 := by omega
  have hsj : s j < 16 := (H.2.2.1.2.2.2 j (by omega)).1
  have h62 : (Y 12 (s j)).toNat ≤ 6 := x_z6 (i := 2) H hsj (by omega)
  have h63 : (Y 13 (s j)).toNat ≤ 6 := x_z6 (i := 3) H hsj (by omega)
  have htx : t = (t.toNat : Int) := by omega
  have htl : t.toNat < 4 := by omega
  have hmb : bI (Y 3 (Y 12 (s j)).toNat = 1 ∧ Y 0 13 < 600) = 1 := bI_t hp1
  have hmb2 : bI (Y 4 (Y 12 (s j)).toNat + (b - Y 8 key.toNat) ≤ Y 2 (Y 12 (s j)).toNat) = 1 := bI_t hp2
  have hmb3 : bI (Y 5 t.toNat - ygiv Y t key.toNat + b ≤ Y 6 t.toNat) = 1 := bI_t hp3
  show gG w m 5 Wp h 0 0 [some (.ref 1), some (.int (iI key)), some (.int (iI t)), some (.int (iI b)), none] [] 0
  refine g_aload_n C 0 dX5_write_0 rfl rfl ?_
  refine g_iload_n C 1 dX5_write_1 rfl rfl ?_
  refine x_call C H F [_] _ (kX5_104 rfl) (e5_isKey_t key hkey (by omega)) rfl rfl H.2.1.1 (by decide) (by omega) (by omega) (Nat.le_of_ble_eq_true rfl) dX5_write_2 (fun h H F => ?_)
  refine g_if_eq C 16 dX5_write_5 (by decide) (by omega) (fun c5 => ?_) (fun c5 => ?_)
  · omega
  · refine g_aload_n C 0 dX5_write_8 rfl rfl ?_
    refine g_iload_n C 2 dX5_write_9 rfl rfl ?_
    refine x_call C H F [_] _ (kX5_89 rfl) (e5_isTenant_t t ht (by omega)) rfl rfl H.2.1.1 (by decide) (by omega) (by omega) (Nat.le_of_ble_eq_true rfl) dX5_write_10 (fun h H F => ?_)
    refine g_if_ne C 26 dX5_write_13 (by decide) (by omega) (fun c13 => ?_) (fun c13 => ?_)
    · refine g_iload_n C 3 dX5_write_26 rfl rfl ?_
      refine g_iconst C dX5_write_27 ?_
      refine g_icmp_lt C 37 dX5_write_28 (by decide) (by omega) (by omega) (fun c28 => ?_) (fun c28 => ?_)
      · omega
      · refine g_iload_n C 3 dX5_write_31 rfl rfl ?_
        refine g_bipush C dX5_write_32 (by decide) ?_
        refine g_icmp_le C 47 dX5_write_34 (by decide) (by omega) (by omega) (fun c34 => ?_) (fun c34 => ?_)
        · refine g_aload_n C 0 dX5_write_47 rfl rfl ?_
          refine x_rmain C H 17 (fX5_38 rfl) (by omega) dX5_write_48 ?_
          refine g_aload_n C 0 dX5_write_51 rfl rfl ?_
          refine g_iload_n C 1 dX5_write_52 rfl rfl ?_
          refine x_call C H F [_] _ (kX5_109 rfl) (e5_numberOfShardWith key hkey ns j hn hns hj hf hle hgt) rfl rfl H.2.1.1 (by decide) (by omega) (by omega) (Nat.le_of_ble_eq_true rfl) dX5_write_53 (fun h H F => ?_)
          refine x_shas C H j rfl (by omega) (s j) rfl dX5_write_56 ?_
          refine s_astore (lo' := [_, _, _, _, _]) C dX5_write_57 (by decide) rfl ?_
          refine g_aload_n C 0 dX5_write_59 rfl rfl ?_
          refine g_aload C dX5_write_60 rfl ?_
          refine x_call C H F [_] _ (kX5_113 rfl) (e5_mayChange hsj hu hc) rfl rfl H.2.1.1 (by decide) (by omega) (by omega) (Nat.le_of_ble_eq_true rfl) dX5_write_62 (fun h H F => ?_)
          refine g_if_eq C 97 dX5_write_65 (by decide) (bI_r _) (fun c65 => ?_) (fun c65 => ?_)
          · omega
          · refine g_aload C dX5_write_68 rfl ?_
            refine x_ghome C H hsj (by omega) (fX5_117 rfl) rfl ((Y 12 (s j)).toNat) rfl dX5_write_70 ?_
            refine g_iload_n C 3 dX5_write_73 rfl rfl ?_
            refine g_aload_n C 0 dX5_write_74 rfl rfl ?_
            refine x_rmain C H 3 (fX5_18 rfl) (by omega) dX5_write_75 ?_
            refine g_iload_n C 1 dX5_write_78 rfl rfl ?_
            refine x_byt C H key.toNat hkx hkl (Y 8 key.toNat) rfl dX5_write_79 ?_
            refine g_isub C dX5_write_80 ?_
            refine x_call C H F [_] _ (kX5_120 rfl) (e2_hasRoomFor h62 (b - Y 8 key.toNat) r1 r2) rfl rfl (H.2.1.2.1 _ h62) (by decide) (by omega) (by omega) (Nat.le_of_ble_eq_true rfl) dX5_write_81 (fun h H F => ?_)
            refine g_if_eq C 97 dX5_write_84 (by decide) (bI_r _) (fun c84 => ?_) (fun c84 => ?_)
            · omega
            · refine g_aload_n C 0 dX5_write_87 rfl rfl ?_
              refine g_iload_n C 2 dX5_write_88 rfl rfl ?_
              refine g_iload_n C 1 dX5_write_89 rfl rfl ?_
              refine g_iload_n C 3 dX5_write_90 rfl rfl ?_
              refine x_call C H F [_, _, _] _ (kX5_123 rfl) (e5_hasQuotaFor t (by omega) key key.toNat hkx hkl b r3 r4 r5) rfl rfl H.2.1.1 (by decide) (by omega) (by omega) (Nat.le_of_ble_eq_true rfl) dX5_write_91 (fun h H F => ?_)
              refine g_if_ne C 107 dX5_write_94 (by decide) (bI_r _) (fun c94 => ?_) (fun c94 => ?_)
              · refine g_aload_n C 0 dX5_write_107 rfl rfl ?_
                refine g_aload C dX5_write_108 rfl ?_
                refine g_iload_n C 1 dX5_write_110 rfl rfl ?_
                refine g_iload_n C 2 dX5_write_111 rfl rfl ?_
                refine g_iload_n C 3 dX5_write_112 rfl rfl ?_
                refine x_call C H F [_, _, _, _] _ (kX5_129 rfl) (e5_change hsj hN key key.toNat hkx hkl t b (by omega) h9 h62 h63 h14 rg1 rg2) rfl rfl H.2.1.1 (by decide) (by omega) (by omega) (Nat.le_of_ble_eq_true rfl) dX5_write_113 (fun h H F => ?_)
                refine g_aload_n C 0 dX5_write_116 rfl rfl ?_
                refine x_rmain C H 5 (fX5_27 rfl) (by omega) dX5_write_117 ?_
                refine g_iload_n C 2 dX5_write_120 rfl rfl ?_
                refine x_tens C H t.toNat htx htl dX5_write_121 ?_
                refine x_gten C H htl (by omega) (fX5_133 rfl) (ychc (ychg Y (s j) key.toNat t b) (s j) key (b - Y 8 key.toNat) 5 t.toNat) rfl dX5_write_122 ?_
                exact g_iret C dX5_write_125 (by omega) (by omega) ⟨rfl, H, F⟩
              · omega
        · omega
    · omega

end XG
