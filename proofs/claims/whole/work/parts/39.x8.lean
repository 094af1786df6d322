/-! THE CLASS: what is asked (rows laid by wip/whole/gen/x8.py) -/
section XI
variable {w : gW} {l : Launch} {Y : gS} {s : Nat → Nat} {A : List gCE} {B : List gOE}

set_option maxRecDepth 100000 in
set_option maxHeartbeats 4000000 in
theorem p5_shard_1 (hfl : l.stackTraces = false) (x : Int) (hx : (-2147483648 ≤ x ∧ x < 2147483648)) (a : Int) (ha : (-2147483648 ≤ a ∧ a < 2147483648)) (ns : Nat) (hn : Y 0 7 = ns) (hns : ns ≤ 16) (hp : ¬ (0 ≤ x ∧ x < ns)) : gXt w l yX5_shard cX5_shard 4 (some .int) [.ref 1, .int (iI x), .int (iI a)] Y s A B "java/lang/IndexOutOfBoundsException" := by
  refine gXt_start (by decide +kernel) (by simp [Value.category]) (Nat.le_of_ble_eq_true rfl) (fun m Wp h C H F => ?_)
  obtain ⟨h0, hh0⟩ : ∃ h0, h0 = h := ⟨_, rfl⟩
  rw [← hh0] at C
  have F : FrX h0 h := by rw [hh0]; exact F
  show gG w m 4 Wp h 0 0 [some (.ref 1), some (.int (iI x)), some (.int (iI a)), none] [] 0
  refine g_aload_n C 0 dX5_shard_0 rfl rfl ?_
  refine g_iload_n C 1 dX5_shard_1 rfl rfl ?_
  refine x_call C H F [_] _ (kX5_160 rfl) (e5_isShard_f x hx (by omega) (by omega)) rfl rfl H.2.1.1 (by decide) (by omega) (by omega) (Nat.le_of_ble_eq_true rfl) dX5_shard_2 (fun h H F => ?_)
  refine g_if_ne C 18 dX5_shard_5 (by decide) (by omega) (fun c5 => ?_) (fun c5 => ?_)
  · omega
  · exact g_throw C hfl (t_81_163 rfl) dX5_shard_8 dX5_shard_11 dX5_shard_12 dX5_shard_14 dX5_shard_17 (by decide) (by omega) (by omega) (Nat.le_of_ble_eq_true rfl) (fun n hn => ⟨rfl, H.dead hn, F.tr (FrX.dead H.1 hn)⟩)

set_option maxRecDepth 100000 in
set_option maxHeartbeats 4000000 in
theorem p5_shard_2 (hfl : l.stackTraces = false) (ns : Nat) (hn : Y 0 7 = ns) (hns : ns ≤ 16) (j : Nat) (hj : j < ns) (a : Int) (ha : (-2147483648 ≤ a ∧ a < 2147483648)) (hp : ¬ (0 ≤ a ∧ a ≤ 6)) : gXt w l yX5_shard cX5_shard 4 (some .int) [.ref 1, .int (iI (j : Int)), .int (iI a)] Y s A B "java/lang/IllegalArgumentException" := by
  refine gXt_start (by decide +kernel) (by simp [Value.category]) (Nat.le_of_ble_eq_true rfl) (fun m Wp h C H F => ?_)
  obtain ⟨h0, hh0⟩ : ∃ h0, h0 = h := ⟨_, rfl⟩
  rw [← hh0] at C
  have F : FrX h0 h := by rw [hh0]; exact F
  have hx : -2147483648 ≤ (j : Int) ∧ (j : Int) < 2147483648 := by omega
  have hq1 : s j < 16 := (H.2.2.1.2.2.2 j (by omega)).1
  have h61 : (Y 12 (s j)).toNat ≤ 6 := x_z6 (i := 2) H hq1 (by omega)
  have h62 : (Y 13 (s j)).toNat ≤ 6 := x_z6 (i := 3) H hq1 (by omega)
  have ha2 : -2147483648 ≤ a ∧ a < 2147483648 := ha
  show gG w m 4 Wp h 0 0 [some (.ref 1), some (.int (iI (j : Int))), some (.int (iI a)), none] [] 0
  refine g_aload_n C 0 dX5_shard_0 rfl rfl ?_
  refine g_iload_n C 1 dX5_shard_1 rfl rfl ?_
  refine x_call C H F [_] _ (kX5_160 rfl) (e5_isShard_t ((j : Int)) hx (by omega) (by omega)) rfl rfl H.2.1.1 (by decide) (by omega) (by omega) (Nat.le_of_ble_eq_true rfl) dX5_shard_2 (fun h H F => ?_)
  refine g_if_ne C 18 dX5_shard_5 (by decide) (by omega) (fun c5 => ?_) (fun c5 => ?_)
  · refine g_aload_n C 0 dX5_shard_18 rfl rfl ?_
    refine x_rmain C H 17 (fX5_38 rfl) (by omega) dX5_shard_19 ?_
    refine g_iload_n C 1 dX5_shard_22 rfl rfl ?_
    refine x_shas C H j rfl (by omega) (s j) rfl dX5_shard_23 ?_
    refine s_astore_n (lo' := [_, _, _, _]) C 3 dX5_shard_24 rfl (by decide) rfl ?_
    refine g_iload_n C 2 dX5_shard_25 rfl rfl ?_
    refine g_tableOut C 109 dX5_shard_26 (by omega) (by omega) (by decide) ?_
    exact g_throw C hfl (t_49_204 rfl) dX5_shard_109 dX5_shard_112 dX5_shard_113 dX5_shard_115 dX5_shard_118 (by decide) (by omega) (by omega) (Nat.le_of_ble_eq_true rfl) (fun n hn => ⟨rfl, H.dead hn, F.tr (FrX.dead H.1 hn)⟩)
  · omega

set_option maxRecDepth 100000 in
set_option maxHeartbeats 4000000 in
theorem p5_shard_3_0 (ns : Nat) (hn : Y 0 7 = ns) (hns : ns ≤ 16) (j : Nat) (hj : j < ns) : gXs w l yX5_shard cX5_shard 4 (some .int) 0 0 [.ref 1, .int (iI (j : Int)), .int (iI 0)] Y s A B (some (.int (iI (Y 10 (s j))))) (Y) s A B := by
  refine gXs_start (by decide +kernel) (by simp [Value.category]) (Nat.le_of_ble_eq_true rfl) (fun m Wp h C H F => ?_)
  obtain ⟨h0, hh0⟩ : ∃ h0, h0 = h := ⟨_, rfl⟩
  rw [← hh0] at C
  have F : FrX h0 h := by rw [hh0]; exact F
  have hx : -2147483648 ≤ (j : Int) ∧ (j : Int) < 2147483648 := by omega
  have hq1 : s j < 16 := (H.2.2.1.2.2.2 j (by omega)).1
  have h61 : (Y 12 (s j)).toNat ≤ 6 := x_z6 (i := 2) H hq1 (by omega)
  have h62 : (Y 13 (s j)).toNat ≤ 6 := x_z6 (i := 3) H hq1 (by omega)
  show gG w m 4 Wp h 0 0 [some (.ref 1), some (.int (iI (j : Int))), some (.int (iI 0)), none] [] 0
  refine g_aload_n C 0 dX5_shard_0 rfl rfl ?_
  refine g_iload_n C 1 dX5_shard_1 rfl rfl ?_
  refine x_call C H F [_] _ (kX5_160 rfl) (e5_isShard_t ((j : Int)) hx (by omega) (by omega)) rfl rfl H.2.1.1 (by decide) (by omega) (by omega) (Nat.le_of_ble_eq_true rfl) dX5_shard_2 (fun h H F => ?_)
  refine g_if_ne C 18 dX5_shard_5 (by decide) (by omega) (fun c5 => ?_) (fun c5 => ?_)
  · refine g_aload_n C 0 dX5_shard_18 rfl rfl ?_
    refine x_rmain C H 17 (fX5_38 rfl) (by omega) dX5_shard_19 ?_
    refine g_iload_n C 1 dX5_shard_22 rfl rfl ?_
    refine x_shas C H j rfl (by omega) (s j) rfl dX5_shard_23 ?_
    refine s_astore_n (lo' := [_, _, _, _]) C 3 dX5_shard_24 rfl (by decide) rfl ?_
    refine g_iload_n C 2 dX5_shard_25 rfl rfl ?_
    refine g_tableIn C 68 dX5_shard_26 (by omega) (by omega) (by omega) rfl (by decide) ?_
    refine g_aload_n C 3 dX5_shard_68 rfl rfl ?_
    refine x_gsha C H hq1 (by omega) (fX5_147 rfl) rfl (Y 10 ((s j))) rfl dX5_shard_69 ?_
    exact g_iret C dX5_shard_72 (by omega) (by omega) ⟨rfl, H, F⟩
  · omega

set_option maxRecDepth 100000 in
set_option maxHeartbeats 4000000 in
theorem p5_shard_3_1 (ns : Nat) (hn : Y 0 7 = ns) (hns : ns ≤ 16) (j : Nat) (hj : j < ns) : gXs w l yX5_shard cX5_shard 4 (some .int) 0 0 [.ref 1, .int (iI (j : Int)), .int (iI 1)] Y s A B (some (.int (iI (Y 11 (s j))))) (Y) s A B := by
  refine gXs_start (by decide +kernel) (by simp [Value.category]) (Nat.le_of_ble_eq_true rfl) (fun m Wp h C H F => ?_)
  obtain ⟨h0, hh0⟩ : ∃ h0, h0 = h := ⟨_, rfl⟩
  rw [← hh0] at C
  have F : FrX h0 h := by rw [hh0]; exact F
  have hx : -2147483648 ≤ (j : Int) ∧ (j : Int) < 2147483648 := by omega
  have hq1 : s j < 16 := (H.2.2.1.2.2.2 j (by omega)).1
  have h61 : (Y 12 (s j)).toNat ≤ 6 := x_z6 (i := 2) H hq1 (by omega)
  have h62 : (Y 13 (s j)).toNat ≤ 6 := x_z6 (i := 3) H hq1 (by omega)
  show gG w m 4 Wp h 0 0 [some (.ref 1), some (.int (iI (j : Int))), some (.int (iI 1)), none] [] 0
  refine g_aload_n C 0 dX5_shard_0 rfl rfl ?_
  refine g_iload_n C 1 dX5_shard_1 rfl rfl ?_
  refine x_call C H F [_] _ (kX5_160 rfl) (e5_isShard_t ((j : Int)) hx (by omega) (by omega)) rfl rfl H.2.1.1 (by decide) (by omega) (by omega) (Nat.le_of_ble_eq_true rfl) dX5_shard_2 (fun h H F => ?_)
  refine g_if_ne C 18 dX5_shard_5 (by decide) (by omega) (fun c5 => ?_) (fun c5 => ?_)
  · refine g_aload_n C 0 dX5_shard_18 rfl rfl ?_
    refine x_rmain C H 17 (fX5_38 rfl) (by omega) dX5_shard_19 ?_
    refine g_iload_n C 1 dX5_shard_22 rfl rfl ?_
    refine x_shas C H j rfl (by omega) (s j) rfl dX5_shard_23 ?_
    refine s_astore_n (lo' := [_, _, _, _]) C 3 dX5_shard_24 rfl (by decide) rfl ?_
    refine g_iload_n C 2 dX5_shard_25 rfl rfl ?_
    refine g_tableIn C 73 dX5_shard_26 (by omega) (by omega) (by omega) rfl (by decide) ?_
    refine g_aload_n C 3 dX5_shard_73 rfl rfl ?_
    refine x_gsha C H hq1 (by omega) (fX5_171 rfl) rfl (Y 11 ((s j))) rfl dX5_shard_74 ?_
    exact g_iret C dX5_shard_77 (by omega) (by omega) ⟨rfl, H, F⟩
  · omega

set_option maxRecDepth 100000 in
set_option maxHeartbeats 4000000 in
theorem p5_shard_3_2 (ns : Nat) (hn : Y 0 7 = ns) (hns : ns ≤ 16) (j : Nat) (hj : j < ns) : gXs w l yX5_shard cX5_shard 4 (some .int) 0 0 [.ref 1, .int (iI (j : Int)), .int (iI 2)] Y s A B (some (.int (iI (Y 1 (Y 12 (s j)).toNat)))) (Y) s A B := by
  refine gXs_start (by decide +kernel) (by simp [Value.category]) (Nat.le_of_ble_eq_true rfl) (fun m Wp h C H F => ?_)
  obtain ⟨h0, hh0⟩ : ∃ h0, h0 = h := ⟨_, rfl⟩
  rw [← hh0] at C
  have F : FrX h0 h := by rw [hh0]; exact F
  have hx : -2147483648 ≤ (j : Int) ∧ (j : Int) < 2147483648 := by omega
  have hq1 : s j < 16 := (H.2.2.1.2.2.2 j (by omega)).1
  have h61 : (Y 12 (s j)).toNat ≤ 6 := x_z6 (i := 2) H hq1 (by omega)
  have h62 : (Y 13 (s j)).toNat ≤ 6 := x_z6 (i := 3) H hq1 (by omega)
  show gG w m 4 Wp h 0 0 [some (.ref 1), some (.int (iI (j : Int))), some (.int (iI 2)), none] [] 0
  refine g_aload_n C 0 dX5_shard_0 rfl rfl ?_
  refine g_iload_n C 1 dX5_shard_1 rfl rfl ?_
  refine x_call C H F [_] _ (kX5_160 rfl) (e5_isShard_t ((j : Int)) hx (by omega) (by omega)) rfl rfl H.2.1.1 (by decide) (by omega) (by omega) (Nat.le_of_ble_eq_true rfl) dX5_shard_2 (fun h H F => ?_)
  refine g_if_ne C 18 dX5_shard_5 (by decide) (by omega) (fun c5 => ?_) (fun c5 => ?_)
  · refine g_aload_n C 0 dX5_shard_18 rfl rfl ?_
    refine x_rmain C H 17 (fX5_38 rfl) (by omega) dX5_shard_19 ?_
    refine g_iload_n C 1 dX5_shard_22 rfl rfl ?_
    refine x_shas C H j rfl (by omega) (s j) rfl dX5_shard_23 ?_
    refine s_astore_n (lo' := [_, _, _, _]) C 3 dX5_shard_24 rfl (by decide) rfl ?_
    refine g_iload_n C 2 dX5_shard_25 rfl rfl ?_
    refine g_tableIn C 78 dX5_shard_26 (by omega) (by omega) (by omega) rfl (by decide) ?_
    refine g_aload_n C 3 dX5_shard_78 rfl rfl ?_
    refine x_ghome C H hq1 (by omega) (fX5_117 rfl) rfl ((Y 12 (s j)).toNat) rfl dX5_shard_79 ?_
    refine x_gmac C H h61 (by omega) (fX5_71 rfl) (Y 1 (Y 12 (s j)).toNat) rfl dX5_shard_82 ?_
    exact g_iret C dX5_shard_85 (by omega) (by omega) ⟨rfl, H, F⟩
  · omega

set_option maxRecDepth 100000 in
set_option maxHeartbeats 4000000 in
theorem p5_shard_3_3 (ns : Nat) (hn : Y 0 7 = ns) (hns : ns ≤ 16) (j : Nat) (hj : j < ns) : gXs w l yX5_shard cX5_shard 4 (some .int) 0 0 [.ref 1, .int (iI (j : Int)), .int (iI 3)] Y s A B (some (.int (iI (Y 1 (Y 13 (s j)).toNat)))) (Y) s A B := by
  refine gXs_start (by decide +kernel) (by simp [Value.category]) (Nat.le_of_ble_eq_true rfl) (fun m Wp h C H F => ?_)
  obtain ⟨h0, hh0⟩ : ∃ h0, h0 = h := ⟨_, rfl⟩
  rw [← hh0] at C
  have F : FrX h0 h := by rw [hh0]; exact F
  have hx : -2147483648 ≤ (j : Int) ∧ (j : Int) < 2147483648 := by omega
  have hq1 : s j < 16 := (H.2.2.1.2.2.2 j (by omega)).1
  have h61 : (Y 12 (s j)).toNat ≤ 6 := x_z6 (i := 2) H hq1 (by omega)
  have h62 : (Y 13 (s j)).toNat ≤ 6 := x_z6 (i := 3) H hq1 (by omega)
  show gG w m 4 Wp h 0 0 [some (.ref 1), some (.int (iI (j : Int))), some (.int (iI 3)), none] [] 0
  refine g_aload_n C 0 dX5_shard_0 rfl rfl ?_
  refine g_iload_n C 1 dX5_shard_1 rfl rfl ?_
  refine x_call C H F [_] _ (kX5_160 rfl) (e5_isShard_t ((j : Int)) hx (by omega) (by omega)) rfl rfl H.2.1.1 (by decide) (by omega) (by omega) (Nat.le_of_ble_eq_true rfl) dX5_shard_2 (fun h H F => ?_)
  refine g_if_ne C 18 dX5_shard_5 (by decide) (by omega) (fun c5 => ?_) (fun c5 => ?_)
  · refine g_aload_n C 0 dX5_shard_18 rfl rfl ?_
    refine x_rmain C H 17 (fX5_38 rfl) (by omega) dX5_shard_19 ?_
    refine g_iload_n C 1 dX5_shard_22 rfl rfl ?_
    refine x_shas C H j rfl (by omega) (s j) rfl dX5_shard_23 ?_
    refine s_astore_n (lo' := [_, _, _, _]) C 3 dX5_shard_24 rfl (by decide) rfl ?_
    refine g_iload_n C 2 dX5_shard_25 rfl rfl ?_
    refine g_tableIn C 86 dX5_shard_26 (by omega) (by omega) (by omega) rfl (by decide) ?_
    refine g_aload_n C 3 dX5_shard_86 rfl rfl ?_
    refine x_ghome C H hq1 (by omega) (fX5_201 rfl) rfl ((Y 13 (s j)).toNat) rfl dX5_shard_87 ?_
    refine x_gmac C H h62 (by omega) (fX5_71 rfl) (Y 1 (Y 13 (s j)).toNat) rfl dX5_shard_90 ?_
    exact g_iret C dX5_shard_93 (by omega) (by omega) ⟨rfl, H, F⟩
  · omega

set_option maxRecDepth 100000 in
set_option maxHeartbeats 4000000 in
theorem p5_shard_3_4 (ns : Nat) (hn : Y 0 7 = ns) (hns : ns ≤ 16) (j : Nat) (hj : j < ns) : gXs w l yX5_shard cX5_shard 4 (some .int) 0 0 [.ref 1, .int (iI (j : Int)), .int (iI 4)] Y s A B (some (.int (iI (Y 17 (s j))))) (Y) s A B := by
  refine gXs_start (by decide +kernel) (by simp [Value.category]) (Nat.le_of_ble_eq_true rfl) (fun m Wp h C H F => ?_)
  obtain ⟨h0, hh0⟩ : ∃ h0, h0 = h := ⟨_, rfl⟩
  rw [← hh0] at C
  have F : FrX h0 h := by rw [hh0]; exact F
  have hx : -2147483648 ≤ (j : Int) ∧ (j : Int) < 2147483648 := by omega
  have hq1 : s j < 16 := (H.2.2.1.2.2.2 j (by omega)).1
  have h61 : (Y 12 (s j)).toNat ≤ 6 := x_z6 (i := 2) H hq1 (by omega)
  have h62 : (Y 13 (s j)).toNat ≤ 6 := x_z6 (i := 3) H hq1 (by omega)
  show gG w m 4 Wp h 0 0 [some (.ref 1), some (.int (iI (j : Int))), some (.int (iI 4)), none] [] 0
  refine g_aload_n C 0 dX5_shard_0 rfl rfl ?_
  refine g_iload_n C 1 dX5_shard_1 rfl rfl ?_
  refine x_call C H F [_] _ (kX5_160 rfl) (e5_isShard_t ((j : Int)) hx (by omega) (by omega)) rfl rfl H.2.1.1 (by decide) (by omega) (by omega) (Nat.le_of_ble_eq_true rfl) dX5_shard_2 (fun h H F => ?_)
  refine g_if_ne C 18 dX5_shard_5 (by decide) (by omega) (fun c5 => ?_) (fun c5 => ?_)
  · refine g_aload_n C 0 dX5_shard_18 rfl rfl ?_
    refine x_rmain C H 17 (fX5_38 rfl) (by omega) dX5_shard_19 ?_
    refine g_iload_n C 1 dX5_shard_22 rfl rfl ?_
    refine x_shas C H j rfl (by omega) (s j) rfl dX5_shard_23 ?_
    refine s_astore_n (lo' := [_, _, _, _]) C 3 dX5_shard_24 rfl (by decide) rfl ?_
    refine g_iload_n C 2 dX5_shard_25 rfl rfl ?_
    refine g_tableIn C 94 dX5_shard_26 (by omega) (by omega) (by omega) rfl (by decide) ?_
    refine g_aload_n C 3 dX5_shard_94 rfl rfl ?_
    refine x_gsha C H hq1 (by omega) (fX5_174 rfl) rfl (Y 17 ((s j))) rfl dX5_shard_95 ?_
    exact g_iret C dX5_shard_98 (by omega) (by omega) ⟨rfl, H, F⟩
  · omega

set_option maxRecDepth 100000 in
set_option maxHeartbeats 4000000 in
theorem p5_shard_3_5 (ns : Nat) (hn : Y 0 7 = ns) (hns : ns ≤ 16) (j : Nat) (hj : j < ns) : gXs w l yX5_shard cX5_shard 4 (some .int) 0 0 [.ref 1, .int (iI (j : Int)), .int (iI 5)] Y s A B (some (.int (iI (Y 16 (s j))))) (Y) s A B := by
  refine gXs_start (by decide +kernel) (by simp [Value.category]) (Nat.le_of_ble_eq_true rfl) (fun m Wp h C H F => ?_)
  obtain ⟨h0, hh0⟩ : ∃ h0, h0 = h := ⟨_, rfl⟩
  rw [← hh0] at C
  have F : FrX h0 h := by rw [hh0]; exact F
  have hx : -2147483648 ≤ (j : Int) ∧ (j : Int) < 2147483648 := by omega
  have hq1 : s j < 16 := (H.2.2.1.2.2.2 j (by omega)).1
  have h61 : (Y 12 (s j)).toNat ≤ 6 := x_z6 (i := 2) H hq1 (by omega)
  have h62 : (Y 13 (s j)).toNat ≤ 6 := x_z6 (i := 3) H hq1 (by omega)
  show gG w m 4 Wp h 0 0 [some (.ref 1), some (.int (iI (j : Int))), some (.int (iI 5)), none] [] 0
  refine g_aload_n C 0 dX5_shard_0 rfl rfl ?_
  refine g_iload_n C 1 dX5_shard_1 rfl rfl ?_
  refine x_call C H F [_] _ (kX5_160 rfl) (e5_isShard_t ((j : Int)) hx (by omega) (by omega)) rfl rfl H.2.1.1 (by decide) (by omega) (by omega) (Nat.le_of_ble_eq_true rfl) dX5_shard_2 (fun h H F => ?_)
  refine g_if_ne C 18 dX5_shard_5 (by decide) (by omega) (fun c5 => ?_) (fun c5 => ?_)
  · refine g_aload_n C 0 dX5_shard_18 rfl rfl ?_
    refine x_rmain C H 17 (fX5_38 rfl) (by omega) dX5_shard_19 ?_
    refine g_iload_n C 1 dX5_shard_22 rfl rfl ?_
    refine x_shas C H j rfl (by omega) (s j) rfl dX5_shard_23 ?_
    refine s_astore_n (lo' := [_, _, _, _]) C 3 dX5_shard_24 rfl (by decide) rfl ?_
    refine g_iload_n C 2 dX5_shard_25 rfl rfl ?_
    refine g_tableIn C 99 dX5_shard_26 (by omega) (by omega) (by omega) rfl (by decide) ?_
    refine g_aload_n C 3 dX5_shard_99 rfl rfl ?_
    refine x_gsha C H hq1 (by omega) (fX5_184 rfl) rfl (Y 16 ((s j))) rfl dX5_shard_100 ?_
    exact g_iret C dX5_shard_103 (by omega) (by omega) ⟨rfl, H, F⟩
  · omega

set_option maxRecDepth 100000 in
set_option maxHeartbeats 4000000 in
theorem p5_shard_3_6 (ns : Nat) (hn : Y 0 7 = ns) (hns : ns ≤ 16) (j : Nat) (hj : j < ns) : gXs w l yX5_shard cX5_shard 4 (some .int) 0 0 [.ref 1, .int (iI (j : Int)), .int (iI 6)] Y s A B (some (.int (iI (Y 18 (s j))))) (Y) s A B := by
  refine gXs_start (by decide +kernel) (by simp [Value.category]) (Nat.le_of_ble_eq_true rfl) (fun m Wp h C H F => ?_)
  obtain ⟨h0, hh0⟩ : ∃ h0, h0 = h := ⟨_, rfl⟩
  rw [← hh0] at C
  have F : FrX h0 h := by rw [hh0]; exact F
  have hx : -2147483648 ≤ (j : Int) ∧ (j : Int) < 2147483648 := by omega
  have hq1 : s j < 16 := (H.2.2.1.2.2.2 j (by omega)).1
  have h61 : (Y 12 (s j)).toNat ≤ 6 := x_z6 (i := 2) H hq1 (by omega)
  have h62 : (Y 13 (s j)).toNat ≤ 6 := x_z6 (i := 3) H hq1 (by omega)
  show gG w m 4 Wp h 0 0 [some (.ref 1), some (.int (iI (j : Int))), some (.int (iI 6)), none] [] 0
  refine g_aload_n C 0 dX5_shard_0 rfl rfl ?_
  refine g_iload_n C 1 dX5_shard_1 rfl rfl ?_
  refine x_call C H F [_] _ (kX5_160 rfl) (e5_isShard_t ((j : Int)) hx (by omega) (by omega)) rfl rfl H.2.1.1 (by decide) (by omega) (by omega) (Nat.le_of_ble_eq_true rfl) dX5_shard_2 (fun h H F => ?_)
  refine g_if_ne C 18 dX5_shard_5 (by decide) (by omega) (fun c5 => ?_) (fun c5 => ?_)
  · refine g_aload_n C 0 dX5_shard_18 rfl rfl ?_
    refine x_rmain C H 17 (fX5_38 rfl) (by omega) dX5_shard_19 ?_
    refine g_iload_n C 1 dX5_shard_22 rfl rfl ?_
    refine x_shas C H j rfl (by omega) (s j) rfl dX5_shard_23 ?_
    refine s_astore_n (lo' := [_, _, _, _]) C 3 dX5_shard_24 rfl (by decide) rfl ?_
    refine g_iload_n C 2 dX5_shard_25 rfl rfl ?_
    refine g_tableIn C 104 dX5_shard_26 (by omega) (by omega) (by omega) rfl (by decide) ?_
    refine g_aload_n C 3 dX5_shard_104 rfl rfl ?_
    refine x_gsha C H hq1 (by omega) (fX5_142 rfl) rfl (Y 18 ((s j))) rfl dX5_shard_105 ?_
    exact g_iret C dX5_shard_108 (by omega) (by omega) ⟨rfl, H, F⟩
  · omega

set_option maxRecDepth 100000 in
set_option maxHeartbeats 4000000 in
theorem p5_machineOf_1 (hfl : l.stackTraces = false) (x : Int) (hx : (-2147483648 ≤ x ∧ x < 2147483648)) (a : Int) (ha : (-2147483648 ≤ a ∧ a < 2147483648)) (nm : Nat) (hm : Y 0 5 = nm) (hnm : nm ≤ 6) (hp : ¬ (0 ≤ x ∧ x < nm)) : gXt w l yX5_machineOf cX5_machineOf 4 (some .int) [.ref 1, .int (iI x), .int (iI a)] Y s A B "java/lang/IndexOutOfBoundsException" := by
  refine gXt_start (by decide +kernel) (by simp [Value.category]) (Nat.le_of_ble_eq_true rfl) (fun m Wp h C H F => ?_)
  obtain ⟨h0, hh0⟩ : ∃ h0, h0 = h := ⟨_, rfl⟩
  rw [← hh0] at C
  have F : FrX h0 h := by rw [hh0]; exact F
  show gG w m 4 Wp h 0 0 [some (.ref 1), some (.int (iI x)), some (.int (iI a)), none] [] 0
  refine g_aload_n C 0 dX5_machineOf_0 rfl rfl ?_
  refine g_iload_n C 1 dX5_machineOf_1 rfl rfl ?_
  refine x_call C H F [_] _ (kX5_77 rfl) (e5_isMachine_f x hx (by omega) (by omega)) rfl rfl H.2.1.1 (by decide) (by omega) (by omega) (Nat.le_of_ble_eq_true rfl) dX5_machineOf_2 (fun h H F => ?_)
  refine g_if_ne C 18 dX5_machineOf_5 (by decide) (by omega) (fun c5 => ?_) (fun c5 => ?_)
  · omega
  · exact g_throw C hfl (t_81_83 rfl) dX5_machineOf_8 dX5_machineOf_11 dX5_machineOf_12 dX5_machineOf_14 dX5_machineOf_17 (by decide) (by omega) (by omega) (Nat.le_of_ble_eq_true rfl) (fun n hn => ⟨rfl, H.dead hn, F.tr (FrX.dead H.1 hn)⟩)

set_option maxRecDepth 100000 in
set_option maxHeartbeats 4000000 in
theorem p5_machineOf_2 (hfl : l.stackTraces = false) (nm : Nat) (hm : Y 0 5 = nm) (hnm : nm ≤ 6) (ns : Nat) (hn : Y 0 7 = ns) (hns : ns ≤ 16) (mi : Nat) (hmi : mi < nm) (h01 : Y 3 (mi + 1) = 0 ∨ Y 3 (mi + 1) = 1) (a : Int) (ha : (-2147483648 ≤ a ∧ a < 2147483648)) (hp : ¬ (0 ≤ a ∧ a ≤ 3)) : gXt w l yX5_machineOf cX5_machineOf 4 (some .int) [.ref 1, .int (iI (mi : Int)), .int (iI a)] Y s A B "java/lang/IllegalArgumentException" := by
  refine gXt_start (by decide +kernel) (by simp [Value.category]) (Nat.le_of_ble_eq_true rfl) (fun m Wp h C H F => ?_)
  obtain ⟨h0, hh0⟩ : ∃ h0, h0 = h := ⟨_, rfl⟩
  rw [← hh0] at C
  have F : FrX h0 h := by rw [hh0]; exact F
  have hx : -2147483648 ≤ (mi : Int) ∧ (mi : Int) < 2147483648 := by omega
  have hz : mi + 1 ≤ 6 := by omega
  have ha2 : -2147483648 ≤ a ∧ a < 2147483648 := ha
  show gG w m 4 Wp h 0 0 [some (.ref 1), some (.int (iI (mi : Int))), some (.int (iI a)), none] [] 0
  refine g_aload_n C 0 dX5_machineOf_0 rfl rfl ?_
  refine g_iload_n C 1 dX5_machineOf_1 rfl rfl ?_
  refine x_call C H F [_] _ (kX5_77 rfl) (e5_isMachine_t (mi : Int) hx (by omega) (by omega)) rfl rfl H.2.1.1 (by decide) (by omega) (by omega) (Nat.le_of_ble_eq_true rfl) dX5_machineOf_2 (fun h H F => ?_)
  refine g_if_ne C 18 dX5_machineOf_5 (by decide) (by omega) (fun c5 => ?_) (fun c5 => ?_)
  · refine g_aload_n C 0 dX5_machineOf_18 rfl rfl ?_
    refine x_rmain C H 10 (fX5_32 rfl) (by omega) dX5_machineOf_19 ?_
    refine g_iload_n C 1 dX5_machineOf_22 rfl rfl ?_
    refine x_macs C H mi rfl (by omega) dX5_machineOf_23 ?_
    refine s_astore_n (lo' := [_, _, _, _]) C 3 dX5_machineOf_24 rfl (by decide) rfl ?_
    refine g_iload_n C 2 dX5_machineOf_25 rfl rfl ?_
    refine g_tableOut C 86 dX5_machineOf_26 (by omega) (by omega) (by decide) ?_
    exact g_throw C hfl (t_49_204 rfl) dX5_machineOf_86 dX5_machineOf_89 dX5_machineOf_90 dX5_machineOf_92 dX5_machineOf_95 (by decide) (by omega) (by omega) (Nat.le_of_ble_eq_true rfl) (fun n hn => ⟨rfl, H.dead hn, F.tr (FrX.dead H.1 hn)⟩)
  · omega

set_option maxRecDepth 100000 in
set_option maxHeartbeats 4000000 in
theorem p5_machineOf_3_0 (nm : Nat) (hm : Y 0 5 = nm) (hnm : nm ≤ 6) (ns : Nat) (hn : Y 0 7 = ns) (hns : ns ≤ 16) (mi : Nat) (hmi : mi < nm) (h01 : Y 3 (mi + 1) = 0 ∨ Y 3 (mi + 1) = 1) : gXs w l yX5_machineOf cX5_machineOf 4 (some .int) 0 0 [.ref 1, .int (iI (mi : Int)), .int (iI 0)] Y s A B (some (.int (iI (Y 4 (mi + 1))))) (Y) s A B := by
  refine gXs_start (by decide +kernel) (by simp [Value.category]) (Nat.le_of_ble_eq_true rfl) (fun m Wp h C H F => ?_)
  obtain ⟨h0, hh0⟩ : ∃ h0, h0 = h := ⟨_, rfl⟩
  rw [← hh0] at C
  have F : FrX h0 h := by rw [hh0]; exact F
  have hx : -2147483648 ≤ (mi : Int) ∧ (mi : Int) < 2147483648 := by omega
  have hz : mi + 1 ≤ 6 := by omega
  show gG w m 4 Wp h 0 0 [some (.ref 1), some (.int (iI (mi : Int))), some (.int (iI 0)), none] [] 0
  refine g_aload_n C 0 dX5_machineOf_0 rfl rfl ?_
  refine g_iload_n C 1 dX5_machineOf_1 rfl rfl ?_
  refine x_call C H F [_] _ (kX5_77 rfl) (e5_isMachine_t (mi : Int) hx (by omega) (by omega)) rfl rfl H.2.1.1 (by decide) (by omega) (by omega) (Nat.le_of_ble_eq_true rfl) dX5_machineOf_2 (fun h H F => ?_)
  refine g_if_ne C 18 dX5_machineOf_5 (by decide) (by omega) (fun c5 => ?_) (fun c5 => ?_)
  · refine g_aload_n C 0 dX5_machineOf_18 rfl rfl ?_
    refine x_rmain C H 10 (fX5_32 rfl) (by omega) dX5_machineOf_19 ?_
    refine g_iload_n C 1 dX5_machineOf_22 rfl rfl ?_
    refine x_macs C H mi rfl (by omega) dX5_machineOf_23 ?_
    refine s_astore_n (lo' := [_, _, _, _]) C 3 dX5_machineOf_24 rfl (by decide) rfl ?_
    refine g_iload_n C 2 dX5_machineOf_25 rfl rfl ?_
    refine g_tableIn C 56 dX5_machineOf_26 (by omega) (by omega) (by omega) rfl (by decide) ?_
    refine g_aload_n C 3 dX5_machineOf_56 rfl rfl ?_
    refine x_gmac C H hz (by omega) (fX5_206 rfl) (Y 4 (mi + 1)) rfl dX5_machineOf_57 ?_
    exact g_iret C dX5_machineOf_60 (by omega) (by omega) ⟨rfl, H, F⟩
  · omega

set_option maxRecDepth 100000 in
set_option maxHeartbeats 4000000 in
theorem p5_machineOf_3_1 (nm : Nat) (hm : Y 0 5 = nm) (hnm : nm ≤ 6) (ns : Nat) (hn : Y 0 7 = ns) (hns : ns ≤ 16) (mi : Nat) (hmi : mi < nm) (h01 : Y 3 (mi + 1) = 0 ∨ Y 3 (mi + 1) = 1) : gXs w l yX5_machineOf cX5_machineOf 4 (some .int) 0 0 [.ref 1, .int (iI (mi : Int)), .int (iI 1)] Y s A B (some (.int (iI (Y 3 (mi + 1))))) (Y) s A B := by
  refine gXs_start (by decide +kernel) (by simp [Value.category]) (Nat.le_of_ble_eq_true rfl) (fun m Wp h C H F => ?_)
  obtain ⟨h0, hh0⟩ : ∃ h0, h0 = h := ⟨_, rfl⟩
  rw [← hh0] at C
  have F : FrX h0 h := by rw [hh0]; exact F
  have hx : -2147483648 ≤ (mi : Int) ∧ (mi : Int) < 2147483648 := by omega
  have hz : mi + 1 ≤ 6 := by omega
  show gG w m 4 Wp h 0 0 [some (.ref 1), some (.int (iI (mi : Int))), some (.int (iI 1)), none] [] 0
  refine g_aload_n C 0 dX5_machineOf_0 rfl rfl ?_
  refine g_iload_n C 1 dX5_machineOf_1 rfl rfl ?_
  refine x_call C H F [_] _ (kX5_77 rfl) (e5_isMachine_t (mi : Int) hx (by omega) (by omega)) rfl rfl H.2.1.1 (by decide) (by omega) (by omega) (Nat.le_of_ble_eq_true rfl) dX5_machineOf_2 (fun h H F => ?_)
  refine g_if_ne C 18 dX5_machineOf_5 (by decide) (by omega) (fun c5 => ?_) (fun c5 => ?_)
  · refine g_aload_n C 0 dX5_machineOf_18 rfl rfl ?_
    refine x_rmain C H 10 (fX5_32 rfl) (by omega) dX5_machineOf_19 ?_
    refine g_iload_n C 1 dX5_machineOf_22 rfl rfl ?_
    refine x_macs C H mi rfl (by omega) dX5_machineOf_23 ?_
    refine s_astore_n (lo' := [_, _, _, _]) C 3 dX5_machineOf_24 rfl (by decide) rfl ?_
    refine g_iload_n C 2 dX5_machineOf_25 rfl rfl ?_
    refine g_tableIn C 61 dX5_machineOf_26 (by omega) (by omega) (by omega) rfl (by decide) ?_
    refine g_aload_n C 3 dX5_machineOf_61 rfl rfl ?_
    refine x_gmac C H hz (by omega) (fX5_67 rfl) (Y 3 (mi + 1)) rfl dX5_machineOf_62 ?_
    refine g_if_eq C 72 dX5_machineOf_65 (by decide) (gd01 h01) (fun c65 => ?_) (fun c65 => ?_)
    · refine g_iconst C dX5_machineOf_72 ?_
      exact g_iret C dX5_machineOf_73 (by omega) (by omega) ⟨by congr 3; omega, H, F⟩
    · refine g_iconst C dX5_machineOf_68 ?_
      refine g_goto C 73 dX5_machineOf_69 (by decide) ?_
      exact g_iret C dX5_machineOf_73 (by omega) (by omega) ⟨by congr 3; omega, H, F⟩
  · omega

set_option maxRecDepth 100000 in
set_option maxHeartbeats 4000000 in
theorem p5_machineOf_3_2 (nm : Nat) (hm : Y 0 5 = nm) (hnm : nm ≤ 6) (ns : Nat) (hn : Y 0 7 = ns) (hns : ns ≤ 16) (mi : Nat) (hmi : mi < nm) (h01 : Y 3 (mi + 1) = 0 ∨ Y 3 (mi + 1) = 1) : gXs w l yX5_machineOf cX5_machineOf 4 (some .int) 0 0 [.ref 1, .int (iI (mi : Int)), .int (iI 2)] Y s A B (some (.int (iI (yheat Y s ns (mi + 1))))) (Y) s A B := by
  refine gXs_start (by decide +kernel) (by simp [Value.category]) (Nat.le_of_ble_eq_true rfl) (fun m Wp h C H F => ?_)
  obtain ⟨h0, hh0⟩ : ∃ h0, h0 = h := ⟨_, rfl⟩
  rw [← hh0] at C
  have F : FrX h0 h := by rw [hh0]; exact F
  have hx : -2147483648 ≤ (mi : Int) ∧ (mi : Int) < 2147483648 := by omega
  have hz : mi + 1 ≤ 6 := by omega
  show gG w m 4 Wp h 0 0 [some (.ref 1), some (.int (iI (mi : Int))), some (.int (iI 2)), none] [] 0
  refine g_aload_n C 0 dX5_machineOf_0 rfl rfl ?_
  refine g_iload_n C 1 dX5_machineOf_1 rfl rfl ?_
  refine x_call C H F [_] _ (kX5_77 rfl) (e5_isMachine_t (mi : Int) hx (by omega) (by omega)) rfl rfl H.2.1.1 (by decide) (by omega) (by omega) (Nat.le_of_ble_eq_true rfl) dX5_machineOf_2 (fun h H F => ?_)
  refine g_if_ne C 18 dX5_machineOf_5 (by decide) (by omega) (fun c5 => ?_) (fun c5 => ?_)
  · refine g_aload_n C 0 dX5_machineOf_18 rfl rfl ?_
    refine x_rmain C H 10 (fX5_32 rfl) (by omega) dX5_machineOf_19 ?_
    refine g_iload_n C 1 dX5_machineOf_22 rfl rfl ?_
    refine x_macs C H mi rfl (by omega) dX5_machineOf_23 ?_
    refine s_astore_n (lo' := [_, _, _, _]) C 3 dX5_machineOf_24 rfl (by decide) rfl ?_
    refine g_iload_n C 2 dX5_machineOf_25 rfl rfl ?_
    refine g_tableIn C 74 dX5_machineOf_26 (by omega) (by omega) (by omega) rfl (by decide) ?_
    refine g_aload_n C 0 dX5_machineOf_74 rfl rfl ?_
    refine g_aload_n C 3 dX5_machineOf_75 rfl rfl ?_
    refine x_call C H F [_] _ (kX5_209 rfl) (e5_heatOf hz ns hn hns) rfl rfl H.2.1.1 (by decide) (by omega) (by omega) (Nat.le_of_ble_eq_true rfl) dX5_machineOf_76 (fun h H F => ?_)
    exact g_iret C dX5_machineOf_79 (by omega) (by omega) ⟨rfl, H, F⟩
  · omega

set_option maxRecDepth 100000 in
set_option maxHeartbeats 4000000 in
theorem p5_machineOf_3_3 (nm : Nat) (hm : Y 0 5 = nm) (hnm : nm ≤ 6) (ns : Nat) (hn : Y 0 7 = ns) (hns : ns ≤ 16) (mi : Nat) (hmi : mi < nm) (h01 : Y 3 (mi + 1) = 0 ∨ Y 3 (mi + 1) = 1) : gXs w l yX5_machineOf cX5_machineOf 4 (some .int) 0 0 [.ref 1, .int (iI (mi : Int)), .int (iI 3)] Y s A B (some (.int (iI (ycnt Y s ns (mi + 1))))) (Y) s A B := by
  refine gXs_start (by decide +kernel) (by simp [Value.category]) (Nat.le_of_ble_eq_true rfl) (fun m Wp h C H F => ?_)
  obtain ⟨h0, hh0⟩ : ∃ h0, h0 = h := ⟨_, rfl⟩
  rw [← hh0] at C
  have F : FrX h0 h := by rw [hh0]; exact F
  have hx : -2147483648 ≤ (mi : Int) ∧ (mi : Int) < 2147483648 := by omega
  have hz : mi + 1 ≤ 6 := by omega
  show gG w m 4 Wp h 0 0 [some (.ref 1), some (.int (iI (mi : Int))), some (.int (iI 3)), none] [] 0
  refine g_aload_n C 0 dX5_machineOf_0 rfl rfl ?_
  refine g_iload_n C 1 dX5_machineOf_1 rfl rfl ?_
  refine x_call C H F [_] _ (kX5_77 rfl) (e5_isMachine_t (mi : Int) hx (by omega) (by omega)) rfl rfl H.2.1.1 (by decide) (by omega) (by omega) (Nat.le_of_ble_eq_true rfl) dX5_machineOf_2 (fun h H F => ?_)
  refine g_if_ne C 18 dX5_machineOf_5 (by decide) (by omega) (fun c5 => ?_) (fun c5 => ?_)
  · refine g_aload_n C 0 dX5_machineOf_18 rfl rfl ?_
    refine x_rmain C H 10 (fX5_32 rfl) (by omega) dX5_machineOf_19 ?_
    refine g_iload_n C 1 dX5_machineOf_22 rfl rfl ?_
    refine x_macs C H mi rfl (by omega) dX5_machineOf_23 ?_
    refine s_astore_n (lo' := [_, _, _, _]) C 3 dX5_machineOf_24 rfl (by decide) rfl ?_
    refine g_iload_n C 2 dX5_machineOf_25 rfl rfl ?_
    refine g_tableIn C 80 dX5_machineOf_26 (by omega) (by omega) (by omega) rfl (by decide) ?_
    refine g_aload_n C 0 dX5_machineOf_80 rfl rfl ?_
    refine g_aload_n C 3 dX5_machineOf_81 rfl rfl ?_
    refine x_call C H F [_] _ (kX5_213 rfl) (e5_shardCountOn hz ns hn hns) rfl rfl H.2.1.1 (by decide) (by omega) (by omega) (Nat.le_of_ble_eq_true rfl) dX5_machineOf_82 (fun h H F => ?_)
    exact g_iret C dX5_machineOf_85 (by omega) (by omega) ⟨rfl, H, F⟩
  · omega

set_option maxRecDepth 100000 in
set_option maxHeartbeats 4000000 in
theorem p5_tenant_1 (hfl : l.stackTraces = false) (t : Int) (ht : (-2147483648 ≤ t ∧ t < 2147483648)) (a : Int) (ha : (-2147483648 ≤ a ∧ a < 2147483648)) (hp : ¬ (0 ≤ t ∧ t < 4)) : gXt w l yX5_tenant cX5_tenant 4 (some .int) [.ref 1, .int (iI t), .int (iI a)] Y s A B "java/lang/IndexOutOfBoundsException" := by
  refine gXt_start (by decide +kernel) (by simp [Value.category]) (Nat.le_of_ble_eq_true rfl) (fun m Wp h C H F => ?_)
  obtain ⟨h0, hh0⟩ : ∃ h0, h0 = h := ⟨_, rfl⟩
  rw [← hh0] at C
  have F : FrX h0 h := by rw [hh0]; exact F
  show gG w m 4 Wp h 0 0 [some (.ref 1), some (.int (iI t)), some (.int (iI a)), none] [] 0
  refine g_aload_n C 0 dX5_tenant_0 rfl rfl ?_
  refine g_iload_n C 1 dX5_tenant_1 rfl rfl ?_
  refine x_call C H F [_] _ (kX5_89 rfl) (e5_isTenant_f t ht (by omega)) rfl rfl H.2.1.1 (by decide) (by omega) (by omega) (Nat.le_of_ble_eq_true rfl) dX5_tenant_2 (fun h H F => ?_)
  refine g_if_ne C 18 dX5_tenant_5 (by decide) (by omega) (fun c5 => ?_) (fun c5 => ?_)
  · omega
  · exact g_throw C hfl (t_81_92 rfl) dX5_tenant_8 dX5_tenant_11 dX5_tenant_12 dX5_tenant_14 dX5_tenant_17 (by decide) (by omega) (by omega) (Nat.le_of_ble_eq_true rfl) (fun n hn => ⟨rfl, H.dead hn, F.tr (FrX.dead H.1 hn)⟩)

set_option maxRecDepth 100000 in
set_option maxHeartbeats 4000000 in
theorem p5_tenant_2 (hfl : l.stackTraces = false) (ti : Nat) (hti : ti < 4) (a : Int) (ha : (-2147483648 ≤ a ∧ a < 2147483648)) (hp : ¬ (0 ≤ a ∧ a ≤ 2)) : gXt w l yX5_tenant cX5_tenant 4 (some .int) [.ref 1, .int (iI (ti : Int)), .int (iI a)] Y s A B "java/lang/IllegalArgumentException" := by
  refine gXt_start (by decide +kernel) (by simp [Value.category]) (Nat.le_of_ble_eq_true rfl) (fun m Wp h C H F => ?_)
  obtain ⟨h0, hh0⟩ : ∃ h0, h0 = h := ⟨_, rfl⟩
  rw [← hh0] at C
  have F : FrX h0 h := by rw [hh0]; exact F
  have hx : -2147483648 ≤ (ti : Int) ∧ (ti : Int) < 2147483648 := by omega
  have ha2 : -2147483648 ≤ a ∧ a < 2147483648 := ha
  show gG w m 4 Wp h 0 0 [some (.ref 1), some (.int (iI (ti : Int))), some (.int (iI a)), none] [] 0
  refine g_aload_n C 0 dX5_tenant_0 rfl rfl ?_
  refine g_iload_n C 1 dX5_tenant_1 rfl rfl ?_
  refine x_call C H F [_] _ (kX5_89 rfl) (e5_isTenant_t (ti : Int) hx (by omega)) rfl rfl H.2.1.1 (by decide) (by omega) (by omega) (Nat.le_of_ble_eq_true rfl) dX5_tenant_2 (fun h H F => ?_)
  refine g_if_ne C 18 dX5_tenant_5 (by decide) (by omega) (fun c5 => ?_) (fun c5 => ?_)
  · refine g_aload_n C 0 dX5_tenant_18 rfl rfl ?_
    refine x_rmain C H 5 (fX5_27 rfl) (by omega) dX5_tenant_19 ?_
    refine g_iload_n C 1 dX5_tenant_22 rfl rfl ?_
    refine x_tens C H ti rfl hti dX5_tenant_23 ?_
    refine s_astore_n (lo' := [_, _, _, _]) C 3 dX5_tenant_24 rfl (by decide) rfl ?_
    refine g_iload_n C 2 dX5_tenant_25 rfl rfl ?_
    refine g_tableOut C 67 dX5_tenant_26 (by omega) (by omega) (by decide) ?_
    exact g_throw C hfl (t_49_204 rfl) dX5_tenant_67 dX5_tenant_70 dX5_tenant_71 dX5_tenant_73 dX5_tenant_76 (by decide) (by omega) (by omega) (Nat.le_of_ble_eq_true rfl) (fun n hn => ⟨rfl, H.dead hn, F.tr (FrX.dead H.1 hn)⟩)
  · omega

set_option maxRecDepth 100000 in
set_option maxHeartbeats 4000000 in
theorem p5_tenant_3_0 (ti : Nat) (hti : ti < 4) : gXs w l yX5_tenant cX5_tenant 4 (some .int) 0 0 [.ref 1, .int (iI (ti : Int)), .int (iI 0)] Y s A B (some (.int (iI (Y 5 ti)))) (Y) s A B := by
  refine gXs_start (by decide +kernel) (by simp [Value.category]) (Nat.le_of_ble_eq_true rfl) (fun m Wp h C H F => ?_)
  obtain ⟨h0, hh0⟩ : ∃ h0, h0 = h := ⟨_, rfl⟩
  rw [← hh0] at C
  have F : FrX h0 h := by rw [hh0]; exact F
  have hx : -2147483648 ≤ (ti : Int) ∧ (ti : Int) < 2147483648 := by omega
  show gG w m 4 Wp h 0 0 [some (.ref 1), some (.int (iI (ti : Int))), some (.int (iI 0)), none] [] 0
  refine g_aload_n C 0 dX5_tenant_0 rfl rfl ?_
  refine g_iload_n C 1 dX5_tenant_1 rfl rfl ?_
  refine x_call C H F [_] _ (kX5_89 rfl) (e5_isTenant_t (ti : Int) hx (by omega)) rfl rfl H.2.1.1 (by decide) (by omega) (by omega) (Nat.le_of_ble_eq_true rfl) dX5_tenant_2 (fun h H F => ?_)
  refine g_if_ne C 18 dX5_tenant_5 (by decide) (by omega) (fun c5 => ?_) (fun c5 => ?_)
  · refine g_aload_n C 0 dX5_tenant_18 rfl rfl ?_
    refine x_rmain C H 5 (fX5_27 rfl) (by omega) dX5_tenant_19 ?_
    refine g_iload_n C 1 dX5_tenant_22 rfl rfl ?_
    refine x_tens C H ti rfl hti dX5_tenant_23 ?_
    refine s_astore_n (lo' := [_, _, _, _]) C 3 dX5_tenant_24 rfl (by decide) rfl ?_
    refine g_iload_n C 2 dX5_tenant_25 rfl rfl ?_
    refine g_tableIn C 52 dX5_tenant_26 (by omega) (by omega) (by omega) rfl (by decide) ?_
    refine g_aload_n C 3 dX5_tenant_52 rfl rfl ?_
    refine x_gten C H hti (by omega) (fX5_133 rfl) (Y 5 (ti)) rfl dX5_tenant_53 ?_
    exact g_iret C dX5_tenant_56 (by omega) (by omega) ⟨rfl, H, F⟩
  · omega

set_option maxRecDepth 100000 in
set_option maxHeartbeats 4000000 in
theorem p5_tenant_3_1 (ti : Nat) (hti : ti < 4) : gXs w l yX5_tenant cX5_tenant 4 (some .int) 0 0 [.ref 1, .int (iI (ti : Int)), .int (iI 1)] Y s A B (some (.int (iI (Y 6 ti)))) (Y) s A B := by
  refine gXs_start (by decide +kernel) (by simp [Value.category]) (Nat.le_of_ble_eq_true rfl) (fun m Wp h C H F => ?_)
  obtain ⟨h0, hh0⟩ : ∃ h0, h0 = h := ⟨_, rfl⟩
  rw [← hh0] at C
  have F : FrX h0 h := by rw [hh0]; exact F
  have hx : -2147483648 ≤ (ti : Int) ∧ (ti : Int) < 2147483648 := by omega
  show gG w m 4 Wp h 0 0 [some (.ref 1), some (.int (iI (ti : Int))), some (.int (iI 1)), none] [] 0
  refine g_aload_n C 0 dX5_tenant_0 rfl rfl ?_
  refine g_iload_n C 1 dX5_tenant_1 rfl rfl ?_
  refine x_call C H F [_] _ (kX5_89 rfl) (e5_isTenant_t (ti : Int) hx (by omega)) rfl rfl H.2.1.1 (by decide) (by omega) (by omega) (Nat.le_of_ble_eq_true rfl) dX5_tenant_2 (fun h H F => ?_)
  refine g_if_ne C 18 dX5_tenant_5 (by decide) (by omega) (fun c5 => ?_) (fun c5 => ?_)
  · refine g_aload_n C 0 dX5_tenant_18 rfl rfl ?_
    refine x_rmain C H 5 (fX5_27 rfl) (by omega) dX5_tenant_19 ?_
    refine g_iload_n C 1 dX5_tenant_22 rfl rfl ?_
    refine x_tens C H ti rfl hti dX5_tenant_23 ?_
    refine s_astore_n (lo' := [_, _, _, _]) C 3 dX5_tenant_24 rfl (by decide) rfl ?_
    refine g_iload_n C 2 dX5_tenant_25 rfl rfl ?_
    refine g_tableIn C 57 dX5_tenant_26 (by omega) (by omega) (by omega) rfl (by decide) ?_
    refine g_aload_n C 3 dX5_tenant_57 rfl rfl ?_
    refine x_gten C H hti (by omega) (fX5_96 rfl) (Y 6 (ti)) rfl dX5_tenant_58 ?_
    exact g_iret C dX5_tenant_61 (by omega) (by omega) ⟨rfl, H, F⟩
  · omega

set_option maxRecDepth 100000 in
set_option maxHeartbeats 4000000 in
theorem p5_tenant_3_2 (ti : Nat) (hti : ti < 4) : gXs w l yX5_tenant cX5_tenant 4 (some .int) 0 0 [.ref 1, .int (iI (ti : Int)), .int (iI 2)] Y s A B (some (.int (iI (Y 7 ti)))) (Y) s A B := by
  refine gXs_start (by decide +kernel) (by simp [Value.category]) (Nat.le_of_ble_eq_true rfl) (fun m Wp h C H F => ?_)
  obtain ⟨h0, hh0⟩ : ∃ h0, h0 = h := ⟨_, rfl⟩
  rw [← hh0] at C
  have F : FrX h0 h := by rw [hh0]; exact F
  have hx : -2147483648 ≤ (ti : Int) ∧ (ti : Int) < 2147483648 := by omega
  show gG w m 4 Wp h 0 0 [some (.ref 1), some (.int (iI (ti : Int))), some (.int (iI 2)), none] [] 0
  refine g_aload_n C 0 dX5_tenant_0 rfl rfl ?_
  refine g_iload_n C 1 dX5_tenant_1 rfl rfl ?_
  refine x_call C H F [_] _ (kX5_89 rfl) (e5_isTenant_t (ti : Int) hx (by omega)) rfl rfl H.2.1.1 (by decide) (by omega) (by omega) (Nat.le_of_ble_eq_true rfl) dX5_tenant_2 (fun h H F => ?_)
  refine g_if_ne C 18 dX5_tenant_5 (by decide) (by omega) (fun c5 => ?_) (fun c5 => ?_)
  · refine g_aload_n C 0 dX5_tenant_18 rfl rfl ?_
    refine x_rmain C H 5 (fX5_27 rfl) (by omega) dX5_tenant_19 ?_
    refine g_iload_n C 1 dX5_tenant_22 rfl rfl ?_
    refine x_tens C H ti rfl hti dX5_tenant_23 ?_
    refine s_astore_n (lo' := [_, _, _, _]) C 3 dX5_tenant_24 rfl (by decide) rfl ?_
    refine g_iload_n C 2 dX5_tenant_25 rfl rfl ?_
    refine g_tableIn C 62 dX5_tenant_26 (by omega) (by omega) (by omega) rfl (by decide) ?_
    refine g_aload_n C 3 dX5_tenant_62 rfl rfl ?_
    refine x_gten C H hti (by omega) (fX5_216 rfl) (Y 7 (ti)) rfl dX5_tenant_63 ?_
    exact g_iret C dX5_tenant_66 (by omega) (by omega) ⟨rfl, H, F⟩
  · omega

/-- what a change has added to the tenant t -/
def ymo (t : Int) (e : gCE) : Int := (if e.2.2.2.1 = t then e.2.2.2.2 else 0) - (if e.2.1 = t then e.2.2.1 else 0)
def ybill (t hr : Int) : List gCE → Int → Int
  | [], a => a
  | e :: r, a => ybill t hr r (a + ymo t e * (hr - e.1))
/-- a change's numbers are ints -/
def gCR (e : gCE) : Prop := (-1 ≤ e.2.1 ∧ e.2.1 ≤ 3) ∧ (-1 ≤ e.2.2.2.1 ∧ e.2.2.2.1 ≤ 3)
def ywh (key d : Int) : List gOE → Int
  | [] => d
  | e :: r => if e.1 ≤ key ∧ key ≤ e.2.1 then e.2.2 else ywh key d r
def gOR (e : gOE) : Prop := (0 ≤ e.1 ∧ e.1 ≤ 1000) ∧ (-1 ≤ e.2.1 ∧ e.2.1 ≤ 1000)

set_option maxRecDepth 100000 in
set_option maxHeartbeats 4000000 in
theorem e0_more {h : gH} {c : Nat} (hK : gK h c = (0, 6)) (t : Int) (ht : (-2147483648 ≤ t ∧ t < 2147483648)) (e : gCE) (i2 : gI h c 2 = e.2.1) (i3 : gI h c 3 = e.2.2.1) (i4 : gI h c 4 = e.2.2.2.1) (i5 : gI h c 5 = e.2.2.2.2) (hR : gCR e) : gCt w l yX0_moreBytesOf cX0_moreBytesOf 4 (some .int) 0 0 0 [.ref c, .int (iI t)] h (fun q h' => q = some (.int (iI (ymo t e))) ∧ h' = h) := by
  refine gCt.of (gStart (by decide +kernel) (by simp [Value.category]) (Nat.le_of_ble_eq_true rfl) (fun m Wp C => ?_))
  obtain ⟨e1, e2, e3, e4, e5⟩ := e
  obtain ⟨⟨r1, r2⟩, r3, r4⟩ := hR
  dsimp only at i2 i3 i4 i5 r1 r2 r3 r4
  show gG w m 4 Wp h 0 0 [some (.ref c), some (.int (iI t)), none, none] [] 0
  have K17 : ∀ v : Int, v = (if e4 = t then e5 else 0) → gG w m 4 Wp h 0 0 [some (.ref c), some (.int (iI t)), some (.int (iI v)), none] [] 17 := by
    intro v hv
    have K33 : ∀ u : Int, u = (if e2 = t then e3 else 0) → gG w m 4 Wp h 0 0 [some (.ref c), some (.int (iI t)), some (.int (iI v)), none] [.int (iI u)] 33 := by
      intro u hu
      refine s_istore_n (lo' := [_, _, _, _]) C 3 dX0_moreBytesOf_33 rfl (by decide) rfl ?_
      refine g_iload_n C 2 dX0_moreBytesOf_34 rfl rfl ?_
      refine g_iload_n C 3 dX0_moreBytesOf_35 rfl rfl ?_
      refine g_isub C dX0_moreBytesOf_36 ?_
      exact g_iret C dX0_moreBytesOf_37 (Nat.le_refl _) (Nat.le_refl _) ⟨by rw [hv, hu]; rfl, rfl⟩
    refine g_aload_n C 0 dX0_moreBytesOf_17 rfl rfl ?_
    refine g_geti C (fX0_17 rfl) rfl hK dX0_moreBytesOf_18 ?_
    refine g_iload_n C 1 dX0_moreBytesOf_21 rfl rfl ?_
    refine g_icmp_ne C 32 dX0_moreBytesOf_22 (by decide) (by rw [i2]; omega) (by omega) (fun c22 => ?_) (fun c22 => ?_)
    · refine g_iconst C dX0_moreBytesOf_32 ?_
      first | exact K33 _ (by rw [i2] at c22; rw [if_pos c22]; exact i3) | exact K33 _ (by rw [i2] at c22; rw [if_neg c22])
    · refine g_aload_n C 0 dX0_moreBytesOf_25 rfl rfl ?_
      refine g_geti C (fX0_20 rfl) rfl hK dX0_moreBytesOf_26 ?_
      refine g_goto C 33 dX0_moreBytesOf_29 (by decide) ?_
      first | exact K33 _ (by rw [i2] at c22; rw [if_pos c22]; exact i3) | exact K33 _ (by rw [i2] at c22; rw [if_neg c22])
  refine g_aload_n C 0 dX0_moreBytesOf_0 rfl rfl ?_
  refine g_geti C (fX0_23 rfl) rfl hK dX0_moreBytesOf_1 ?_
  refine g_iload_n C 1 dX0_moreBytesOf_4 rfl rfl ?_
  refine g_icmp_ne C 15 dX0_moreBytesOf_5 (by decide) (by rw [i4]; omega) (by omega) (fun c5 => ?_) (fun c5 => ?_)
  · refine g_iconst C dX0_moreBytesOf_15 ?_
    refine s_istore_n (lo' := [_, _, _, _]) C 2 dX0_moreBytesOf_16 rfl (by decide) rfl ?_
    first | exact K17 _ (by rw [i4] at c5; rw [if_pos c5]; exact i5) | exact K17 _ (by rw [i4] at c5; rw [if_neg c5])
  · refine g_aload_n C 0 dX0_moreBytesOf_8 rfl rfl ?_
    refine g_geti C (fX0_26 rfl) rfl hK dX0_moreBytesOf_9 ?_
    refine g_goto C 16 dX0_moreBytesOf_12 (by decide) ?_
    refine s_istore_n (lo' := [_, _, _, _]) C 2 dX0_moreBytesOf_16 rfl (by decide) rfl ?_
    first | exact K17 _ (by rw [i4] at c5; rw [if_pos c5]; exact i5) | exact K17 _ (by rw [i4] at c5; rw [if_neg c5])

section XJ
variable {y : MethodName} {cc : ByteArray} {nL : Nat} {ret : Option FieldType} {d mc ms : Nat} {post : Option Value → gH → Prop} {px : String → gH → Prop} {m : MethodId} {Wp : Heap → List Loc → Nat → Nat → JFrame → Prop} {h : gH} {k u : Nat} {lo lo' : List (Option Value)} {st : List Value} {pc : Nat}
theorem s_astore_no (C : gC w l y cc nL ret d mc ms post px m Wp) {f : Fin 4} (i : Nat) {o : Option Nat} (hd : decode cc pc = .ok (.astore_n f, 1)) (hi : (f : Nat) = i) (hn : i < nL) (hlo : lo.set i (some (va_rf o)) = lo') (kk : gG w m nL Wp h k u lo' st (pc + 1)) : gG w m nL Wp h k u lo (va_rf o :: st) pc := by
  cases o with
  | none => exact g_astore_nN C i hd hi hn (by rw [show (some Value.null : Option Value) = some (va_rf none) from rfl, hlo]; exact kk)
  | some x => exact g_astore_n C i hd hi hn (by rw [show (some (Value.ref x) : Option Value) = some (va_rf (some x)) from rfl, hlo]; exact kk)
end XJ

set_option maxRecDepth 100000 in
set_option maxHeartbeats 4000000 in
theorem p5_billAnew_1 (hfl : l.stackTraces = false) (t : Int) (ht : (-2147483648 ≤ t ∧ t < 2147483648)) (hp : ¬ (0 ≤ t ∧ t < 4)) : gXt w l yX5_billAnew cX5_billAnew 4 (some .int) [.ref 1, .int (iI t)] Y s A B "java/lang/IndexOutOfBoundsException" := by
  refine gXt_start (by decide +kernel) (by simp [Value.category]) (Nat.le_of_ble_eq_true rfl) (fun m Wp h C H F => ?_)
  obtain ⟨h0, hh0⟩ : ∃ h0, h0 = h := ⟨_, rfl⟩
  rw [← hh0] at C
  have F : FrX h0 h := by rw [hh0]; exact F
  show gG w m 4 Wp h 0 0 [some (.ref 1), some (.int (iI t)), none, none] [] 0
  refine g_aload_n C 0 dX5_billAnew_0 rfl rfl ?_
  refine g_iload_n C 1 dX5_billAnew_1 rfl rfl ?_
  refine x_call C H F [_] _ (kX5_89 rfl) (e5_isTenant_f t ht (by omega)) rfl rfl H.2.1.1 (by decide) (by omega) (by omega) (Nat.le_of_ble_eq_true rfl) dX5_billAnew_2 (fun h H F => ?_)
  refine g_if_ne C 18 dX5_billAnew_5 (by decide) (by omega) (fun c5 => ?_) (fun c5 => ?_)
  · omega
  · exact g_throw C hfl (t_81_92 rfl) dX5_billAnew_8 dX5_billAnew_11 dX5_billAnew_12 dX5_billAnew_14 dX5_billAnew_17 (by decide) (by omega) (by omega) (Nat.le_of_ble_eq_true rfl) (fun n hn => ⟨rfl, H.dead hn, F.tr (FrX.dead H.1 hn)⟩)

set_option maxRecDepth 100000 in
set_option maxHeartbeats 4000000 in
theorem p5_billAnew_2 (ti : Nat) (hti : ti < 4) (hA : ∀ e, e ∈ A → gCR e) : gXs w l yX5_billAnew cX5_billAnew 4 (some .int) 0 0 [.ref 1, .int (iI (ti : Int))] Y s A B (some (.int (iI (ybill (ti : Int) (Y 0 8) A 0)))) (Y) s A B := by
  refine gXs_start (by decide +kernel) (by simp [Value.category]) (Nat.le_of_ble_eq_true rfl) (fun m Wp h C H F => ?_)
  obtain ⟨h0, hh0⟩ : ∃ h0, h0 = h := ⟨_, rfl⟩
  rw [← hh0] at C
  have F : FrX h0 h := by rw [hh0]; exact F
  have hx : -2147483648 ≤ (ti : Int) ∧ (ti : Int) < 2147483648 := by omega
  have L : ∀ (h : gH), RX Y s A B h → FrX h0 h → ∀ (A' : List gCE) (o : Option Nat) (a : Int), gchA h o A' → (∀ e, e ∈ A' → gCR e) → ybill (ti : Int) (Y 0 8) A' a = ybill (ti : Int) (Y 0 8) A 0 → gG w m 4 Wp h 0 0 [some (.ref 1), some (.int (iI (ti : Int))), some (.int (iI a)), some (va_rf o)] [] 25 := by
    intro h H F A'
    induction A' with
    | nil =>
      intro o a h1 h2 h3
      have e : o = none := h1
      subst e
      refine g_aload_nN C 3 dX5_billAnew_25 rfl rfl ?_
      refine g_ifnullN C 55 dX5_billAnew_26 (by decide) ?_
      refine g_iload_n C 2 dX5_billAnew_55 rfl rfl ?_
      exact g_iret C dX5_billAnew_56 (by omega) (by omega) ⟨by rw [← h3]; rfl, H, F⟩
    | cons e r ih =>
      intro o a h1 h2 h3
      obtain ⟨c, rfl, -, -, kc, i0, i2, i3, i4, i5, h1⟩ := h1
      refine g_aload_n C 3 dX5_billAnew_25 rfl rfl ?_
      refine g_ifnull C dX5_billAnew_26 ?_
      refine g_iload_n C 2 dX5_billAnew_29 rfl rfl ?_
      refine g_aload_n C 3 dX5_billAnew_30 rfl rfl ?_
      refine g_iload_n C 1 dX5_billAnew_31 rfl rfl ?_
      refine g_callV C [_] [_] (kX5_223 rfl) (e0_more kc (ti : Int) hx e i2 i3 i4 i5 (h2 e (List.mem_cons_self ..))) rfl rfl kc (by decide) (Nat.zero_le _) (Nat.zero_le _) (Nat.le_of_ble_eq_true rfl) dX5_billAnew_32 (fun q h2' e' => ?_)
      obtain ⟨rfl, rfl⟩ := e'
      refine g_aload_n C 0 dX5_billAnew_35 rfl rfl ?_
      refine x_gmain C H (fX5_193 rfl) rfl (Y 0 8) rfl dX5_billAnew_36 ?_
      refine g_aload_n C 3 dX5_billAnew_39 rfl rfl ?_
      refine g_geti C (fX5_228 rfl) rfl kc dX5_billAnew_40 ?_
      rw [i0]
      refine g_isub C dX5_billAnew_43 ?_
      refine g_imul C dX5_billAnew_44 ?_
      refine g_iadd C dX5_billAnew_45 ?_
      refine s_istore_n (lo' := [_, _, _, _]) C 2 dX5_billAnew_46 rfl (by decide) rfl ?_
      refine g_aload_n C 3 dX5_billAnew_47 rfl rfl ?_
      refine g_geto C (fX5_229 rfl) rfl kc _ rfl dX5_billAnew_48 ?_
      refine s_astore_no (lo' := [_, _, _, _]) C 3 dX5_billAnew_51 rfl (by decide) rfl ?_
      refine g_goto C 25 dX5_billAnew_52 (by decide) ?_
      exact ih _ _ h1 (fun x hx => h2 x (List.mem_cons_of_mem _ hx)) h3
  show gG w m 4 Wp h 0 0 [some (.ref 1), some (.int (iI (ti : Int))), none, none] [] 0
  refine g_aload_n C 0 dX5_billAnew_0 rfl rfl ?_
  refine g_iload_n C 1 dX5_billAnew_1 rfl rfl ?_
  refine x_call C H F [_] _ (kX5_89 rfl) (e5_isTenant_t (ti : Int) hx (by omega)) rfl rfl H.2.1.1 (by decide) (by omega) (by omega) (Nat.le_of_ble_eq_true rfl) dX5_billAnew_2 (fun h H F => ?_)
  refine g_if_ne C 18 dX5_billAnew_5 (by decide) (by omega) (fun c5 => ?_) (fun c5 => ?_)
  · refine g_iconst C dX5_billAnew_18 ?_
    refine s_istore_n (lo' := [_, _, _, _]) C 2 dX5_billAnew_19 rfl (by decide) rfl ?_
    refine g_aload_n C 0 dX5_billAnew_20 rfl rfl ?_
    refine g_geto C (fX5_219 rfl) rfl H.2.1.1 _ rfl dX5_billAnew_21 ?_
    refine s_astore_no (lo' := [_, _, _, _]) C 3 dX5_billAnew_24 rfl (by decide) rfl ?_
    exact L _ H F A _ 0 H.2.2.2.2.1 hA rfl
  · omega

set_option maxRecDepth 100000 in
set_option maxHeartbeats 4000000 in
theorem p5_whereAnew_2 (key : Int) (hkey : (-2147483648 ≤ key ∧ key < 2147483648)) (nm : Nat) (hm : Y 0 5 = nm) (hnm : nm ≤ 6) (hk0 : 0 ≤ key ∧ key < 1000) (hB : ∀ e, e ∈ B → gOR e) : gXs w l yX5_whereAnew cX5_whereAnew 3 (some .int) 0 0 [.ref 1, .int (iI key)] Y s A B (some (.int (iI (ywh key (if Y 0 5 = 0 then -1 else 0) B)))) (Y) s A B := by
  refine gXs_start (by decide +kernel) (by simp [Value.category]) (Nat.le_of_ble_eq_true rfl) (fun m Wp h C H F => ?_)
  obtain ⟨h0, hh0⟩ : ∃ h0, h0 = h := ⟨_, rfl⟩
  rw [← hh0] at C
  have F : FrX h0 h := by rw [hh0]; exact F
  have L : ∀ (h : gH), RX Y s A B h → FrX h0 h → ∀ (B' : List gOE) (o : Option Nat), gchB h o B' → (∀ e, e ∈ B' → gOR e) → ywh key (if Y 0 5 = 0 then -1 else 0) B' = ywh key (if Y 0 5 = 0 then -1 else 0) B → gG w m 3 Wp h 0 0 [some (.ref 1), some (.int (iI key)), some (va_rf o)] [] 23 := by
    intro h H F B'
    induction B' with
    | nil =>
      intro o h1 h2 h3
      have e : o = none := h1
      subst e
      refine g_aload_nN C 2 dX5_whereAnew_23 rfl rfl ?_
      refine g_ifnullN C 56 dX5_whereAnew_24 (by decide) ?_
      refine g_aload_n C 0 dX5_whereAnew_56 rfl rfl ?_
      refine x_gmain C H (fX5_56 rfl) rfl (Y 0 5) rfl dX5_whereAnew_57 ?_
      refine g_if_ne C 67 dX5_whereAnew_60 (by decide) (by omega) (fun c60 => ?_) (fun c60 => ?_)
      · refine g_iconst C dX5_whereAnew_67 ?_
        exact g_iret C dX5_whereAnew_68 (by omega) (by omega) ⟨by rw [← h3, ywh]; first | rw [if_pos c60] | rw [if_neg c60], H, F⟩
      · refine g_iconst C dX5_whereAnew_63 ?_
        refine g_goto C 68 dX5_whereAnew_64 (by decide) ?_
        exact g_iret C dX5_whereAnew_68 (by omega) (by omega) ⟨by rw [← h3, ywh]; first | rw [if_pos c60] | rw [if_neg c60], H, F⟩
    | cons e r ih =>
      intro o h1 h2 h3
      obtain ⟨c, rfl, -, -, kc, i0, i1, i2, h1⟩ := h1
      obtain ⟨r1, r2⟩ := h2 e (List.mem_cons_self ..)
      have K48 : ¬ (e.1 ≤ key ∧ key ≤ e.2.1) → gG w m 3 Wp h 0 0 [some (.ref 1), some (.int (iI key)), some (.ref c)] [] 48 := by
        intro hn9
        refine g_aload_n C 2 dX5_whereAnew_48 rfl rfl ?_
        refine g_geto C (fX5_243 rfl) rfl kc _ rfl dX5_whereAnew_49 ?_
        refine s_astore_no (lo' := [_, _, _]) C 2 dX5_whereAnew_52 rfl (by decide) rfl ?_
        refine g_goto C 23 dX5_whereAnew_53 (by decide) ?_
        exact ih _ h1 (fun x hx => h2 x (List.mem_cons_of_mem _ hx)) (by rw [← h3, ywh, if_neg hn9])
      refine g_aload_n C 2 dX5_whereAnew_23 rfl rfl ?_
      refine g_ifnull C dX5_whereAnew_24 ?_
      refine g_aload_n C 2 dX5_whereAnew_27 rfl rfl ?_
      refine g_geti C (fX5_236 rfl) rfl kc dX5_whereAnew_28 ?_
      rw [i0]
      refine g_iload_n C 1 dX5_whereAnew_31 rfl rfl ?_
      refine g_icmp_gt C 48 dX5_whereAnew_32 (by decide) (by omega) (by omega) (fun c32 => K48 (by omega)) (fun c32 => ?_)
      refine g_iload_n C 1 dX5_whereAnew_35 rfl rfl ?_
      refine g_aload_n C 2 dX5_whereAnew_36 rfl rfl ?_
      refine g_geti C (fX5_239 rfl) rfl kc dX5_whereAnew_37 ?_
      rw [i1]
      refine g_icmp_gt C 48 dX5_whereAnew_40 (by decide) (by omega) (by omega) (fun c40 => K48 (by omega)) (fun c40 => ?_)
      refine g_aload_n C 2 dX5_whereAnew_43 rfl rfl ?_
      refine g_geti C (fX5_240 rfl) rfl kc dX5_whereAnew_44 ?_
      rw [i2]
      exact g_iret C dX5_whereAnew_47 (by omega) (by omega) ⟨by rw [← h3, ywh, if_pos (by omega)], H, F⟩
  show gG w m 3 Wp h 0 0 [some (.ref 1), some (.int (iI key)), none] [] 0
  refine g_aload_n C 0 dX5_whereAnew_0 rfl rfl ?_
  refine g_iload_n C 1 dX5_whereAnew_1 rfl rfl ?_
  refine x_call C H F [_] _ (kX5_104 rfl) (e5_isKey_t key hkey (by omega)) rfl rfl H.2.1.1 (by decide) (by omega) (by omega) (Nat.le_of_ble_eq_true rfl) dX5_whereAnew_2 (fun h H F => ?_)
  refine g_if_ne C 18 dX5_whereAnew_5 (by decide) (by omega) (fun c5 => ?_) (fun c5 => ?_)
  · refine g_aload_n C 0 dX5_whereAnew_18 rfl rfl ?_
    refine g_geto C (fX5_232 rfl) rfl H.2.1.1 _ rfl dX5_whereAnew_19 ?_
    refine s_astore_no (lo' := [_, _, _]) C 2 dX5_whereAnew_22 rfl (by decide) rfl ?_
    exact L _ H F B _ H.2.2.2.2.2 hB rfl
  · omega

end XI
