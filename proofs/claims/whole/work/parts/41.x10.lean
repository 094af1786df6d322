/-! THE CLASS: its constructor, walked (rows laid by wip/whole/gen/x10.py) -/
section XK
variable {w : gW} {l : Launch}

set_option maxRecDepth 100000 in
set_option maxHeartbeats 4000000 in
theorem e2_init {h : gH} {c : Nat} (v : Int) (hK : gK h c = (2, 4)) : gCt w l yX2_init cX2_init 2 none 1 0 0 [.ref c, .int (iI v)] h (fun q h' => q = none ∧ h' = gputI h c 0 v) := by
  refine gCt.of (gStart (by decide +kernel) (by simp [Value.category]) (Nat.le_of_ble_eq_true rfl) (fun m Wp C => ?_))
  show gG w m 2 Wp h 0 0 [some (.ref c), some (.int (iI v))] [] 0
  refine g_aload_n C 0 dX2_init_0 rfl rfl ?_
  refine g_objInit C (koX2 rfl) (by decide) (Nat.le_of_ble_eq_true rfl) dX2_init_1 ?_
  refine g_aload_n C 0 dX2_init_4 rfl rfl ?_
  refine g_iload_n C 1 dX2_init_5 rfl rfl ?_
  refine g_puti C (fX2_7 rfl) rfl (fiX2_7 rfl rfl) hK dX2_init_6 ?_
  exact g_vret C dX2_init_9 (Nat.le_refl _) (Nat.le_refl _) ⟨rfl, rfl⟩

set_option maxRecDepth 100000 in
set_option maxHeartbeats 4000000 in
theorem e4_init {h : gH} {c : Nat} (hK : gK h c = (4, 3)) : gCt w l yX4_init cX4_init 1 none 1 0 0 [.ref c] h (fun q h' => q = none ∧ h' = gputI h c 1 1000) := by
  refine gCt.of (gStart (by decide +kernel) (by simp [Value.category]) (Nat.le_of_ble_eq_true rfl) (fun m Wp C => ?_))
  show gG w m 1 Wp h 0 0 [some (.ref c)] [] 0
  refine g_aload_n C 0 dX4_init_0 rfl rfl ?_
  refine g_objInit C (koX4 rfl) (by decide) (Nat.le_of_ble_eq_true rfl) dX4_init_1 ?_
  refine g_aload_n C 0 dX4_init_4 rfl rfl ?_
  refine g_sipush C dX4_init_5 (by decide) ?_
  refine g_puti C (fX4_9 rfl) rfl (Or.inl rfl) hK dX4_init_8 ?_
  exact g_vret C dX4_init_11 (Nat.le_refl _) (Nat.le_refl _) ⟨rfl, rfl⟩

set_option maxRecDepth 100000 in
set_option maxHeartbeats 4000000 in
theorem e3_init {h : gH} {c : Nat} (z : Nat) (hK : gK h c = (3, 9)) : gCt w l yX3_init cX3_init 2 none 1 0 0 [.ref c, .ref z] h (fun q h' => q = none ∧ h' = gputR (gputR (gputI h c 1 999) c 2 (some z)) c 3 (some z)) := by
  refine gCt.of (gStart (by decide +kernel) (by simp [Value.category]) (Nat.le_of_ble_eq_true rfl) (fun m Wp C => ?_))
  show gG w m 2 Wp h 0 0 [some (.ref c), some (.ref z)] [] 0
  refine g_aload_n C 0 dX3_init_0 rfl rfl ?_
  refine g_objInit C (koX3 rfl) (by decide) (Nat.le_of_ble_eq_true rfl) dX3_init_1 ?_
  refine g_aload_n C 0 dX3_init_4 rfl rfl ?_
  refine g_sipush C dX3_init_5 (by decide) ?_
  refine g_puti C (fX3_9 rfl) rfl (Or.inl rfl) hK dX3_init_8 ?_
  refine g_aload_n C 0 dX3_init_11 rfl rfl ?_
  refine g_aload_n C 1 dX3_init_12 rfl rfl ?_
  refine g_putr C (fX3_15 rfl) rfl (Or.inl ⟨_, rfl⟩) (Or.inl rfl) hK dX3_init_13 ?_
  refine g_aload_n C 0 dX3_init_16 rfl rfl ?_
  refine g_aload_n C 1 dX3_init_17 rfl rfl ?_
  refine g_putr C (fX3_19 rfl) rfl (Or.inl ⟨_, rfl⟩) (Or.inl rfl) hK dX3_init_18 ?_
  exact g_vret C dX3_init_21 (Nat.le_refl _) (Nat.le_refl _) ⟨rfl, rfl⟩

end XK
