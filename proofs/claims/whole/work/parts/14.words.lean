/-! printed by wip/whole/gen/words.py: the links of the code, each with its words by their places in the tables -/
theorem gSub {ws : List Cond} (ps : List Nat) (hp : ws = ps.filterMap (fun i => lw_tbl[i]?)) (hg : ws.all goodWord = true) : ∀ x ∈ ws, x ∈ gTb := by
  intro x hx
  have h1 := List.all_eq_true.mp hg x hx
  rw [hp] at hx
  obtain ⟨i, -, hi⟩ := List.mem_filterMap.mp hx
  exact gIn i hi h1
theorem gcl0 : gCls 0 RX0 TX0 6 := ⟨rfl, gSub [426, 428, 430, 432, 434, 436] (by decide +kernel) (by decide +kernel), ⟨tyX0, tyX0_ok⟩, nmX0⟩
theorem gbn0 : gBorn 0 6 := ⟨RX0, TX0, tyX0, gcl0, tyX0_ok, by decide +kernel⟩
theorem gcl1 : gCls 1 RX1 TX1 4 := ⟨rfl, gSub [567, 569, 571, 573] (by decide +kernel) (by decide +kernel), ⟨tyX1, tyX1_ok⟩, nmX1⟩
theorem gbn1 : gBorn 1 4 := ⟨RX1, TX1, tyX1, gcl1, tyX1_ok, by decide +kernel⟩
theorem gcl2 : gCls 2 RX2 TX2 4 := ⟨rfl, gSub [88, 90, 92, 94] (by decide +kernel) (by decide +kernel), ⟨tyX2, tyX2_ok⟩, nmX2⟩
theorem gbn2 : gBorn 2 4 := ⟨RX2, TX2, tyX2, gcl2, tyX2_ok, by decide +kernel⟩
theorem gcl3 : gCls 3 RX3 TX3 9 := ⟨rfl, gSub [140, 142, 144, 146, 148, 150, 152, 154, 156] (by decide +kernel) (by decide +kernel), ⟨tyX3, tyX3_ok⟩, nmX3⟩
theorem gbn3 : gBorn 3 9 := ⟨RX3, TX3, tyX3, gcl3, tyX3_ok, by decide +kernel⟩
theorem gcl4 : gCls 4 RX4 TX4 3 := ⟨rfl, gSub [108, 110, 112] (by decide +kernel) (by decide +kernel), ⟨tyX4, tyX4_ok⟩, nmX4⟩
theorem gbn4 : gBorn 4 3 := ⟨RX4, TX4, tyX4, gcl4, tyX4_ok, by decide +kernel⟩
theorem gcl5 : gCls 5 RX5 TX5 15 := ⟨rfl, gSub [174, 176, 178, 180, 182, 184, 186, 188, 190, 192, 194, 196, 198, 200, 202] (by decide +kernel) (by decide +kernel), ⟨tyX5, tyX5_ok⟩, nmX5⟩
theorem gbn5 : gBorn 5 15 := ⟨RX5, TX5, tyX5, gcl5, tyX5_ok, by decide +kernel⟩
theorem gcl6 : gCls 6 RX6 TX6 20 := ⟨rfl, gSub [677, 679, 681, 683, 685, 687, 689, 691, 693, 695, 697, 699, 701, 703, 705, 707, 709, 711, 713, 715] (by decide +kernel) (by decide +kernel), ⟨tyX6, tyX6_ok⟩, nmX6⟩
theorem gbn6 : gBorn 6 20 := ⟨RX6, TX6, tyX6, gcl6, tyX6_ok, by decide +kernel⟩
theorem wd_79 : Cond.fieldLink RX2 7 (TX2 0).1 (TX2 0).2.1 (TX2 0).2.2.1 ∈ gTb := gIn 79 (by decide +kernel) (by decide +kernel)
theorem fX2_7 {y : MethodName} (hy : y.cls = RX2) : gF y 7 2 4 0 .int true := ⟨RX2, TX2, gcl2, by decide, Or.inl (by rw [hy]; exact wd_79), by decide +kernel, by decide +kernel⟩
theorem fiX2_7 {y : MethodName} (hy : y.cls = RX2) (hn : y.name = "<init>") : true = false ∨ (y.name = "<init>" ∧ ∃ C0 T0, vwCl[2]? = some (C0, T0, 4) ∧ (T0 0).1 = y.cls ∧ Cond.fieldLink y.cls 7 (T0 0).1 (T0 0).2.1 (T0 0).2.2.1 ∈ gTb) := Or.inr ⟨hn, RX2, TX2, rfl, by rw [hy]; decide +kernel, by rw [hy]; exact wd_79⟩
theorem wd_80 : Cond.fieldLinkNest RX3 22 (TX2 0).1 (TX2 0).2.1 (TX2 0).2.2.1 "ShardHarbour" ∈ gNs := gInN 80 (by decide +kernel) (by decide +kernel)
theorem fX3_22 {y : MethodName} (hy : y.cls = RX3) : gF y 22 2 4 0 .int true := ⟨RX2, TX2, gcl2, by decide, Or.inr ⟨"ShardHarbour", by rw [hy]; exact wd_80⟩, by decide +kernel, by decide +kernel⟩
theorem wd_81 : Cond.fieldLinkNest RX5 71 (TX2 0).1 (TX2 0).2.1 (TX2 0).2.2.1 "ShardHarbour" ∈ gNs := gInN 81 (by decide +kernel) (by decide +kernel)
theorem fX5_71 {y : MethodName} (hy : y.cls = RX5) : gF y 71 2 4 0 .int true := ⟨RX2, TX2, gcl2, by decide, Or.inr ⟨"ShardHarbour", by rw [hy]; exact wd_81⟩, by decide +kernel, by decide +kernel⟩
theorem wd_82 : Cond.fieldLink RX2 16 (TX2 1).1 (TX2 1).2.1 (TX2 1).2.2.1 ∈ gTb := gIn 82 (by decide +kernel) (by decide +kernel)
theorem fX2_16 {y : MethodName} (hy : y.cls = RX2) : gF y 16 2 4 1 .int false := ⟨RX2, TX2, gcl2, by decide, Or.inl (by rw [hy]; exact wd_82), by decide +kernel, by decide +kernel⟩
theorem wd_83 : Cond.fieldLinkNest RX5 64 (TX2 1).1 (TX2 1).2.1 (TX2 1).2.2.1 "ShardHarbour" ∈ gNs := gInN 83 (by decide +kernel) (by decide +kernel)
theorem fX5_64 {y : MethodName} (hy : y.cls = RX5) : gF y 64 2 4 1 .int false := ⟨RX2, TX2, gcl2, by decide, Or.inr ⟨"ShardHarbour", by rw [hy]; exact wd_83⟩, by decide +kernel, by decide +kernel⟩
theorem wd_84 : Cond.fieldLinkNest RX5 67 (TX2 2).1 (TX2 2).2.1 (TX2 2).2.2.1 "ShardHarbour" ∈ gNs := gInN 84 (by decide +kernel) (by decide +kernel)
theorem fX5_67 {y : MethodName} (hy : y.cls = RX5) : gF y 67 2 4 2 .boolean false := ⟨RX2, TX2, gcl2, by decide, Or.inr ⟨"ShardHarbour", by rw [hy]; exact wd_84⟩, by decide +kernel, by decide +kernel⟩
theorem wd_85 : Cond.fieldLink RX2 13 (TX2 3).1 (TX2 3).2.1 (TX2 3).2.2.1 ∈ gTb := gIn 85 (by decide +kernel) (by decide +kernel)
theorem fX2_13 {y : MethodName} (hy : y.cls = RX2) : gF y 13 2 4 3 .int false := ⟨RX2, TX2, gcl2, by decide, Or.inl (by rw [hy]; exact wd_85), by decide +kernel, by decide +kernel⟩
theorem wd_86 : Cond.fieldLinkNest RX3 43 (TX2 3).1 (TX2 3).2.1 (TX2 3).2.2.1 "ShardHarbour" ∈ gNs := gInN 86 (by decide +kernel) (by decide +kernel)
theorem fX3_43 {y : MethodName} (hy : y.cls = RX3) : gF y 43 2 4 3 .int false := ⟨RX2, TX2, gcl2, by decide, Or.inr ⟨"ShardHarbour", by rw [hy]; exact wd_86⟩, by decide +kernel, by decide +kernel⟩
theorem wd_87 : Cond.fieldLinkNest RX5 206 (TX2 3).1 (TX2 3).2.1 (TX2 3).2.2.1 "ShardHarbour" ∈ gNs := gInN 87 (by decide +kernel) (by decide +kernel)
theorem fX5_206 {y : MethodName} (hy : y.cls = RX5) : gF y 206 2 4 3 .int false := ⟨RX2, TX2, gcl2, by decide, Or.inr ⟨"ShardHarbour", by rw [hy]; exact wd_87⟩, by decide +kernel, by decide +kernel⟩
theorem wd_104 : Cond.fieldLinkNest RX5 133 (TX4 0).1 (TX4 0).2.1 (TX4 0).2.2.1 "ShardHarbour" ∈ gNs := gInN 104 (by decide +kernel) (by decide +kernel)
theorem fX5_133 {y : MethodName} (hy : y.cls = RX5) : gF y 133 4 3 0 .int false := ⟨RX4, TX4, gcl4, by decide, Or.inr ⟨"ShardHarbour", by rw [hy]; exact wd_104⟩, by decide +kernel, by decide +kernel⟩
theorem wd_105 : Cond.fieldLink RX4 9 (TX4 1).1 (TX4 1).2.1 (TX4 1).2.2.1 ∈ gTb := gIn 105 (by decide +kernel) (by decide +kernel)
theorem fX4_9 {y : MethodName} (hy : y.cls = RX4) : gF y 9 4 3 1 .int false := ⟨RX4, TX4, gcl4, by decide, Or.inl (by rw [hy]; exact wd_105), by decide +kernel, by decide +kernel⟩
theorem wd_106 : Cond.fieldLinkNest RX5 96 (TX4 1).1 (TX4 1).2.1 (TX4 1).2.2.1 "ShardHarbour" ∈ gNs := gInN 106 (by decide +kernel) (by decide +kernel)
theorem fX5_96 {y : MethodName} (hy : y.cls = RX5) : gF y 96 4 3 1 .int false := ⟨RX4, TX4, gcl4, by decide, Or.inr ⟨"ShardHarbour", by rw [hy]; exact wd_106⟩, by decide +kernel, by decide +kernel⟩
theorem wd_107 : Cond.fieldLinkNest RX5 216 (TX4 2).1 (TX4 2).2.1 (TX4 2).2.2.1 "ShardHarbour" ∈ gNs := gInN 107 (by decide +kernel) (by decide +kernel)
theorem fX5_216 {y : MethodName} (hy : y.cls = RX5) : gF y 216 4 3 2 .int false := ⟨RX4, TX4, gcl4, by decide, Or.inr ⟨"ShardHarbour", by rw [hy]; exact wd_107⟩, by decide +kernel, by decide +kernel⟩
theorem wd_124 : Cond.fieldLink RX3 34 (TX3 0).1 (TX3 0).2.1 (TX3 0).2.2.1 ∈ gTb := gIn 124 (by decide +kernel) (by decide +kernel)
theorem fX3_34 {y : MethodName} (hy : y.cls = RX3) : gF y 34 3 9 0 .int false := ⟨RX3, TX3, gcl3, by decide, Or.inl (by rw [hy]; exact wd_124), by decide +kernel, by decide +kernel⟩
theorem wd_125 : Cond.fieldLinkNest RX5 147 (TX3 0).1 (TX3 0).2.1 (TX3 0).2.2.1 "ShardHarbour" ∈ gNs := gInN 125 (by decide +kernel) (by decide +kernel)
theorem fX5_147 {y : MethodName} (hy : y.cls = RX5) : gF y 147 3 9 0 .int false := ⟨RX3, TX3, gcl3, by decide, Or.inr ⟨"ShardHarbour", by rw [hy]; exact wd_125⟩, by decide +kernel, by decide +kernel⟩
theorem wd_126 : Cond.fieldLink RX3 9 (TX3 1).1 (TX3 1).2.1 (TX3 1).2.2.1 ∈ gTb := gIn 126 (by decide +kernel) (by decide +kernel)
theorem fX3_9 {y : MethodName} (hy : y.cls = RX3) : gF y 9 3 9 1 .int false := ⟨RX3, TX3, gcl3, by decide, Or.inl (by rw [hy]; exact wd_126), by decide +kernel, by decide +kernel⟩
theorem wd_127 : Cond.fieldLinkNest RX5 171 (TX3 1).1 (TX3 1).2.1 (TX3 1).2.2.1 "ShardHarbour" ∈ gNs := gInN 127 (by decide +kernel) (by decide +kernel)
theorem fX5_171 {y : MethodName} (hy : y.cls = RX5) : gF y 171 3 9 1 .int false := ⟨RX3, TX3, gcl3, by decide, Or.inr ⟨"ShardHarbour", by rw [hy]; exact wd_127⟩, by decide +kernel, by decide +kernel⟩
theorem wd_128 : Cond.fieldLink RX3 15 (TX3 2).1 (TX3 2).2.1 (TX3 2).2.2.1 ∈ gTb := gIn 128 (by decide +kernel) (by decide +kernel)
theorem fX3_15 {y : MethodName} (hy : y.cls = RX3) : gF y 15 3 9 2 (.object "ShardHarbour$Machine") false := ⟨RX3, TX3, gcl3, by decide, Or.inl (by rw [hy]; exact wd_128), by decide +kernel, by decide +kernel⟩
theorem wd_129 : Cond.fieldLinkNest RX5 117 (TX3 2).1 (TX3 2).2.1 (TX3 2).2.2.1 "ShardHarbour" ∈ gNs := gInN 129 (by decide +kernel) (by decide +kernel)
theorem fX5_117 {y : MethodName} (hy : y.cls = RX5) : gF y 117 3 9 2 (.object "ShardHarbour$Machine") false := ⟨RX3, TX3, gcl3, by decide, Or.inr ⟨"ShardHarbour", by rw [hy]; exact wd_129⟩, by decide +kernel, by decide +kernel⟩
theorem wd_130 : Cond.fieldLink RX3 19 (TX3 3).1 (TX3 3).2.1 (TX3 3).2.2.1 ∈ gTb := gIn 130 (by decide +kernel) (by decide +kernel)
theorem fX3_19 {y : MethodName} (hy : y.cls = RX3) : gF y 19 3 9 3 (.object "ShardHarbour$Machine") false := ⟨RX3, TX3, gcl3, by decide, Or.inl (by rw [hy]; exact wd_130), by decide +kernel, by decide +kernel⟩
theorem wd_131 : Cond.fieldLinkNest RX5 201 (TX3 3).1 (TX3 3).2.1 (TX3 3).2.2.1 "ShardHarbour" ∈ gNs := gInN 131 (by decide +kernel) (by decide +kernel)
theorem fX5_201 {y : MethodName} (hy : y.cls = RX5) : gF y 201 3 9 3 (.object "ShardHarbour$Machine") false := ⟨RX3, TX3, gcl3, by decide, Or.inr ⟨"ShardHarbour", by rw [hy]; exact wd_131⟩, by decide +kernel, by decide +kernel⟩
theorem wd_132 : Cond.fieldLink RX3 31 (TX3 4).1 (TX3 4).2.1 (TX3 4).2.2.1 ∈ gTb := gIn 132 (by decide +kernel) (by decide +kernel)
theorem fX3_31 {y : MethodName} (hy : y.cls = RX3) : gF y 31 3 9 4 .int false := ⟨RX3, TX3, gcl3, by decide, Or.inl (by rw [hy]; exact wd_132), by decide +kernel, by decide +kernel⟩
theorem wd_133 : Cond.fieldLinkNest RX5 284 (TX3 4).1 (TX3 4).2.1 (TX3 4).2.2.1 "ShardHarbour" ∈ gNs := gInN 133 (by decide +kernel) (by decide +kernel)
theorem fX5_284 {y : MethodName} (hy : y.cls = RX5) : gF y 284 3 9 4 .int false := ⟨RX3, TX3, gcl3, by decide, Or.inr ⟨"ShardHarbour", by rw [hy]; exact wd_133⟩, by decide +kernel, by decide +kernel⟩
theorem wd_134 : Cond.fieldLink RX3 37 (TX3 5).1 (TX3 5).2.1 (TX3 5).2.2.1 ∈ gTb := gIn 134 (by decide +kernel) (by decide +kernel)
theorem fX3_37 {y : MethodName} (hy : y.cls = RX3) : gF y 37 3 9 5 .int false := ⟨RX3, TX3, gcl3, by decide, Or.inl (by rw [hy]; exact wd_134), by decide +kernel, by decide +kernel⟩
theorem wd_135 : Cond.fieldLinkNest RX5 281 (TX3 5).1 (TX3 5).2.1 (TX3 5).2.2.1 "ShardHarbour" ∈ gNs := gInN 135 (by decide +kernel) (by decide +kernel)
theorem fX5_281 {y : MethodName} (hy : y.cls = RX5) : gF y 281 3 9 5 .int false := ⟨RX3, TX3, gcl3, by decide, Or.inr ⟨"ShardHarbour", by rw [hy]; exact wd_135⟩, by decide +kernel, by decide +kernel⟩
theorem wd_136 : Cond.fieldLink RX3 40 (TX3 6).1 (TX3 6).2.1 (TX3 6).2.2.1 ∈ gTb := gIn 136 (by decide +kernel) (by decide +kernel)
theorem fX3_40 {y : MethodName} (hy : y.cls = RX3) : gF y 40 3 9 6 .int false := ⟨RX3, TX3, gcl3, by decide, Or.inl (by rw [hy]; exact wd_136), by decide +kernel, by decide +kernel⟩
theorem wd_137 : Cond.fieldLinkNest RX5 184 (TX3 6).1 (TX3 6).2.1 (TX3 6).2.2.1 "ShardHarbour" ∈ gNs := gInN 137 (by decide +kernel) (by decide +kernel)
theorem fX5_184 {y : MethodName} (hy : y.cls = RX5) : gF y 184 3 9 6 .int false := ⟨RX3, TX3, gcl3, by decide, Or.inr ⟨"ShardHarbour", by rw [hy]; exact wd_137⟩, by decide +kernel, by decide +kernel⟩
theorem wd_138 : Cond.fieldLinkNest RX5 174 (TX3 7).1 (TX3 7).2.1 (TX3 7).2.2.1 "ShardHarbour" ∈ gNs := gInN 138 (by decide +kernel) (by decide +kernel)
theorem fX5_174 {y : MethodName} (hy : y.cls = RX5) : gF y 174 3 9 7 .int false := ⟨RX3, TX3, gcl3, by decide, Or.inr ⟨"ShardHarbour", by rw [hy]; exact wd_138⟩, by decide +kernel, by decide +kernel⟩
theorem wd_139 : Cond.fieldLinkNest RX5 142 (TX3 8).1 (TX3 8).2.1 (TX3 8).2.2.1 "ShardHarbour" ∈ gNs := gInN 139 (by decide +kernel) (by decide +kernel)
theorem fX5_142 {y : MethodName} (hy : y.cls = RX5) : gF y 142 3 9 8 .int false := ⟨RX3, TX3, gcl3, by decide, Or.inr ⟨"ShardHarbour", by rw [hy]; exact wd_139⟩, by decide +kernel, by decide +kernel⟩
theorem wd_159 : Cond.fieldLink RX5 14 (TX5 0).1 (TX5 0).2.1 (TX5 0).2.2.1 ∈ gTb := gIn 159 (by decide +kernel) (by decide +kernel)
theorem fX5_14 {y : MethodName} (hy : y.cls = RX5) : gF y 14 5 15 0 (.object "ShardHarbour$Machine") true := ⟨RX5, TX5, gcl5, by decide, Or.inl (by rw [hy]; exact wd_159), by decide +kernel, by decide +kernel⟩
theorem fiX5_14 {y : MethodName} (hy : y.cls = RX5) (hn : y.name = "<init>") : true = false ∨ (y.name = "<init>" ∧ ∃ C0 T0, vwCl[5]? = some (C0, T0, 15) ∧ (T0 0).1 = y.cls ∧ Cond.fieldLink y.cls 14 (T0 0).1 (T0 0).2.1 (T0 0).2.2.1 ∈ gTb) := Or.inr ⟨hn, RX5, TX5, rfl, by rw [hy]; decide +kernel, by rw [hy]; exact wd_159⟩
theorem wd_160 : Cond.fieldLink RX5 18 (TX5 1).1 (TX5 1).2.1 (TX5 1).2.2.1 ∈ gTb := gIn 160 (by decide +kernel) (by decide +kernel)
theorem fX5_18 {y : MethodName} (hy : y.cls = RX5) : gF y 18 5 15 1 (.array .int) true := ⟨RX5, TX5, gcl5, by decide, Or.inl (by rw [hy]; exact wd_160), by decide +kernel, by decide +kernel⟩
theorem fiX5_18 {y : MethodName} (hy : y.cls = RX5) (hn : y.name = "<init>") : true = false ∨ (y.name = "<init>" ∧ ∃ C0 T0, vwCl[5]? = some (C0, T0, 15) ∧ (T0 1).1 = y.cls ∧ Cond.fieldLink y.cls 18 (T0 1).1 (T0 1).2.1 (T0 1).2.2.1 ∈ gTb) := Or.inr ⟨hn, RX5, TX5, rfl, by rw [hy]; decide +kernel, by rw [hy]; exact wd_160⟩
theorem wd_161 : Cond.fieldLink RX5 22 (TX5 2).1 (TX5 2).2.1 (TX5 2).2.2.1 ∈ gTb := gIn 161 (by decide +kernel) (by decide +kernel)
theorem fX5_22 {y : MethodName} (hy : y.cls = RX5) : gF y 22 5 15 2 (.array .int) true := ⟨RX5, TX5, gcl5, by decide, Or.inl (by rw [hy]; exact wd_161), by decide +kernel, by decide +kernel⟩
theorem fiX5_22 {y : MethodName} (hy : y.cls = RX5) (hn : y.name = "<init>") : true = false ∨ (y.name = "<init>" ∧ ∃ C0 T0, vwCl[5]? = some (C0, T0, 15) ∧ (T0 2).1 = y.cls ∧ Cond.fieldLink y.cls 22 (T0 2).1 (T0 2).2.1 (T0 2).2.2.1 ∈ gTb) := Or.inr ⟨hn, RX5, TX5, rfl, by rw [hy]; decide +kernel, by rw [hy]; exact wd_161⟩
theorem wd_162 : Cond.fieldLink RX5 27 (TX5 3).1 (TX5 3).2.1 (TX5 3).2.2.1 ∈ gTb := gIn 162 (by decide +kernel) (by decide +kernel)
theorem fX5_27 {y : MethodName} (hy : y.cls = RX5) : gF y 27 5 15 3 (.array (.object "ShardHarbour$Tenant")) true := ⟨RX5, TX5, gcl5, by decide, Or.inl (by rw [hy]; exact wd_162), by decide +kernel, by decide +kernel⟩
theorem fiX5_27 {y : MethodName} (hy : y.cls = RX5) (hn : y.name = "<init>") : true = false ∨ (y.name = "<init>" ∧ ∃ C0 T0, vwCl[5]? = some (C0, T0, 15) ∧ (T0 3).1 = y.cls ∧ Cond.fieldLink y.cls 27 (T0 3).1 (T0 3).2.1 (T0 3).2.2.1 ∈ gTb) := Or.inr ⟨hn, RX5, TX5, rfl, by rw [hy]; decide +kernel, by rw [hy]; exact wd_162⟩
theorem wd_163 : Cond.fieldLink RX5 32 (TX5 4).1 (TX5 4).2.1 (TX5 4).2.2.1 ∈ gTb := gIn 163 (by decide +kernel) (by decide +kernel)
theorem fX5_32 {y : MethodName} (hy : y.cls = RX5) : gF y 32 5 15 4 (.array (.object "ShardHarbour$Machine")) true := ⟨RX5, TX5, gcl5, by decide, Or.inl (by rw [hy]; exact wd_163), by decide +kernel, by decide +kernel⟩
theorem fiX5_32 {y : MethodName} (hy : y.cls = RX5) (hn : y.name = "<init>") : true = false ∨ (y.name = "<init>" ∧ ∃ C0 T0, vwCl[5]? = some (C0, T0, 15) ∧ (T0 4).1 = y.cls ∧ Cond.fieldLink y.cls 32 (T0 4).1 (T0 4).2.1 (T0 4).2.2.1 ∈ gTb) := Or.inr ⟨hn, RX5, TX5, rfl, by rw [hy]; decide +kernel, by rw [hy]; exact wd_163⟩
theorem wd_164 : Cond.fieldLink RX5 56 (TX5 5).1 (TX5 5).2.1 (TX5 5).2.2.1 ∈ gTb := gIn 164 (by decide +kernel) (by decide +kernel)
theorem fX5_56 {y : MethodName} (hy : y.cls = RX5) : gF y 56 5 15 5 .int false := ⟨RX5, TX5, gcl5, by decide, Or.inl (by rw [hy]; exact wd_164), by decide +kernel, by decide +kernel⟩
theorem wd_165 : Cond.fieldLink RX5 38 (TX5 6).1 (TX5 6).2.1 (TX5 6).2.2.1 ∈ gTb := gIn 165 (by decide +kernel) (by decide +kernel)
theorem fX5_38 {y : MethodName} (hy : y.cls = RX5) : gF y 38 5 15 6 (.array (.object "ShardHarbour$Shard")) true := ⟨RX5, TX5, gcl5, by decide, Or.inl (by rw [hy]; exact wd_165), by decide +kernel, by decide +kernel⟩
theorem fiX5_38 {y : MethodName} (hy : y.cls = RX5) (hn : y.name = "<init>") : true = false ∨ (y.name = "<init>" ∧ ∃ C0 T0, vwCl[5]? = some (C0, T0, 15) ∧ (T0 6).1 = y.cls ∧ Cond.fieldLink y.cls 38 (T0 6).1 (T0 6).2.1 (T0 6).2.2.1 ∈ gTb) := Or.inr ⟨hn, RX5, TX5, rfl, by rw [hy]; decide +kernel, by rw [hy]; exact wd_165⟩
theorem wd_166 : Cond.fieldLink RX5 45 (TX5 7).1 (TX5 7).2.1 (TX5 7).2.2.1 ∈ gTb := gIn 166 (by decide +kernel) (by decide +kernel)
theorem fX5_45 {y : MethodName} (hy : y.cls = RX5) : gF y 45 5 15 7 .int false := ⟨RX5, TX5, gcl5, by decide, Or.inl (by rw [hy]; exact wd_166), by decide +kernel, by decide +kernel⟩
theorem wd_167 : Cond.fieldLink RX5 193 (TX5 8).1 (TX5 8).2.1 (TX5 8).2.2.1 ∈ gTb := gIn 167 (by decide +kernel) (by decide +kernel)
theorem fX5_193 {y : MethodName} (hy : y.cls = RX5) : gF y 193 5 15 8 .int false := ⟨RX5, TX5, gcl5, by decide, Or.inl (by rw [hy]; exact wd_167), by decide +kernel, by decide +kernel⟩
theorem wd_168 : Cond.fieldLink RX5 101 (TX5 9).1 (TX5 9).2.1 (TX5 9).2.2.1 ∈ gTb := gIn 168 (by decide +kernel) (by decide +kernel)
theorem fX5_101 {y : MethodName} (hy : y.cls = RX5) : gF y 101 5 15 9 .int false := ⟨RX5, TX5, gcl5, by decide, Or.inl (by rw [hy]; exact wd_168), by decide +kernel, by decide +kernel⟩
theorem wd_169 : Cond.fieldLink RX5 245 (TX5 10).1 (TX5 10).2.1 (TX5 10).2.2.1 ∈ gTb := gIn 169 (by decide +kernel) (by decide +kernel)
theorem fX5_245 {y : MethodName} (hy : y.cls = RX5) : gF y 245 5 15 10 .int false := ⟨RX5, TX5, gcl5, by decide, Or.inl (by rw [hy]; exact wd_169), by decide +kernel, by decide +kernel⟩
theorem wd_170 : Cond.fieldLink RX5 248 (TX5 11).1 (TX5 11).2.1 (TX5 11).2.2.1 ∈ gTb := gIn 170 (by decide +kernel) (by decide +kernel)
theorem fX5_248 {y : MethodName} (hy : y.cls = RX5) : gF y 248 5 15 11 .int false := ⟨RX5, TX5, gcl5, by decide, Or.inl (by rw [hy]; exact wd_170), by decide +kernel, by decide +kernel⟩
theorem wd_171 : Cond.fieldLink RX5 219 (TX5 12).1 (TX5 12).2.1 (TX5 12).2.2.1 ∈ gTb := gIn 171 (by decide +kernel) (by decide +kernel)
theorem fX5_219 {y : MethodName} (hy : y.cls = RX5) : gF y 219 5 15 12 (.object "ShardHarbour$Change") false := ⟨RX5, TX5, gcl5, by decide, Or.inl (by rw [hy]; exact wd_171), by decide +kernel, by decide +kernel⟩
theorem wd_172 : Cond.fieldLink RX5 251 (TX5 13).1 (TX5 13).2.1 (TX5 13).2.2.1 ∈ gTb := gIn 172 (by decide +kernel) (by decide +kernel)
theorem fX5_251 {y : MethodName} (hy : y.cls = RX5) : gF y 251 5 15 13 .int false := ⟨RX5, TX5, gcl5, by decide, Or.inl (by rw [hy]; exact wd_172), by decide +kernel, by decide +kernel⟩
theorem wd_173 : Cond.fieldLink RX5 232 (TX5 14).1 (TX5 14).2.1 (TX5 14).2.2.1 ∈ gTb := gIn 173 (by decide +kernel) (by decide +kernel)
theorem fX5_232 {y : MethodName} (hy : y.cls = RX5) : gF y 232 5 15 14 (.object "ShardHarbour$CutOver") false := ⟨RX5, TX5, gcl5, by decide, Or.inl (by rw [hy]; exact wd_173), by decide +kernel, by decide +kernel⟩
theorem wd_418 : Cond.fieldLink RX0 7 (TX0 0).1 (TX0 0).2.1 (TX0 0).2.2.1 ∈ gTb := gIn 418 (by decide +kernel) (by decide +kernel)
theorem fX0_7 {y : MethodName} (hy : y.cls = RX0) : gF y 7 0 6 0 .int true := ⟨RX0, TX0, gcl0, by decide, Or.inl (by rw [hy]; exact wd_418), by decide +kernel, by decide +kernel⟩
theorem fiX0_7 {y : MethodName} (hy : y.cls = RX0) (hn : y.name = "<init>") : true = false ∨ (y.name = "<init>" ∧ ∃ C0 T0, vwCl[0]? = some (C0, T0, 6) ∧ (T0 0).1 = y.cls ∧ Cond.fieldLink y.cls 7 (T0 0).1 (T0 0).2.1 (T0 0).2.2.1 ∈ gTb) := Or.inr ⟨hn, RX0, TX0, rfl, by rw [hy]; decide +kernel, by rw [hy]; exact wd_418⟩
theorem wd_419 : Cond.fieldLinkNest RX5 228 (TX0 0).1 (TX0 0).2.1 (TX0 0).2.2.1 "ShardHarbour" ∈ gNs := gInN 419 (by decide +kernel) (by decide +kernel)
theorem fX5_228 {y : MethodName} (hy : y.cls = RX5) : gF y 228 0 6 0 .int true := ⟨RX0, TX0, gcl0, by decide, Or.inr ⟨"ShardHarbour", by rw [hy]; exact wd_419⟩, by decide +kernel, by decide +kernel⟩
theorem wd_420 : Cond.fieldLink RX0 13 (TX0 1).1 (TX0 1).2.1 (TX0 1).2.2.1 ∈ gTb := gIn 420 (by decide +kernel) (by decide +kernel)
theorem fX0_13 {y : MethodName} (hy : y.cls = RX0) : gF y 13 0 6 1 (.object "ShardHarbour$Change") true := ⟨RX0, TX0, gcl0, by decide, Or.inl (by rw [hy]; exact wd_420), by decide +kernel, by decide +kernel⟩
theorem fiX0_13 {y : MethodName} (hy : y.cls = RX0) (hn : y.name = "<init>") : true = false ∨ (y.name = "<init>" ∧ ∃ C0 T0, vwCl[0]? = some (C0, T0, 6) ∧ (T0 1).1 = y.cls ∧ Cond.fieldLink y.cls 13 (T0 1).1 (T0 1).2.1 (T0 1).2.2.1 ∈ gTb) := Or.inr ⟨hn, RX0, TX0, rfl, by rw [hy]; decide +kernel, by rw [hy]; exact wd_420⟩
theorem wd_421 : Cond.fieldLinkNest RX5 229 (TX0 1).1 (TX0 1).2.1 (TX0 1).2.2.1 "ShardHarbour" ∈ gNs := gInN 421 (by decide +kernel) (by decide +kernel)
theorem fX5_229 {y : MethodName} (hy : y.cls = RX5) : gF y 229 0 6 1 (.object "ShardHarbour$Change") true := ⟨RX0, TX0, gcl0, by decide, Or.inr ⟨"ShardHarbour", by rw [hy]; exact wd_421⟩, by decide +kernel, by decide +kernel⟩
theorem wd_422 : Cond.fieldLink RX0 17 (TX0 2).1 (TX0 2).2.1 (TX0 2).2.2.1 ∈ gTb := gIn 422 (by decide +kernel) (by decide +kernel)
theorem fX0_17 {y : MethodName} (hy : y.cls = RX0) : gF y 17 0 6 2 .int false := ⟨RX0, TX0, gcl0, by decide, Or.inl (by rw [hy]; exact wd_422), by decide +kernel, by decide +kernel⟩
theorem wd_423 : Cond.fieldLink RX0 20 (TX0 3).1 (TX0 3).2.1 (TX0 3).2.2.1 ∈ gTb := gIn 423 (by decide +kernel) (by decide +kernel)
theorem fX0_20 {y : MethodName} (hy : y.cls = RX0) : gF y 20 0 6 3 .int false := ⟨RX0, TX0, gcl0, by decide, Or.inl (by rw [hy]; exact wd_423), by decide +kernel, by decide +kernel⟩
theorem wd_424 : Cond.fieldLink RX0 23 (TX0 4).1 (TX0 4).2.1 (TX0 4).2.2.1 ∈ gTb := gIn 424 (by decide +kernel) (by decide +kernel)
theorem fX0_23 {y : MethodName} (hy : y.cls = RX0) : gF y 23 0 6 4 .int false := ⟨RX0, TX0, gcl0, by decide, Or.inl (by rw [hy]; exact wd_424), by decide +kernel, by decide +kernel⟩
theorem wd_425 : Cond.fieldLink RX0 26 (TX0 5).1 (TX0 5).2.1 (TX0 5).2.2.1 ∈ gTb := gIn 425 (by decide +kernel) (by decide +kernel)
theorem fX0_26 {y : MethodName} (hy : y.cls = RX0) : gF y 26 0 6 5 .int false := ⟨RX0, TX0, gcl0, by decide, Or.inl (by rw [hy]; exact wd_425), by decide +kernel, by decide +kernel⟩
theorem wd_559 : Cond.fieldLink RX1 7 (TX1 0).1 (TX1 0).2.1 (TX1 0).2.2.1 ∈ gTb := gIn 559 (by decide +kernel) (by decide +kernel)
theorem fX1_7 {y : MethodName} (hy : y.cls = RX1) : gF y 7 1 4 0 .int true := ⟨RX1, TX1, gcl1, by decide, Or.inl (by rw [hy]; exact wd_559), by decide +kernel, by decide +kernel⟩
theorem fiX1_7 {y : MethodName} (hy : y.cls = RX1) (hn : y.name = "<init>") : true = false ∨ (y.name = "<init>" ∧ ∃ C0 T0, vwCl[1]? = some (C0, T0, 4) ∧ (T0 0).1 = y.cls ∧ Cond.fieldLink y.cls 7 (T0 0).1 (T0 0).2.1 (T0 0).2.2.1 ∈ gTb) := Or.inr ⟨hn, RX1, TX1, rfl, by rw [hy]; decide +kernel, by rw [hy]; exact wd_559⟩
theorem wd_560 : Cond.fieldLinkNest RX5 236 (TX1 0).1 (TX1 0).2.1 (TX1 0).2.2.1 "ShardHarbour" ∈ gNs := gInN 560 (by decide +kernel) (by decide +kernel)
theorem fX5_236 {y : MethodName} (hy : y.cls = RX5) : gF y 236 1 4 0 .int true := ⟨RX1, TX1, gcl1, by decide, Or.inr ⟨"ShardHarbour", by rw [hy]; exact wd_560⟩, by decide +kernel, by decide +kernel⟩
theorem wd_561 : Cond.fieldLink RX1 13 (TX1 1).1 (TX1 1).2.1 (TX1 1).2.2.1 ∈ gTb := gIn 561 (by decide +kernel) (by decide +kernel)
theorem fX1_13 {y : MethodName} (hy : y.cls = RX1) : gF y 13 1 4 1 .int true := ⟨RX1, TX1, gcl1, by decide, Or.inl (by rw [hy]; exact wd_561), by decide +kernel, by decide +kernel⟩
theorem fiX1_13 {y : MethodName} (hy : y.cls = RX1) (hn : y.name = "<init>") : true = false ∨ (y.name = "<init>" ∧ ∃ C0 T0, vwCl[1]? = some (C0, T0, 4) ∧ (T0 1).1 = y.cls ∧ Cond.fieldLink y.cls 13 (T0 1).1 (T0 1).2.1 (T0 1).2.2.1 ∈ gTb) := Or.inr ⟨hn, RX1, TX1, rfl, by rw [hy]; decide +kernel, by rw [hy]; exact wd_561⟩
theorem wd_562 : Cond.fieldLinkNest RX5 239 (TX1 1).1 (TX1 1).2.1 (TX1 1).2.2.1 "ShardHarbour" ∈ gNs := gInN 562 (by decide +kernel) (by decide +kernel)
theorem fX5_239 {y : MethodName} (hy : y.cls = RX5) : gF y 239 1 4 1 .int true := ⟨RX1, TX1, gcl1, by decide, Or.inr ⟨"ShardHarbour", by rw [hy]; exact wd_562⟩, by decide +kernel, by decide +kernel⟩
theorem wd_563 : Cond.fieldLink RX1 16 (TX1 2).1 (TX1 2).2.1 (TX1 2).2.2.1 ∈ gTb := gIn 563 (by decide +kernel) (by decide +kernel)
theorem fX1_16 {y : MethodName} (hy : y.cls = RX1) : gF y 16 1 4 2 .int true := ⟨RX1, TX1, gcl1, by decide, Or.inl (by rw [hy]; exact wd_563), by decide +kernel, by decide +kernel⟩
theorem fiX1_16 {y : MethodName} (hy : y.cls = RX1) (hn : y.name = "<init>") : true = false ∨ (y.name = "<init>" ∧ ∃ C0 T0, vwCl[1]? = some (C0, T0, 4) ∧ (T0 2).1 = y.cls ∧ Cond.fieldLink y.cls 16 (T0 2).1 (T0 2).2.1 (T0 2).2.2.1 ∈ gTb) := Or.inr ⟨hn, RX1, TX1, rfl, by rw [hy]; decide +kernel, by rw [hy]; exact wd_563⟩
theorem wd_564 : Cond.fieldLinkNest RX5 240 (TX1 2).1 (TX1 2).2.1 (TX1 2).2.2.1 "ShardHarbour" ∈ gNs := gInN 564 (by decide +kernel) (by decide +kernel)
theorem fX5_240 {y : MethodName} (hy : y.cls = RX5) : gF y 240 1 4 2 .int true := ⟨RX1, TX1, gcl1, by decide, Or.inr ⟨"ShardHarbour", by rw [hy]; exact wd_564⟩, by decide +kernel, by decide +kernel⟩
theorem wd_565 : Cond.fieldLink RX1 19 (TX1 3).1 (TX1 3).2.1 (TX1 3).2.2.1 ∈ gTb := gIn 565 (by decide +kernel) (by decide +kernel)
theorem fX1_19 {y : MethodName} (hy : y.cls = RX1) : gF y 19 1 4 3 (.object "ShardHarbour$CutOver") true := ⟨RX1, TX1, gcl1, by decide, Or.inl (by rw [hy]; exact wd_565), by decide +kernel, by decide +kernel⟩
theorem fiX1_19 {y : MethodName} (hy : y.cls = RX1) (hn : y.name = "<init>") : true = false ∨ (y.name = "<init>" ∧ ∃ C0 T0, vwCl[1]? = some (C0, T0, 4) ∧ (T0 3).1 = y.cls ∧ Cond.fieldLink y.cls 19 (T0 3).1 (T0 3).2.1 (T0 3).2.2.1 ∈ gTb) := Or.inr ⟨hn, RX1, TX1, rfl, by rw [hy]; decide +kernel, by rw [hy]; exact wd_565⟩
theorem wd_566 : Cond.fieldLinkNest RX5 243 (TX1 3).1 (TX1 3).2.1 (TX1 3).2.2.1 "ShardHarbour" ∈ gNs := gInN 566 (by decide +kernel) (by decide +kernel)
theorem fX5_243 {y : MethodName} (hy : y.cls = RX5) : gF y 243 1 4 3 (.object "ShardHarbour$CutOver") true := ⟨RX1, TX1, gcl1, by decide, Or.inr ⟨"ShardHarbour", by rw [hy]; exact wd_566⟩, by decide +kernel, by decide +kernel⟩
theorem wd_657 : Cond.fieldLink RX6 51 (TX6 0).1 (TX6 0).2.1 (TX6 0).2.2.1 ∈ gTb := gIn 657 (by decide +kernel) (by decide +kernel)
theorem fX6_51 {y : MethodName} (hy : y.cls = RX6) : gF y 51 6 20 0 .int false := ⟨RX6, TX6, gcl6, by decide, Or.inl (by rw [hy]; exact wd_657), by decide +kernel, by decide +kernel⟩
theorem wd_658 : Cond.fieldLink RX6 127 (TX6 1).1 (TX6 1).2.1 (TX6 1).2.2.1 ∈ gTb := gIn 658 (by decide +kernel) (by decide +kernel)
theorem fX6_127 {y : MethodName} (hy : y.cls = RX6) : gF y 127 6 20 1 .int false := ⟨RX6, TX6, gcl6, by decide, Or.inl (by rw [hy]; exact wd_658), by decide +kernel, by decide +kernel⟩
theorem wd_659 : Cond.fieldLink RX6 58 (TX6 2).1 (TX6 2).2.1 (TX6 2).2.2.1 ∈ gTb := gIn 659 (by decide +kernel) (by decide +kernel)
theorem fX6_58 {y : MethodName} (hy : y.cls = RX6) : gF y 58 6 20 2 .int false := ⟨RX6, TX6, gcl6, by decide, Or.inl (by rw [hy]; exact wd_659), by decide +kernel, by decide +kernel⟩
theorem wd_660 : Cond.fieldLink RX6 7 (TX6 3).1 (TX6 3).2.1 (TX6 3).2.2.1 ∈ gTb := gIn 660 (by decide +kernel) (by decide +kernel)
theorem fX6_7 {y : MethodName} (hy : y.cls = RX6) : gF y 7 6 20 3 (.array .int) true := ⟨RX6, TX6, gcl6, by decide, Or.inl (by rw [hy]; exact wd_660), by decide +kernel, by decide +kernel⟩
theorem fiX6_7 {y : MethodName} (hy : y.cls = RX6) (hn : y.name = "<init>") : true = false ∨ (y.name = "<init>" ∧ ∃ C0 T0, vwCl[6]? = some (C0, T0, 20) ∧ (T0 3).1 = y.cls ∧ Cond.fieldLink y.cls 7 (T0 3).1 (T0 3).2.1 (T0 3).2.2.1 ∈ gTb) := Or.inr ⟨hn, RX6, TX6, rfl, by rw [hy]; decide +kernel, by rw [hy]; exact wd_660⟩
theorem wd_661 : Cond.fieldLink RX6 13 (TX6 4).1 (TX6 4).2.1 (TX6 4).2.2.1 ∈ gTb := gIn 661 (by decide +kernel) (by decide +kernel)
theorem fX6_13 {y : MethodName} (hy : y.cls = RX6) : gF y 13 6 20 4 (.array .boolean) true := ⟨RX6, TX6, gcl6, by decide, Or.inl (by rw [hy]; exact wd_661), by decide +kernel, by decide +kernel⟩
theorem fiX6_13 {y : MethodName} (hy : y.cls = RX6) (hn : y.name = "<init>") : true = false ∨ (y.name = "<init>" ∧ ∃ C0 T0, vwCl[6]? = some (C0, T0, 20) ∧ (T0 4).1 = y.cls ∧ Cond.fieldLink y.cls 13 (T0 4).1 (T0 4).2.1 (T0 4).2.2.1 ∈ gTb) := Or.inr ⟨hn, RX6, TX6, rfl, by rw [hy]; decide +kernel, by rw [hy]; exact wd_661⟩
theorem wd_662 : Cond.fieldLink RX6 17 (TX6 5).1 (TX6 5).2.1 (TX6 5).2.2.1 ∈ gTb := gIn 662 (by decide +kernel) (by decide +kernel)
theorem fX6_17 {y : MethodName} (hy : y.cls = RX6) : gF y 17 6 20 5 (.array .int) true := ⟨RX6, TX6, gcl6, by decide, Or.inl (by rw [hy]; exact wd_662), by decide +kernel, by decide +kernel⟩
theorem fiX6_17 {y : MethodName} (hy : y.cls = RX6) (hn : y.name = "<init>") : true = false ∨ (y.name = "<init>" ∧ ∃ C0 T0, vwCl[6]? = some (C0, T0, 20) ∧ (T0 5).1 = y.cls ∧ Cond.fieldLink y.cls 17 (T0 5).1 (T0 5).2.1 (T0 5).2.2.1 ∈ gTb) := Or.inr ⟨hn, RX6, TX6, rfl, by rw [hy]; decide +kernel, by rw [hy]; exact wd_662⟩
theorem wd_663 : Cond.fieldLink RX6 20 (TX6 6).1 (TX6 6).2.1 (TX6 6).2.2.1 ∈ gTb := gIn 663 (by decide +kernel) (by decide +kernel)
theorem fX6_20 {y : MethodName} (hy : y.cls = RX6) : gF y 20 6 20 6 (.array .int) true := ⟨RX6, TX6, gcl6, by decide, Or.inl (by rw [hy]; exact wd_663), by decide +kernel, by decide +kernel⟩
theorem fiX6_20 {y : MethodName} (hy : y.cls = RX6) (hn : y.name = "<init>") : true = false ∨ (y.name = "<init>" ∧ ∃ C0 T0, vwCl[6]? = some (C0, T0, 20) ∧ (T0 6).1 = y.cls ∧ Cond.fieldLink y.cls 20 (T0 6).1 (T0 6).2.1 (T0 6).2.2.1 ∈ gTb) := Or.inr ⟨hn, RX6, TX6, rfl, by rw [hy]; decide +kernel, by rw [hy]; exact wd_663⟩
theorem wd_664 : Cond.fieldLink RX6 89 (TX6 7).1 (TX6 7).2.1 (TX6 7).2.2.1 ∈ gTb := gIn 664 (by decide +kernel) (by decide +kernel)
theorem fX6_89 {y : MethodName} (hy : y.cls = RX6) : gF y 89 6 20 7 .int false := ⟨RX6, TX6, gcl6, by decide, Or.inl (by rw [hy]; exact wd_664), by decide +kernel, by decide +kernel⟩
theorem wd_665 : Cond.fieldLink RX6 104 (TX6 8).1 (TX6 8).2.1 (TX6 8).2.2.1 ∈ gTb := gIn 665 (by decide +kernel) (by decide +kernel)
theorem fX6_104 {y : MethodName} (hy : y.cls = RX6) : gF y 104 6 20 8 .int false := ⟨RX6, TX6, gcl6, by decide, Or.inl (by rw [hy]; exact wd_665), by decide +kernel, by decide +kernel⟩
theorem wd_666 : Cond.fieldLink RX6 121 (TX6 9).1 (TX6 9).2.1 (TX6 9).2.2.1 ∈ gTb := gIn 666 (by decide +kernel) (by decide +kernel)
theorem fX6_121 {y : MethodName} (hy : y.cls = RX6) : gF y 121 6 20 9 .int false := ⟨RX6, TX6, gcl6, by decide, Or.inl (by rw [hy]; exact wd_666), by decide +kernel, by decide +kernel⟩
theorem wd_667 : Cond.fieldLink RX6 72 (TX6 10).1 (TX6 10).2.1 (TX6 10).2.2.1 ∈ gTb := gIn 667 (by decide +kernel) (by decide +kernel)
theorem fX6_72 {y : MethodName} (hy : y.cls = RX6) : gF y 72 6 20 10 .int false := ⟨RX6, TX6, gcl6, by decide, Or.inl (by rw [hy]; exact wd_667), by decide +kernel, by decide +kernel⟩
theorem wd_668 : Cond.fieldLink RX6 23 (TX6 11).1 (TX6 11).2.1 (TX6 11).2.2.1 ∈ gTb := gIn 668 (by decide +kernel) (by decide +kernel)
theorem fX6_23 {y : MethodName} (hy : y.cls = RX6) : gF y 23 6 20 11 (.array .int) true := ⟨RX6, TX6, gcl6, by decide, Or.inl (by rw [hy]; exact wd_668), by decide +kernel, by decide +kernel⟩
theorem fiX6_23 {y : MethodName} (hy : y.cls = RX6) (hn : y.name = "<init>") : true = false ∨ (y.name = "<init>" ∧ ∃ C0 T0, vwCl[6]? = some (C0, T0, 20) ∧ (T0 11).1 = y.cls ∧ Cond.fieldLink y.cls 23 (T0 11).1 (T0 11).2.1 (T0 11).2.2.1 ∈ gTb) := Or.inr ⟨hn, RX6, TX6, rfl, by rw [hy]; decide +kernel, by rw [hy]; exact wd_668⟩
theorem wd_669 : Cond.fieldLink RX6 26 (TX6 12).1 (TX6 12).2.1 (TX6 12).2.2.1 ∈ gTb := gIn 669 (by decide +kernel) (by decide +kernel)
theorem fX6_26 {y : MethodName} (hy : y.cls = RX6) : gF y 26 6 20 12 (.array .int) true := ⟨RX6, TX6, gcl6, by decide, Or.inl (by rw [hy]; exact wd_669), by decide +kernel, by decide +kernel⟩
theorem fiX6_26 {y : MethodName} (hy : y.cls = RX6) (hn : y.name = "<init>") : true = false ∨ (y.name = "<init>" ∧ ∃ C0 T0, vwCl[6]? = some (C0, T0, 20) ∧ (T0 12).1 = y.cls ∧ Cond.fieldLink y.cls 26 (T0 12).1 (T0 12).2.1 (T0 12).2.2.1 ∈ gTb) := Or.inr ⟨hn, RX6, TX6, rfl, by rw [hy]; decide +kernel, by rw [hy]; exact wd_669⟩
theorem wd_670 : Cond.fieldLink RX6 29 (TX6 13).1 (TX6 13).2.1 (TX6 13).2.2.1 ∈ gTb := gIn 670 (by decide +kernel) (by decide +kernel)
theorem fX6_29 {y : MethodName} (hy : y.cls = RX6) : gF y 29 6 20 13 .int false := ⟨RX6, TX6, gcl6, by decide, Or.inl (by rw [hy]; exact wd_670), by decide +kernel, by decide +kernel⟩
theorem wd_671 : Cond.fieldLink RX6 33 (TX6 14).1 (TX6 14).2.1 (TX6 14).2.2.1 ∈ gTb := gIn 671 (by decide +kernel) (by decide +kernel)
theorem fX6_33 {y : MethodName} (hy : y.cls = RX6) : gF y 33 6 20 14 (.array .int) true := ⟨RX6, TX6, gcl6, by decide, Or.inl (by rw [hy]; exact wd_671), by decide +kernel, by decide +kernel⟩
theorem fiX6_33 {y : MethodName} (hy : y.cls = RX6) (hn : y.name = "<init>") : true = false ∨ (y.name = "<init>" ∧ ∃ C0 T0, vwCl[6]? = some (C0, T0, 20) ∧ (T0 14).1 = y.cls ∧ Cond.fieldLink y.cls 33 (T0 14).1 (T0 14).2.1 (T0 14).2.2.1 ∈ gTb) := Or.inr ⟨hn, RX6, TX6, rfl, by rw [hy]; decide +kernel, by rw [hy]; exact wd_671⟩
theorem wd_672 : Cond.fieldLink RX6 36 (TX6 15).1 (TX6 15).2.1 (TX6 15).2.2.1 ∈ gTb := gIn 672 (by decide +kernel) (by decide +kernel)
theorem fX6_36 {y : MethodName} (hy : y.cls = RX6) : gF y 36 6 20 15 (.array .int) true := ⟨RX6, TX6, gcl6, by decide, Or.inl (by rw [hy]; exact wd_672), by decide +kernel, by decide +kernel⟩
theorem fiX6_36 {y : MethodName} (hy : y.cls = RX6) (hn : y.name = "<init>") : true = false ∨ (y.name = "<init>" ∧ ∃ C0 T0, vwCl[6]? = some (C0, T0, 20) ∧ (T0 15).1 = y.cls ∧ Cond.fieldLink y.cls 36 (T0 15).1 (T0 15).2.1 (T0 15).2.2.1 ∈ gTb) := Or.inr ⟨hn, RX6, TX6, rfl, by rw [hy]; decide +kernel, by rw [hy]; exact wd_672⟩
theorem wd_673 : Cond.fieldLink RX6 39 (TX6 16).1 (TX6 16).2.1 (TX6 16).2.2.1 ∈ gTb := gIn 673 (by decide +kernel) (by decide +kernel)
theorem fX6_39 {y : MethodName} (hy : y.cls = RX6) : gF y 39 6 20 16 (.array .int) true := ⟨RX6, TX6, gcl6, by decide, Or.inl (by rw [hy]; exact wd_673), by decide +kernel, by decide +kernel⟩
theorem fiX6_39 {y : MethodName} (hy : y.cls = RX6) (hn : y.name = "<init>") : true = false ∨ (y.name = "<init>" ∧ ∃ C0 T0, vwCl[6]? = some (C0, T0, 20) ∧ (T0 16).1 = y.cls ∧ Cond.fieldLink y.cls 39 (T0 16).1 (T0 16).2.1 (T0 16).2.2.1 ∈ gTb) := Or.inr ⟨hn, RX6, TX6, rfl, by rw [hy]; decide +kernel, by rw [hy]; exact wd_673⟩
theorem wd_674 : Cond.fieldLink RX6 42 (TX6 17).1 (TX6 17).2.1 (TX6 17).2.2.1 ∈ gTb := gIn 674 (by decide +kernel) (by decide +kernel)
theorem fX6_42 {y : MethodName} (hy : y.cls = RX6) : gF y 42 6 20 17 (.array .int) true := ⟨RX6, TX6, gcl6, by decide, Or.inl (by rw [hy]; exact wd_674), by decide +kernel, by decide +kernel⟩
theorem fiX6_42 {y : MethodName} (hy : y.cls = RX6) (hn : y.name = "<init>") : true = false ∨ (y.name = "<init>" ∧ ∃ C0 T0, vwCl[6]? = some (C0, T0, 20) ∧ (T0 17).1 = y.cls ∧ Cond.fieldLink y.cls 42 (T0 17).1 (T0 17).2.1 (T0 17).2.2.1 ∈ gTb) := Or.inr ⟨hn, RX6, TX6, rfl, by rw [hy]; decide +kernel, by rw [hy]; exact wd_674⟩
theorem wd_675 : Cond.fieldLink RX6 45 (TX6 18).1 (TX6 18).2.1 (TX6 18).2.2.1 ∈ gTb := gIn 675 (by decide +kernel) (by decide +kernel)
theorem fX6_45 {y : MethodName} (hy : y.cls = RX6) : gF y 45 6 20 18 (.array .int) true := ⟨RX6, TX6, gcl6, by decide, Or.inl (by rw [hy]; exact wd_675), by decide +kernel, by decide +kernel⟩
theorem fiX6_45 {y : MethodName} (hy : y.cls = RX6) (hn : y.name = "<init>") : true = false ∨ (y.name = "<init>" ∧ ∃ C0 T0, vwCl[6]? = some (C0, T0, 20) ∧ (T0 18).1 = y.cls ∧ Cond.fieldLink y.cls 45 (T0 18).1 (T0 18).2.1 (T0 18).2.2.1 ∈ gTb) := Or.inr ⟨hn, RX6, TX6, rfl, by rw [hy]; decide +kernel, by rw [hy]; exact wd_675⟩
theorem wd_676 : Cond.fieldLink RX6 48 (TX6 19).1 (TX6 19).2.1 (TX6 19).2.2.1 ∈ gTb := gIn 676 (by decide +kernel) (by decide +kernel)
theorem fX6_48 {y : MethodName} (hy : y.cls = RX6) : gF y 48 6 20 19 (.array .int) true := ⟨RX6, TX6, gcl6, by decide, Or.inl (by rw [hy]; exact wd_676), by decide +kernel, by decide +kernel⟩
theorem fiX6_48 {y : MethodName} (hy : y.cls = RX6) (hn : y.name = "<init>") : true = false ∨ (y.name = "<init>" ∧ ∃ C0 T0, vwCl[6]? = some (C0, T0, 20) ∧ (T0 19).1 = y.cls ∧ Cond.fieldLink y.cls 48 (T0 19).1 (T0 19).2.1 (T0 19).2.2.1 ∈ gTb) := Or.inr ⟨hn, RX6, TX6, rfl, by rw [hy]; decide +kernel, by rw [hy]; exact wd_676⟩
theorem wd_67 : Cond.methodLink RL 73 yX5_init ∈ gTb := gIn 67 (by decide +kernel) (by decide +kernel)
theorem wd_52 : Cond.initialized RX5 ∈ gTb := gIn 52 (by decide +kernel) (by decide +kernel)
theorem wd_69 : Cond.code yX5_init cX5_init 2 none ∈ gTb := gIn 69 (by decide +kernel) (by decide +kernel)
theorem wd_68 : Cond.instanceMethod yX5_init ∈ gTb := gIn 68 (by decide +kernel) (by decide +kernel)
theorem kL_73 {y : MethodName} (hy : y.cls = RL) : gLk y 73 yX5_init cX5_init 2 none 0 ∧ Cond.instanceMethod yX5_init ∈ gTb := ⟨⟨Or.inl (by rw [hy]; exact wd_67), wd_52, wd_69, ⟨by decide +kernel, by decide +kernel, by decide +kernel⟩, by decide⟩, wd_68⟩
theorem wd_70 : Cond.methodLink RX5 1 objectInit ∈ gTb := gIn 70 (by decide +kernel) (by decide +kernel)
theorem wd_71 : Cond.instanceMethod objectInit ∈ gTb := gIn 71 (by decide +kernel) (by decide +kernel)
theorem wd_72 : Cond.code objectInit ⟨#[0xb1]⟩ 1 none ∈ gTb := gIn 72 (by decide +kernel) (by decide +kernel)
theorem koX5 {y : MethodName} (hy : y.cls = RX5) : Cond.methodLink y.cls 1 objectInit ∈ gTb ∧ Cond.instanceMethod objectInit ∈ gTb ∧ Cond.code objectInit ⟨#[0xb1]⟩ 1 none ∈ gTb := ⟨by rw [hy]; exact wd_70, wd_71, wd_72⟩
theorem wd_75 : Cond.methodLinkNest RX5 11 yX2_init "ShardHarbour" ∈ gNs := gInN 75 (by decide +kernel) (by decide +kernel)
theorem wd_53 : Cond.initialized RX2 ∈ gTb := gIn 53 (by decide +kernel) (by decide +kernel)
theorem wd_77 : Cond.code yX2_init cX2_init 2 none ∈ gTb := gIn 77 (by decide +kernel) (by decide +kernel)
theorem wd_76 : Cond.instanceMethod yX2_init ∈ gTb := gIn 76 (by decide +kernel) (by decide +kernel)
theorem kX5_11 {y : MethodName} (hy : y.cls = RX5) : gLk y 11 yX2_init cX2_init 2 none 1 ∧ Cond.instanceMethod yX2_init ∈ gTb := ⟨⟨Or.inr ⟨"ShardHarbour", by rw [hy]; exact wd_75⟩, wd_53, wd_77, ⟨by decide +kernel, by decide +kernel, by decide +kernel⟩, by decide⟩, wd_76⟩
theorem wd_78 : Cond.methodLink RX2 1 objectInit ∈ gTb := gIn 78 (by decide +kernel) (by decide +kernel)
theorem koX2 {y : MethodName} (hy : y.cls = RX2) : Cond.methodLink y.cls 1 objectInit ∈ gTb ∧ Cond.instanceMethod objectInit ∈ gTb ∧ Cond.code objectInit ⟨#[0xb1]⟩ 1 none ∈ gTb := ⟨by rw [hy]; exact wd_78, wd_71, wd_72⟩
theorem wd_100 : Cond.methodLinkNest RX5 31 yX4_init "ShardHarbour" ∈ gNs := gInN 100 (by decide +kernel) (by decide +kernel)
theorem wd_54 : Cond.initialized RX4 ∈ gTb := gIn 54 (by decide +kernel) (by decide +kernel)
theorem wd_102 : Cond.code yX4_init cX4_init 1 none ∈ gTb := gIn 102 (by decide +kernel) (by decide +kernel)
theorem wd_101 : Cond.instanceMethod yX4_init ∈ gTb := gIn 101 (by decide +kernel) (by decide +kernel)
theorem kX5_31 {y : MethodName} (hy : y.cls = RX5) : gLk y 31 yX4_init cX4_init 1 none 0 ∧ Cond.instanceMethod yX4_init ∈ gTb := ⟨⟨Or.inr ⟨"ShardHarbour", by rw [hy]; exact wd_100⟩, wd_54, wd_102, ⟨by decide +kernel, by decide +kernel, by decide +kernel⟩, by decide⟩, wd_101⟩
theorem wd_103 : Cond.methodLink RX4 3 objectInit ∈ gTb := gIn 103 (by decide +kernel) (by decide +kernel)
theorem koX4 {y : MethodName} (hy : y.cls = RX4) : Cond.methodLink y.cls 3 objectInit ∈ gTb ∧ Cond.instanceMethod objectInit ∈ gTb ∧ Cond.code objectInit ⟨#[0xb1]⟩ 1 none ∈ gTb := ⟨by rw [hy]; exact wd_103, wd_71, wd_72⟩
theorem wd_120 : Cond.methodLinkNest RX5 42 yX3_init "ShardHarbour" ∈ gNs := gInN 120 (by decide +kernel) (by decide +kernel)
theorem wd_55 : Cond.initialized RX3 ∈ gTb := gIn 55 (by decide +kernel) (by decide +kernel)
theorem wd_122 : Cond.code yX3_init cX3_init 2 none ∈ gTb := gIn 122 (by decide +kernel) (by decide +kernel)
theorem wd_121 : Cond.instanceMethod yX3_init ∈ gTb := gIn 121 (by decide +kernel) (by decide +kernel)
theorem kX5_42 {y : MethodName} (hy : y.cls = RX5) : gLk y 42 yX3_init cX3_init 2 none 1 ∧ Cond.instanceMethod yX3_init ∈ gTb := ⟨⟨Or.inr ⟨"ShardHarbour", by rw [hy]; exact wd_120⟩, wd_55, wd_122, ⟨by decide +kernel, by decide +kernel, by decide +kernel⟩, by decide⟩, wd_121⟩
theorem wd_123 : Cond.methodLink RX3 3 objectInit ∈ gTb := gIn 123 (by decide +kernel) (by decide +kernel)
theorem koX3 {y : MethodName} (hy : y.cls = RX3) : Cond.methodLink y.cls 3 objectInit ∈ gTb ∧ Cond.instanceMethod objectInit ∈ gTb ∧ Cond.code objectInit ⟨#[0xb1]⟩ 1 none ∈ gTb := ⟨by rw [hy]; exact wd_123, wd_71, wd_72⟩
theorem wd_205 : Cond.methodLink RL 123 yX5_hour ∈ gTb := gIn 205 (by decide +kernel) (by decide +kernel)
theorem wd_208 : Cond.code yX5_hour cX5_hour 1 (some .int) ∈ gTb := gIn 208 (by decide +kernel) (by decide +kernel)
theorem wd_206 : Cond.instanceMethod yX5_hour ∈ gTb := gIn 206 (by decide +kernel) (by decide +kernel)
theorem wd_207 : Cond.selects (yX5_hour).cls yX5_hour yX5_hour ∈ gTb := gIn 207 (by decide +kernel) (by decide +kernel)
theorem kL_123 {y : MethodName} (hy : y.cls = RL) : gLv y 123 5 15 yX5_hour cX5_hour 1 (some .int) 0 := ⟨⟨Or.inl (by rw [hy]; exact wd_205), wd_52, wd_208, ⟨by decide +kernel, by decide +kernel, by decide +kernel⟩, by decide⟩, wd_206, wd_207, ⟨_, rfl, rfl, rfl⟩⟩
theorem wd_209 : Cond.methodLink RL 127 yX5_shards ∈ gTb := gIn 209 (by decide +kernel) (by decide +kernel)
theorem wd_212 : Cond.code yX5_shards cX5_shards 1 (some .int) ∈ gTb := gIn 212 (by decide +kernel) (by decide +kernel)
theorem wd_210 : Cond.instanceMethod yX5_shards ∈ gTb := gIn 210 (by decide +kernel) (by decide +kernel)
theorem wd_211 : Cond.selects (yX5_shards).cls yX5_shards yX5_shards ∈ gTb := gIn 211 (by decide +kernel) (by decide +kernel)
theorem kL_127 {y : MethodName} (hy : y.cls = RL) : gLv y 127 5 15 yX5_shards cX5_shards 1 (some .int) 0 := ⟨⟨Or.inl (by rw [hy]; exact wd_209), wd_52, wd_212, ⟨by decide +kernel, by decide +kernel, by decide +kernel⟩, by decide⟩, wd_210, wd_211, ⟨_, rfl, rfl, rfl⟩⟩
theorem wd_213 : Cond.methodLink RL 149 yX5_moves ∈ gTb := gIn 213 (by decide +kernel) (by decide +kernel)
theorem wd_216 : Cond.code yX5_moves cX5_moves 2 (some .int) ∈ gTb := gIn 216 (by decide +kernel) (by decide +kernel)
theorem wd_214 : Cond.instanceMethod yX5_moves ∈ gTb := gIn 214 (by decide +kernel) (by decide +kernel)
theorem wd_215 : Cond.selects (yX5_moves).cls yX5_moves yX5_moves ∈ gTb := gIn 215 (by decide +kernel) (by decide +kernel)
theorem kL_149 {y : MethodName} (hy : y.cls = RL) : gLv y 149 5 15 yX5_moves cX5_moves 2 (some .int) 1 := ⟨⟨Or.inl (by rw [hy]; exact wd_213), wd_52, wd_216, ⟨by decide +kernel, by decide +kernel, by decide +kernel⟩, by decide⟩, wd_214, wd_215, ⟨_, rfl, rfl, rfl⟩⟩
theorem wd_217 : Cond.methodLink RL 77 yL_machine ∈ gTb := gIn 217 (by decide +kernel) (by decide +kernel)
theorem wd_222 : Cond.methodLink RL 7 yX5_machine ∈ gTb := gIn 222 (by decide +kernel) (by decide +kernel)
theorem wd_225 : Cond.code yX5_machine cX5_machine 3 (some .int) ∈ gTb := gIn 225 (by decide +kernel) (by decide +kernel)
theorem wd_223 : Cond.instanceMethod yX5_machine ∈ gTb := gIn 223 (by decide +kernel) (by decide +kernel)
theorem wd_224 : Cond.selects (yX5_machine).cls yX5_machine yX5_machine ∈ gTb := gIn 224 (by decide +kernel) (by decide +kernel)
theorem kL_7 {y : MethodName} (hy : y.cls = RL) : gLv y 7 5 15 yX5_machine cX5_machine 3 (some .int) 1 := ⟨⟨Or.inl (by rw [hy]; exact wd_222), wd_52, wd_225, ⟨by decide +kernel, by decide +kernel, by decide +kernel⟩, by decide⟩, wd_223, wd_224, ⟨_, rfl, rfl, rfl⟩⟩
theorem wd_310 : Cond.methodLink RX5 74 yX5_settleAllShardsOn ∈ gTb := gIn 310 (by decide +kernel) (by decide +kernel)
theorem wd_313 : Cond.code yX5_settleAllShardsOn cX5_settleAllShardsOn 3 none ∈ gTb := gIn 313 (by decide +kernel) (by decide +kernel)
theorem wd_312 : Cond.instanceMethod yX5_settleAllShardsOn ∈ gTb := gIn 312 (by decide +kernel) (by decide +kernel)
theorem wd_1 : Cond.selects (yX5_settleAllShardsOn).cls yX5_settleAllShardsOn yX5_settleAllShardsOn ∈ gTb := gIn 1 (by decide +kernel) (by decide +kernel)
theorem kX5_74 {y : MethodName} (hy : y.cls = RX5) : gLv y 74 5 15 yX5_settleAllShardsOn cX5_settleAllShardsOn 3 none 1 := ⟨⟨Or.inl (by rw [hy]; exact wd_310), wd_52, wd_313, ⟨by decide +kernel, by decide +kernel, by decide +kernel⟩, by decide⟩, wd_312, wd_1, ⟨_, rfl, rfl, rfl⟩⟩
theorem wd_314 : Cond.methodLink RL 87 yL_down ∈ gTb := gIn 314 (by decide +kernel) (by decide +kernel)
theorem wd_318 : Cond.methodLink RL 17 yX5_down ∈ gTb := gIn 318 (by decide +kernel) (by decide +kernel)
theorem wd_321 : Cond.code yX5_down cX5_down 5 (some .boolean) ∈ gTb := gIn 321 (by decide +kernel) (by decide +kernel)
theorem wd_319 : Cond.instanceMethod yX5_down ∈ gTb := gIn 319 (by decide +kernel) (by decide +kernel)
theorem wd_320 : Cond.selects (yX5_down).cls yX5_down yX5_down ∈ gTb := gIn 320 (by decide +kernel) (by decide +kernel)
theorem kL_17 {y : MethodName} (hy : y.cls = RL) : gLv y 17 5 15 yX5_down cX5_down 5 (some .boolean) 2 := ⟨⟨Or.inl (by rw [hy]; exact wd_318), wd_52, wd_321, ⟨by decide +kernel, by decide +kernel, by decide +kernel⟩, by decide⟩, wd_319, wd_320, ⟨_, rfl, rfl, rfl⟩⟩
theorem wd_322 : Cond.methodLink RX5 77 yX5_isMachine ∈ gTb := gIn 322 (by decide +kernel) (by decide +kernel)
theorem wd_325 : Cond.code yX5_isMachine cX5_isMachine 2 (some .boolean) ∈ gTb := gIn 325 (by decide +kernel) (by decide +kernel)
theorem wd_324 : Cond.instanceMethod yX5_isMachine ∈ gTb := gIn 324 (by decide +kernel) (by decide +kernel)
theorem wd_2 : Cond.selects (yX5_isMachine).cls yX5_isMachine yX5_isMachine ∈ gTb := gIn 2 (by decide +kernel) (by decide +kernel)
theorem kX5_77 {y : MethodName} (hy : y.cls = RX5) : gLv y 77 5 15 yX5_isMachine cX5_isMachine 2 (some .boolean) 1 := ⟨⟨Or.inl (by rw [hy]; exact wd_322), wd_52, wd_325, ⟨by decide +kernel, by decide +kernel, by decide +kernel⟩, by decide⟩, wd_324, wd_2, ⟨_, rfl, rfl, rfl⟩⟩
theorem wd_342 : Cond.methodLink RX5 86 yX5_failMovesOf ∈ gTb := gIn 342 (by decide +kernel) (by decide +kernel)
theorem wd_345 : Cond.code yX5_failMovesOf cX5_failMovesOf 4 none ∈ gTb := gIn 345 (by decide +kernel) (by decide +kernel)
theorem wd_344 : Cond.instanceMethod yX5_failMovesOf ∈ gTb := gIn 344 (by decide +kernel) (by decide +kernel)
theorem wd_3 : Cond.selects (yX5_failMovesOf).cls yX5_failMovesOf yX5_failMovesOf ∈ gTb := gIn 3 (by decide +kernel) (by decide +kernel)
theorem kX5_86 {y : MethodName} (hy : y.cls = RX5) : gLv y 86 5 15 yX5_failMovesOf cX5_failMovesOf 4 none 1 := ⟨⟨Or.inl (by rw [hy]; exact wd_342), wd_52, wd_345, ⟨by decide +kernel, by decide +kernel, by decide +kernel⟩, by decide⟩, wd_344, wd_3, ⟨_, rfl, rfl, rfl⟩⟩
theorem wd_346 : Cond.methodLinkNest RX5 150 yX3_isMoving "ShardHarbour" ∈ gNs := gInN 346 (by decide +kernel) (by decide +kernel)
theorem wd_349 : Cond.code yX3_isMoving cX3_isMoving 1 (some .boolean) ∈ gTb := gIn 349 (by decide +kernel) (by decide +kernel)
theorem wd_348 : Cond.instanceMethod yX3_isMoving ∈ gTb := gIn 348 (by decide +kernel) (by decide +kernel)
theorem wd_4 : Cond.selects (yX3_isMoving).cls yX3_isMoving yX3_isMoving ∈ gTb := gIn 4 (by decide +kernel) (by decide +kernel)
theorem kX5_150 {y : MethodName} (hy : y.cls = RX5) : gLv y 150 3 9 yX3_isMoving cX3_isMoving 1 (some .boolean) 0 := ⟨⟨Or.inr ⟨"ShardHarbour", by rw [hy]; exact wd_346⟩, wd_55, wd_349, ⟨by decide +kernel, by decide +kernel, by decide +kernel⟩, by decide⟩, wd_348, wd_4, ⟨_, rfl, rfl, rfl⟩⟩
theorem wd_350 : Cond.methodLink RX5 187 yX5_failMove ∈ gTb := gIn 350 (by decide +kernel) (by decide +kernel)
theorem wd_353 : Cond.code yX5_failMove cX5_failMove 2 none ∈ gTb := gIn 353 (by decide +kernel) (by decide +kernel)
theorem wd_352 : Cond.instanceMethod yX5_failMove ∈ gTb := gIn 352 (by decide +kernel) (by decide +kernel)
theorem wd_5 : Cond.selects (yX5_failMove).cls yX5_failMove yX5_failMove ∈ gTb := gIn 5 (by decide +kernel) (by decide +kernel)
theorem kX5_187 {y : MethodName} (hy : y.cls = RX5) : gLv y 187 5 15 yX5_failMove cX5_failMove 2 none 1 := ⟨⟨Or.inl (by rw [hy]; exact wd_350), wd_52, wd_353, ⟨by decide +kernel, by decide +kernel, by decide +kernel⟩, by decide⟩, wd_352, wd_5, ⟨_, rfl, rfl, rfl⟩⟩
theorem wd_354 : Cond.methodLinkNest RX5 179 yX3_aimAt "ShardHarbour" ∈ gNs := gInN 354 (by decide +kernel) (by decide +kernel)
theorem wd_357 : Cond.code yX3_aimAt cX3_aimAt 2 none ∈ gTb := gIn 357 (by decide +kernel) (by decide +kernel)
theorem wd_356 : Cond.instanceMethod yX3_aimAt ∈ gTb := gIn 356 (by decide +kernel) (by decide +kernel)
theorem wd_6 : Cond.selects (yX3_aimAt).cls yX3_aimAt yX3_aimAt ∈ gTb := gIn 6 (by decide +kernel) (by decide +kernel)
theorem kX5_179 {y : MethodName} (hy : y.cls = RX5) : gLv y 179 3 9 yX3_aimAt cX3_aimAt 2 none 1 := ⟨⟨Or.inr ⟨"ShardHarbour", by rw [hy]; exact wd_354⟩, wd_55, wd_357, ⟨by decide +kernel, by decide +kernel, by decide +kernel⟩, by decide⟩, wd_356, wd_6, ⟨_, rfl, rfl, rfl⟩⟩
theorem wd_358 : Cond.methodLink RL 91 yL_quota ∈ gTb := gIn 358 (by decide +kernel) (by decide +kernel)
theorem wd_361 : Cond.methodLink RL 23 yX5_quota ∈ gTb := gIn 361 (by decide +kernel) (by decide +kernel)
theorem wd_364 : Cond.code yX5_quota cX5_quota 4 (some .int) ∈ gTb := gIn 364 (by decide +kernel) (by decide +kernel)
theorem wd_362 : Cond.instanceMethod yX5_quota ∈ gTb := gIn 362 (by decide +kernel) (by decide +kernel)
theorem wd_363 : Cond.selects (yX5_quota).cls yX5_quota yX5_quota ∈ gTb := gIn 363 (by decide +kernel) (by decide +kernel)
theorem kL_23 {y : MethodName} (hy : y.cls = RL) : gLv y 23 5 15 yX5_quota cX5_quota 4 (some .int) 2 := ⟨⟨Or.inl (by rw [hy]; exact wd_361), wd_52, wd_364, ⟨by decide +kernel, by decide +kernel, by decide +kernel⟩, by decide⟩, wd_362, wd_363, ⟨_, rfl, rfl, rfl⟩⟩
theorem wd_365 : Cond.methodLink RX5 89 yX5_isTenant ∈ gTb := gIn 365 (by decide +kernel) (by decide +kernel)
theorem wd_368 : Cond.code yX5_isTenant cX5_isTenant 2 (some .boolean) ∈ gTb := gIn 368 (by decide +kernel) (by decide +kernel)
theorem wd_367 : Cond.instanceMethod yX5_isTenant ∈ gTb := gIn 367 (by decide +kernel) (by decide +kernel)
theorem wd_7 : Cond.selects (yX5_isTenant).cls yX5_isTenant yX5_isTenant ∈ gTb := gIn 7 (by decide +kernel) (by decide +kernel)
theorem kX5_89 {y : MethodName} (hy : y.cls = RX5) : gLv y 89 5 15 yX5_isTenant cX5_isTenant 2 (some .boolean) 1 := ⟨⟨Or.inl (by rw [hy]; exact wd_365), wd_52, wd_368, ⟨by decide +kernel, by decide +kernel, by decide +kernel⟩, by decide⟩, wd_367, wd_7, ⟨_, rfl, rfl, rfl⟩⟩
theorem wd_371 : Cond.methodLink RL 95 yL_limit ∈ gTb := gIn 371 (by decide +kernel) (by decide +kernel)
theorem wd_374 : Cond.methodLink RL 27 yX5_limit ∈ gTb := gIn 374 (by decide +kernel) (by decide +kernel)
theorem wd_377 : Cond.code yX5_limit cX5_limit 3 (some .int) ∈ gTb := gIn 377 (by decide +kernel) (by decide +kernel)
theorem wd_375 : Cond.instanceMethod yX5_limit ∈ gTb := gIn 375 (by decide +kernel) (by decide +kernel)
theorem wd_376 : Cond.selects (yX5_limit).cls yX5_limit yX5_limit ∈ gTb := gIn 376 (by decide +kernel) (by decide +kernel)
theorem kL_27 {y : MethodName} (hy : y.cls = RL) : gLv y 27 5 15 yX5_limit cX5_limit 3 (some .int) 1 := ⟨⟨Or.inl (by rw [hy]; exact wd_374), wd_52, wd_377, ⟨by decide +kernel, by decide +kernel, by decide +kernel⟩, by decide⟩, wd_375, wd_376, ⟨_, rfl, rfl, rfl⟩⟩
theorem wd_379 : Cond.methodLink RL 98 yL_write ∈ gTb := gIn 379 (by decide +kernel) (by decide +kernel)
theorem wd_382 : Cond.methodLink RL 30 yX5_write ∈ gTb := gIn 382 (by decide +kernel) (by decide +kernel)
theorem wd_385 : Cond.code yX5_write cX5_write 5 (some .int) ∈ gTb := gIn 385 (by decide +kernel) (by decide +kernel)
theorem wd_383 : Cond.instanceMethod yX5_write ∈ gTb := gIn 383 (by decide +kernel) (by decide +kernel)
theorem wd_384 : Cond.selects (yX5_write).cls yX5_write yX5_write ∈ gTb := gIn 384 (by decide +kernel) (by decide +kernel)
theorem kL_30 {y : MethodName} (hy : y.cls = RL) : gLv y 30 5 15 yX5_write cX5_write 5 (some .int) 3 := ⟨⟨Or.inl (by rw [hy]; exact wd_382), wd_52, wd_385, ⟨by decide +kernel, by decide +kernel, by decide +kernel⟩, by decide⟩, wd_383, wd_384, ⟨_, rfl, rfl, rfl⟩⟩
theorem wd_386 : Cond.methodLink RX5 104 yX5_isKey ∈ gTb := gIn 386 (by decide +kernel) (by decide +kernel)
theorem wd_389 : Cond.code yX5_isKey cX5_isKey 2 (some .boolean) ∈ gTb := gIn 389 (by decide +kernel) (by decide +kernel)
theorem wd_388 : Cond.instanceMethod yX5_isKey ∈ gTb := gIn 388 (by decide +kernel) (by decide +kernel)
theorem wd_8 : Cond.selects (yX5_isKey).cls yX5_isKey yX5_isKey ∈ gTb := gIn 8 (by decide +kernel) (by decide +kernel)
theorem kX5_104 {y : MethodName} (hy : y.cls = RX5) : gLv y 104 5 15 yX5_isKey cX5_isKey 2 (some .boolean) 1 := ⟨⟨Or.inl (by rw [hy]; exact wd_386), wd_52, wd_389, ⟨by decide +kernel, by decide +kernel, by decide +kernel⟩, by decide⟩, wd_388, wd_8, ⟨_, rfl, rfl, rfl⟩⟩
theorem wd_391 : Cond.methodLink RX5 109 yX5_numberOfShardWith ∈ gTb := gIn 391 (by decide +kernel) (by decide +kernel)
theorem wd_394 : Cond.code yX5_numberOfShardWith cX5_numberOfShardWith 3 (some .int) ∈ gTb := gIn 394 (by decide +kernel) (by decide +kernel)
theorem wd_393 : Cond.instanceMethod yX5_numberOfShardWith ∈ gTb := gIn 393 (by decide +kernel) (by decide +kernel)
theorem wd_9 : Cond.selects (yX5_numberOfShardWith).cls yX5_numberOfShardWith yX5_numberOfShardWith ∈ gTb := gIn 9 (by decide +kernel) (by decide +kernel)
theorem kX5_109 {y : MethodName} (hy : y.cls = RX5) : gLv y 109 5 15 yX5_numberOfShardWith cX5_numberOfShardWith 3 (some .int) 1 := ⟨⟨Or.inl (by rw [hy]; exact wd_391), wd_52, wd_394, ⟨by decide +kernel, by decide +kernel, by decide +kernel⟩, by decide⟩, wd_393, wd_9, ⟨_, rfl, rfl, rfl⟩⟩
theorem wd_395 : Cond.methodLink RX5 113 yX5_mayChange ∈ gTb := gIn 395 (by decide +kernel) (by decide +kernel)
theorem wd_398 : Cond.code yX5_mayChange cX5_mayChange 2 (some .boolean) ∈ gTb := gIn 398 (by decide +kernel) (by decide +kernel)
theorem wd_397 : Cond.instanceMethod yX5_mayChange ∈ gTb := gIn 397 (by decide +kernel) (by decide +kernel)
theorem wd_10 : Cond.selects (yX5_mayChange).cls yX5_mayChange yX5_mayChange ∈ gTb := gIn 10 (by decide +kernel) (by decide +kernel)
theorem kX5_113 {y : MethodName} (hy : y.cls = RX5) : gLv y 113 5 15 yX5_mayChange cX5_mayChange 2 (some .boolean) 1 := ⟨⟨Or.inl (by rw [hy]; exact wd_395), wd_52, wd_398, ⟨by decide +kernel, by decide +kernel, by decide +kernel⟩, by decide⟩, wd_397, wd_10, ⟨_, rfl, rfl, rfl⟩⟩
theorem wd_399 : Cond.methodLinkNest RX5 120 yX2_hasRoomFor "ShardHarbour" ∈ gNs := gInN 399 (by decide +kernel) (by decide +kernel)
theorem wd_402 : Cond.code yX2_hasRoomFor cX2_hasRoomFor 2 (some .boolean) ∈ gTb := gIn 402 (by decide +kernel) (by decide +kernel)
theorem wd_401 : Cond.instanceMethod yX2_hasRoomFor ∈ gTb := gIn 401 (by decide +kernel) (by decide +kernel)
theorem wd_11 : Cond.selects (yX2_hasRoomFor).cls yX2_hasRoomFor yX2_hasRoomFor ∈ gTb := gIn 11 (by decide +kernel) (by decide +kernel)
theorem kX5_120 {y : MethodName} (hy : y.cls = RX5) : gLv y 120 2 4 yX2_hasRoomFor cX2_hasRoomFor 2 (some .boolean) 1 := ⟨⟨Or.inr ⟨"ShardHarbour", by rw [hy]; exact wd_399⟩, wd_53, wd_402, ⟨by decide +kernel, by decide +kernel, by decide +kernel⟩, by decide⟩, wd_401, wd_11, ⟨_, rfl, rfl, rfl⟩⟩
theorem wd_403 : Cond.methodLink RX5 123 yX5_hasQuotaFor ∈ gTb := gIn 403 (by decide +kernel) (by decide +kernel)
theorem wd_406 : Cond.code yX5_hasQuotaFor cX5_hasQuotaFor 5 (some .boolean) ∈ gTb := gIn 406 (by decide +kernel) (by decide +kernel)
theorem wd_405 : Cond.instanceMethod yX5_hasQuotaFor ∈ gTb := gIn 405 (by decide +kernel) (by decide +kernel)
theorem wd_12 : Cond.selects (yX5_hasQuotaFor).cls yX5_hasQuotaFor yX5_hasQuotaFor ∈ gTb := gIn 12 (by decide +kernel) (by decide +kernel)
theorem kX5_123 {y : MethodName} (hy : y.cls = RX5) : gLv y 123 5 15 yX5_hasQuotaFor cX5_hasQuotaFor 5 (some .boolean) 3 := ⟨⟨Or.inl (by rw [hy]; exact wd_403), wd_52, wd_406, ⟨by decide +kernel, by decide +kernel, by decide +kernel⟩, by decide⟩, wd_405, wd_12, ⟨_, rfl, rfl, rfl⟩⟩
theorem wd_408 : Cond.methodLink RX5 129 yX5_change ∈ gTb := gIn 408 (by decide +kernel) (by decide +kernel)
theorem wd_411 : Cond.code yX5_change cX5_change 7 none ∈ gTb := gIn 411 (by decide +kernel) (by decide +kernel)
theorem wd_410 : Cond.instanceMethod yX5_change ∈ gTb := gIn 410 (by decide +kernel) (by decide +kernel)
theorem wd_13 : Cond.selects (yX5_change).cls yX5_change yX5_change ∈ gTb := gIn 13 (by decide +kernel) (by decide +kernel)
theorem kX5_129 {y : MethodName} (hy : y.cls = RX5) : gLv y 129 5 15 yX5_change cX5_change 7 none 4 := ⟨⟨Or.inl (by rw [hy]; exact wd_408), wd_52, wd_411, ⟨by decide +kernel, by decide +kernel, by decide +kernel⟩, by decide⟩, wd_410, wd_13, ⟨_, rfl, rfl, rfl⟩⟩
theorem wd_414 : Cond.methodLinkNest RX5 254 yX0_init "ShardHarbour" ∈ gNs := gInN 414 (by decide +kernel) (by decide +kernel)
theorem wd_63 : Cond.initialized RX0 ∈ gTb := gIn 63 (by decide +kernel) (by decide +kernel)
theorem wd_416 : Cond.code yX0_init cX0_init 3 none ∈ gTb := gIn 416 (by decide +kernel) (by decide +kernel)
theorem wd_415 : Cond.instanceMethod yX0_init ∈ gTb := gIn 415 (by decide +kernel) (by decide +kernel)
theorem kX5_254 {y : MethodName} (hy : y.cls = RX5) : gLk y 254 yX0_init cX0_init 3 none 2 ∧ Cond.instanceMethod yX0_init ∈ gTb := ⟨⟨Or.inr ⟨"ShardHarbour", by rw [hy]; exact wd_414⟩, wd_63, wd_416, ⟨by decide +kernel, by decide +kernel, by decide +kernel⟩, by decide⟩, wd_415⟩
theorem wd_417 : Cond.methodLink RX0 1 objectInit ∈ gTb := gIn 417 (by decide +kernel) (by decide +kernel)
theorem koX0 {y : MethodName} (hy : y.cls = RX0) : Cond.methodLink y.cls 1 objectInit ∈ gTb ∧ Cond.instanceMethod objectInit ∈ gTb ∧ Cond.code objectInit ⟨#[0xb1]⟩ 1 none ∈ gTb := ⟨by rw [hy]; exact wd_417, wd_71, wd_72⟩
theorem wd_439 : Cond.methodLinkNest RX5 257 yX0_setBefore "ShardHarbour" ∈ gNs := gInN 439 (by decide +kernel) (by decide +kernel)
theorem wd_442 : Cond.code yX0_setBefore cX0_setBefore 3 none ∈ gTb := gIn 442 (by decide +kernel) (by decide +kernel)
theorem wd_441 : Cond.instanceMethod yX0_setBefore ∈ gTb := gIn 441 (by decide +kernel) (by decide +kernel)
theorem wd_14 : Cond.selects (yX0_setBefore).cls yX0_setBefore yX0_setBefore ∈ gTb := gIn 14 (by decide +kernel) (by decide +kernel)
theorem kX5_257 {y : MethodName} (hy : y.cls = RX5) : gLv y 257 0 6 yX0_setBefore cX0_setBefore 3 none 2 := ⟨⟨Or.inr ⟨"ShardHarbour", by rw [hy]; exact wd_439⟩, wd_63, wd_442, ⟨by decide +kernel, by decide +kernel, by decide +kernel⟩, by decide⟩, wd_441, wd_14, ⟨_, rfl, rfl, rfl⟩⟩
theorem wd_443 : Cond.methodLinkNest RX5 261 yX0_setBehind "ShardHarbour" ∈ gNs := gInN 443 (by decide +kernel) (by decide +kernel)
theorem wd_446 : Cond.code yX0_setBehind cX0_setBehind 3 none ∈ gTb := gIn 446 (by decide +kernel) (by decide +kernel)
theorem wd_445 : Cond.instanceMethod yX0_setBehind ∈ gTb := gIn 445 (by decide +kernel) (by decide +kernel)
theorem wd_15 : Cond.selects (yX0_setBehind).cls yX0_setBehind yX0_setBehind ∈ gTb := gIn 15 (by decide +kernel) (by decide +kernel)
theorem kX5_261 {y : MethodName} (hy : y.cls = RX5) : gLv y 261 0 6 yX0_setBehind cX0_setBehind 3 none 2 := ⟨⟨Or.inr ⟨"ShardHarbour", by rw [hy]; exact wd_443⟩, wd_63, wd_446, ⟨by decide +kernel, by decide +kernel, by decide +kernel⟩, by decide⟩, wd_445, wd_15, ⟨_, rfl, rfl, rfl⟩⟩
theorem wd_447 : Cond.methodLink RX5 264 yX5_addToTenant ∈ gTb := gIn 447 (by decide +kernel) (by decide +kernel)
theorem wd_450 : Cond.code yX5_addToTenant cX5_addToTenant 3 none ∈ gTb := gIn 450 (by decide +kernel) (by decide +kernel)
theorem wd_449 : Cond.instanceMethod yX5_addToTenant ∈ gTb := gIn 449 (by decide +kernel) (by decide +kernel)
theorem wd_16 : Cond.selects (yX5_addToTenant).cls yX5_addToTenant yX5_addToTenant ∈ gTb := gIn 16 (by decide +kernel) (by decide +kernel)
theorem kX5_264 {y : MethodName} (hy : y.cls = RX5) : gLv y 264 5 15 yX5_addToTenant cX5_addToTenant 3 none 2 := ⟨⟨Or.inl (by rw [hy]; exact wd_447), wd_52, wd_450, ⟨by decide +kernel, by decide +kernel, by decide +kernel⟩, by decide⟩, wd_449, wd_16, ⟨_, rfl, rfl, rfl⟩⟩
theorem wd_451 : Cond.methodLinkNest RX5 267 yX3_hasCopied "ShardHarbour" ∈ gNs := gInN 451 (by decide +kernel) (by decide +kernel)
theorem wd_454 : Cond.code yX3_hasCopied cX3_hasCopied 2 (some .boolean) ∈ gTb := gIn 454 (by decide +kernel) (by decide +kernel)
theorem wd_453 : Cond.instanceMethod yX3_hasCopied ∈ gTb := gIn 453 (by decide +kernel) (by decide +kernel)
theorem wd_17 : Cond.selects (yX3_hasCopied).cls yX3_hasCopied yX3_hasCopied ∈ gTb := gIn 17 (by decide +kernel) (by decide +kernel)
theorem kX5_267 {y : MethodName} (hy : y.cls = RX5) : gLv y 267 3 9 yX3_hasCopied cX3_hasCopied 2 (some .boolean) 1 := ⟨⟨Or.inr ⟨"ShardHarbour", by rw [hy]; exact wd_451⟩, wd_55, wd_454, ⟨by decide +kernel, by decide +kernel, by decide +kernel⟩, by decide⟩, wd_453, wd_17, ⟨_, rfl, rfl, rfl⟩⟩
theorem wd_455 : Cond.methodLink RX3 27 yX3_isMoving ∈ gTb := gIn 455 (by decide +kernel) (by decide +kernel)
theorem kX3_27 {y : MethodName} (hy : y.cls = RX3) : gLv y 27 3 9 yX3_isMoving cX3_isMoving 1 (some .boolean) 0 := ⟨⟨Or.inl (by rw [hy]; exact wd_455), wd_55, wd_349, ⟨by decide +kernel, by decide +kernel, by decide +kernel⟩, by decide⟩, wd_348, wd_4, ⟨_, rfl, rfl, rfl⟩⟩
theorem wd_456 : Cond.methodLink RX5 270 yX5_changeCopy ∈ gTb := gIn 456 (by decide +kernel) (by decide +kernel)
theorem wd_459 : Cond.code yX5_changeCopy cX5_changeCopy 3 none ∈ gTb := gIn 459 (by decide +kernel) (by decide +kernel)
theorem wd_458 : Cond.instanceMethod yX5_changeCopy ∈ gTb := gIn 458 (by decide +kernel) (by decide +kernel)
theorem wd_18 : Cond.selects (yX5_changeCopy).cls yX5_changeCopy yX5_changeCopy ∈ gTb := gIn 18 (by decide +kernel) (by decide +kernel)
theorem kX5_270 {y : MethodName} (hy : y.cls = RX5) : gLv y 270 5 15 yX5_changeCopy cX5_changeCopy 3 none 2 := ⟨⟨Or.inl (by rw [hy]; exact wd_456), wd_52, wd_459, ⟨by decide +kernel, by decide +kernel, by decide +kernel⟩, by decide⟩, wd_458, wd_18, ⟨_, rfl, rfl, rfl⟩⟩
theorem wd_460 : Cond.methodLink RL 102 yL_take ∈ gTb := gIn 460 (by decide +kernel) (by decide +kernel)
theorem wd_463 : Cond.methodLink RL 34 yX5_take ∈ gTb := gIn 463 (by decide +kernel) (by decide +kernel)
theorem wd_466 : Cond.code yX5_take cX5_take 4 (some .int) ∈ gTb := gIn 466 (by decide +kernel) (by decide +kernel)
theorem wd_464 : Cond.instanceMethod yX5_take ∈ gTb := gIn 464 (by decide +kernel) (by decide +kernel)
theorem wd_465 : Cond.selects (yX5_take).cls yX5_take yX5_take ∈ gTb := gIn 465 (by decide +kernel) (by decide +kernel)
theorem kL_34 {y : MethodName} (hy : y.cls = RL) : gLv y 34 5 15 yX5_take cX5_take 4 (some .int) 1 := ⟨⟨Or.inl (by rw [hy]; exact wd_463), wd_52, wd_466, ⟨by decide +kernel, by decide +kernel, by decide +kernel⟩, by decide⟩, wd_464, wd_465, ⟨_, rfl, rfl, rfl⟩⟩
theorem wd_469 : Cond.methodLink RL 105 yL_read ∈ gTb := gIn 469 (by decide +kernel) (by decide +kernel)
theorem wd_472 : Cond.methodLink RL 37 yX5_read ∈ gTb := gIn 472 (by decide +kernel) (by decide +kernel)
theorem wd_475 : Cond.code yX5_read cX5_read 3 (some .int) ∈ gTb := gIn 475 (by decide +kernel) (by decide +kernel)
theorem wd_473 : Cond.instanceMethod yX5_read ∈ gTb := gIn 473 (by decide +kernel) (by decide +kernel)
theorem wd_474 : Cond.selects (yX5_read).cls yX5_read yX5_read ∈ gTb := gIn 474 (by decide +kernel) (by decide +kernel)
theorem kL_37 {y : MethodName} (hy : y.cls = RL) : gLv y 37 5 15 yX5_read cX5_read 3 (some .int) 1 := ⟨⟨Or.inl (by rw [hy]; exact wd_472), wd_52, wd_475, ⟨by decide +kernel, by decide +kernel, by decide +kernel⟩, by decide⟩, wd_473, wd_474, ⟨_, rfl, rfl, rfl⟩⟩
theorem wd_477 : Cond.methodLink RL 108 yL_split ∈ gTb := gIn 477 (by decide +kernel) (by decide +kernel)
theorem wd_480 : Cond.methodLink RL 40 yX5_split ∈ gTb := gIn 480 (by decide +kernel) (by decide +kernel)
theorem wd_483 : Cond.code yX5_split cX5_split 6 (some .int) ∈ gTb := gIn 483 (by decide +kernel) (by decide +kernel)
theorem wd_481 : Cond.instanceMethod yX5_split ∈ gTb := gIn 481 (by decide +kernel) (by decide +kernel)
theorem wd_482 : Cond.selects (yX5_split).cls yX5_split yX5_split ∈ gTb := gIn 482 (by decide +kernel) (by decide +kernel)
theorem kL_40 {y : MethodName} (hy : y.cls = RL) : gLv y 40 5 15 yX5_split cX5_split 6 (some .int) 1 := ⟨⟨Or.inl (by rw [hy]; exact wd_480), wd_52, wd_483, ⟨by decide +kernel, by decide +kernel, by decide +kernel⟩, by decide⟩, wd_481, wd_482, ⟨_, rfl, rfl, rfl⟩⟩
theorem wd_486 : Cond.methodLink RX5 156 yX5_cutInTwo ∈ gTb := gIn 486 (by decide +kernel) (by decide +kernel)
theorem wd_489 : Cond.code yX5_cutInTwo cX5_cutInTwo 4 none ∈ gTb := gIn 489 (by decide +kernel) (by decide +kernel)
theorem wd_488 : Cond.instanceMethod yX5_cutInTwo ∈ gTb := gIn 488 (by decide +kernel) (by decide +kernel)
theorem wd_19 : Cond.selects (yX5_cutInTwo).cls yX5_cutInTwo yX5_cutInTwo ∈ gTb := gIn 19 (by decide +kernel) (by decide +kernel)
theorem kX5_156 {y : MethodName} (hy : y.cls = RX5) : gLv y 156 5 15 yX5_cutInTwo cX5_cutInTwo 4 none 3 := ⟨⟨Or.inl (by rw [hy]; exact wd_486), wd_52, wd_489, ⟨by decide +kernel, by decide +kernel, by decide +kernel⟩, by decide⟩, wd_488, wd_19, ⟨_, rfl, rfl, rfl⟩⟩
theorem wd_490 : Cond.methodLink RX5 274 yX5_bytesBetween ∈ gTb := gIn 490 (by decide +kernel) (by decide +kernel)
theorem wd_493 : Cond.code yX5_bytesBetween cX5_bytesBetween 5 (some .int) ∈ gTb := gIn 493 (by decide +kernel) (by decide +kernel)
theorem wd_492 : Cond.instanceMethod yX5_bytesBetween ∈ gTb := gIn 492 (by decide +kernel) (by decide +kernel)
theorem wd_20 : Cond.selects (yX5_bytesBetween).cls yX5_bytesBetween yX5_bytesBetween ∈ gTb := gIn 20 (by decide +kernel) (by decide +kernel)
theorem kX5_274 {y : MethodName} (hy : y.cls = RX5) : gLv y 274 5 15 yX5_bytesBetween cX5_bytesBetween 5 (some .int) 2 := ⟨⟨Or.inl (by rw [hy]; exact wd_490), wd_52, wd_493, ⟨by decide +kernel, by decide +kernel, by decide +kernel⟩, by decide⟩, wd_492, wd_20, ⟨_, rfl, rfl, rfl⟩⟩
theorem wd_494 : Cond.methodLink RL 111 yL_join ∈ gTb := gIn 494 (by decide +kernel) (by decide +kernel)
theorem wd_497 : Cond.methodLink RL 43 yX5_join ∈ gTb := gIn 497 (by decide +kernel) (by decide +kernel)
theorem wd_500 : Cond.code yX5_join cX5_join 5 (some .int) ∈ gTb := gIn 500 (by decide +kernel) (by decide +kernel)
theorem wd_498 : Cond.instanceMethod yX5_join ∈ gTb := gIn 498 (by decide +kernel) (by decide +kernel)
theorem wd_499 : Cond.selects (yX5_join).cls yX5_join yX5_join ∈ gTb := gIn 499 (by decide +kernel) (by decide +kernel)
theorem kL_43 {y : MethodName} (hy : y.cls = RL) : gLv y 43 5 15 yX5_join cX5_join 5 (some .int) 1 := ⟨⟨Or.inl (by rw [hy]; exact wd_497), wd_52, wd_500, ⟨by decide +kernel, by decide +kernel, by decide +kernel⟩, by decide⟩, wd_498, wd_499, ⟨_, rfl, rfl, rfl⟩⟩
theorem wd_501 : Cond.methodLink RX5 160 yX5_isShard ∈ gTb := gIn 501 (by decide +kernel) (by decide +kernel)
theorem wd_504 : Cond.code yX5_isShard cX5_isShard 2 (some .boolean) ∈ gTb := gIn 504 (by decide +kernel) (by decide +kernel)
theorem wd_503 : Cond.instanceMethod yX5_isShard ∈ gTb := gIn 503 (by decide +kernel) (by decide +kernel)
theorem wd_21 : Cond.selects (yX5_isShard).cls yX5_isShard yX5_isShard ∈ gTb := gIn 21 (by decide +kernel) (by decide +kernel)
theorem kX5_160 {y : MethodName} (hy : y.cls = RX5) : gLv y 160 5 15 yX5_isShard cX5_isShard 2 (some .boolean) 1 := ⟨⟨Or.inl (by rw [hy]; exact wd_501), wd_52, wd_504, ⟨by decide +kernel, by decide +kernel, by decide +kernel⟩, by decide⟩, wd_503, wd_21, ⟨_, rfl, rfl, rfl⟩⟩
theorem wd_506 : Cond.methodLink RX5 165 yX5_canBeJoined ∈ gTb := gIn 506 (by decide +kernel) (by decide +kernel)
theorem wd_509 : Cond.code yX5_canBeJoined cX5_canBeJoined 3 (some .boolean) ∈ gTb := gIn 509 (by decide +kernel) (by decide +kernel)
theorem wd_508 : Cond.instanceMethod yX5_canBeJoined ∈ gTb := gIn 508 (by decide +kernel) (by decide +kernel)
theorem wd_22 : Cond.selects (yX5_canBeJoined).cls yX5_canBeJoined yX5_canBeJoined ∈ gTb := gIn 22 (by decide +kernel) (by decide +kernel)
theorem kX5_165 {y : MethodName} (hy : y.cls = RX5) : gLv y 165 5 15 yX5_canBeJoined cX5_canBeJoined 3 (some .boolean) 2 := ⟨⟨Or.inl (by rw [hy]; exact wd_506), wd_52, wd_509, ⟨by decide +kernel, by decide +kernel, by decide +kernel⟩, by decide⟩, wd_508, wd_22, ⟨_, rfl, rfl, rfl⟩⟩
theorem wd_511 : Cond.methodLink RL 114 yL_move ∈ gTb := gIn 511 (by decide +kernel) (by decide +kernel)
theorem wd_514 : Cond.methodLink RL 46 yX5_move ∈ gTb := gIn 514 (by decide +kernel) (by decide +kernel)
theorem wd_517 : Cond.code yX5_move cX5_move 5 (some .int) ∈ gTb := gIn 517 (by decide +kernel) (by decide +kernel)
theorem wd_515 : Cond.instanceMethod yX5_move ∈ gTb := gIn 515 (by decide +kernel) (by decide +kernel)
theorem wd_516 : Cond.selects (yX5_move).cls yX5_move yX5_move ∈ gTb := gIn 516 (by decide +kernel) (by decide +kernel)
theorem kL_46 {y : MethodName} (hy : y.cls = RL) : gLv y 46 5 15 yX5_move cX5_move 5 (some .int) 2 := ⟨⟨Or.inl (by rw [hy]; exact wd_514), wd_52, wd_517, ⟨by decide +kernel, by decide +kernel, by decide +kernel⟩, by decide⟩, wd_515, wd_516, ⟨_, rfl, rfl, rfl⟩⟩
theorem wd_520 : Cond.methodLink RL 117 yL_callOff ∈ gTb := gIn 520 (by decide +kernel) (by decide +kernel)
theorem wd_523 : Cond.methodLink RL 49 yX5_callOff ∈ gTb := gIn 523 (by decide +kernel) (by decide +kernel)
theorem wd_526 : Cond.code yX5_callOff cX5_callOff 3 (some .int) ∈ gTb := gIn 526 (by decide +kernel) (by decide +kernel)
theorem wd_524 : Cond.instanceMethod yX5_callOff ∈ gTb := gIn 524 (by decide +kernel) (by decide +kernel)
theorem wd_525 : Cond.selects (yX5_callOff).cls yX5_callOff yX5_callOff ∈ gTb := gIn 525 (by decide +kernel) (by decide +kernel)
theorem kL_49 {y : MethodName} (hy : y.cls = RL) : gLv y 49 5 15 yX5_callOff cX5_callOff 3 (some .int) 1 := ⟨⟨Or.inl (by rw [hy]; exact wd_523), wd_52, wd_526, ⟨by decide +kernel, by decide +kernel, by decide +kernel⟩, by decide⟩, wd_524, wd_525, ⟨_, rfl, rfl, rfl⟩⟩
theorem wd_528 : Cond.methodLink RL 120 yL_pass ∈ gTb := gIn 528 (by decide +kernel) (by decide +kernel)
theorem wd_531 : Cond.methodLink RL 52 yX5_pass ∈ gTb := gIn 531 (by decide +kernel) (by decide +kernel)
theorem wd_534 : Cond.code yX5_pass cX5_pass 3 (some .int) ∈ gTb := gIn 534 (by decide +kernel) (by decide +kernel)
theorem wd_532 : Cond.instanceMethod yX5_pass ∈ gTb := gIn 532 (by decide +kernel) (by decide +kernel)
theorem wd_533 : Cond.selects (yX5_pass).cls yX5_pass yX5_pass ∈ gTb := gIn 533 (by decide +kernel) (by decide +kernel)
theorem kL_52 {y : MethodName} (hy : y.cls = RL) : gLv y 52 5 15 yX5_pass cX5_pass 3 (some .int) 1 := ⟨⟨Or.inl (by rw [hy]; exact wd_531), wd_52, wd_534, ⟨by decide +kernel, by decide +kernel, by decide +kernel⟩, by decide⟩, wd_532, wd_533, ⟨_, rfl, rfl, rfl⟩⟩
theorem wd_537 : Cond.methodLink RX5 198 yX5_passOneHour ∈ gTb := gIn 537 (by decide +kernel) (by decide +kernel)
theorem wd_540 : Cond.code yX5_passOneHour cX5_passOneHour 2 none ∈ gTb := gIn 540 (by decide +kernel) (by decide +kernel)
theorem wd_539 : Cond.instanceMethod yX5_passOneHour ∈ gTb := gIn 539 (by decide +kernel) (by decide +kernel)
theorem wd_23 : Cond.selects (yX5_passOneHour).cls yX5_passOneHour yX5_passOneHour ∈ gTb := gIn 23 (by decide +kernel) (by decide +kernel)
theorem kX5_198 {y : MethodName} (hy : y.cls = RX5) : gLv y 198 5 15 yX5_passOneHour cX5_passOneHour 2 none 0 := ⟨⟨Or.inl (by rw [hy]; exact wd_537), wd_52, wd_540, ⟨by decide +kernel, by decide +kernel, by decide +kernel⟩, by decide⟩, wd_539, wd_23, ⟨_, rfl, rfl, rfl⟩⟩
theorem wd_541 : Cond.methodLink RX5 293 yX5_copyForOneHour ∈ gTb := gIn 541 (by decide +kernel) (by decide +kernel)
theorem wd_544 : Cond.code yX5_copyForOneHour cX5_copyForOneHour 4 none ∈ gTb := gIn 544 (by decide +kernel) (by decide +kernel)
theorem wd_543 : Cond.instanceMethod yX5_copyForOneHour ∈ gTb := gIn 543 (by decide +kernel) (by decide +kernel)
theorem wd_24 : Cond.selects (yX5_copyForOneHour).cls yX5_copyForOneHour yX5_copyForOneHour ∈ gTb := gIn 24 (by decide +kernel) (by decide +kernel)
theorem kX5_293 {y : MethodName} (hy : y.cls = RX5) : gLv y 293 5 15 yX5_copyForOneHour cX5_copyForOneHour 4 none 1 := ⟨⟨Or.inl (by rw [hy]; exact wd_541), wd_52, wd_544, ⟨by decide +kernel, by decide +kernel, by decide +kernel⟩, by decide⟩, wd_543, wd_24, ⟨_, rfl, rfl, rfl⟩⟩
theorem wd_545 : Cond.methodLinkNest RX5 287 yX3_takeCopy "ShardHarbour" ∈ gNs := gInN 545 (by decide +kernel) (by decide +kernel)
theorem wd_548 : Cond.code yX3_takeCopy cX3_takeCopy 2 none ∈ gTb := gIn 548 (by decide +kernel) (by decide +kernel)
theorem wd_547 : Cond.instanceMethod yX3_takeCopy ∈ gTb := gIn 547 (by decide +kernel) (by decide +kernel)
theorem wd_25 : Cond.selects (yX3_takeCopy).cls yX3_takeCopy yX3_takeCopy ∈ gTb := gIn 25 (by decide +kernel) (by decide +kernel)
theorem kX5_287 {y : MethodName} (hy : y.cls = RX5) : gLv y 287 3 9 yX3_takeCopy cX3_takeCopy 2 none 1 := ⟨⟨Or.inr ⟨"ShardHarbour", by rw [hy]; exact wd_545⟩, wd_55, wd_548, ⟨by decide +kernel, by decide +kernel, by decide +kernel⟩, by decide⟩, wd_547, wd_25, ⟨_, rfl, rfl, rfl⟩⟩
theorem wd_549 : Cond.methodLink RX5 290 yX5_cutOver ∈ gTb := gIn 549 (by decide +kernel) (by decide +kernel)
theorem wd_552 : Cond.code yX5_cutOver cX5_cutOver 2 none ∈ gTb := gIn 552 (by decide +kernel) (by decide +kernel)
theorem wd_551 : Cond.instanceMethod yX5_cutOver ∈ gTb := gIn 551 (by decide +kernel) (by decide +kernel)
theorem wd_26 : Cond.selects (yX5_cutOver).cls yX5_cutOver yX5_cutOver ∈ gTb := gIn 26 (by decide +kernel) (by decide +kernel)
theorem kX5_290 {y : MethodName} (hy : y.cls = RX5) : gLv y 290 5 15 yX5_cutOver cX5_cutOver 2 none 1 := ⟨⟨Or.inl (by rw [hy]; exact wd_549), wd_52, wd_552, ⟨by decide +kernel, by decide +kernel, by decide +kernel⟩, by decide⟩, wd_551, wd_26, ⟨_, rfl, rfl, rfl⟩⟩
theorem wd_555 : Cond.methodLinkNest RX5 278 yX1_init "ShardHarbour" ∈ gNs := gInN 555 (by decide +kernel) (by decide +kernel)
theorem wd_64 : Cond.initialized RX1 ∈ gTb := gIn 64 (by decide +kernel) (by decide +kernel)
theorem wd_557 : Cond.code yX1_init cX1_init 5 none ∈ gTb := gIn 557 (by decide +kernel) (by decide +kernel)
theorem wd_556 : Cond.instanceMethod yX1_init ∈ gTb := gIn 556 (by decide +kernel) (by decide +kernel)
theorem kX5_278 {y : MethodName} (hy : y.cls = RX5) : gLk y 278 yX1_init cX1_init 5 none 4 ∧ Cond.instanceMethod yX1_init ∈ gTb := ⟨⟨Or.inr ⟨"ShardHarbour", by rw [hy]; exact wd_555⟩, wd_64, wd_557, ⟨by decide +kernel, by decide +kernel, by decide +kernel⟩, by decide⟩, wd_556⟩
theorem wd_558 : Cond.methodLink RX1 1 objectInit ∈ gTb := gIn 558 (by decide +kernel) (by decide +kernel)
theorem koX1 {y : MethodName} (hy : y.cls = RX1) : Cond.methodLink y.cls 1 objectInit ∈ gTb ∧ Cond.instanceMethod objectInit ∈ gTb ∧ Cond.code objectInit ⟨#[0xb1]⟩ 1 none ∈ gTb := ⟨by rw [hy]; exact wd_558, wd_71, wd_72⟩
theorem wd_576 : Cond.methodLink RX5 296 yX5_drawMoveByHeat ∈ gTb := gIn 576 (by decide +kernel) (by decide +kernel)
theorem wd_579 : Cond.code yX5_drawMoveByHeat cX5_drawMoveByHeat 4 none ∈ gTb := gIn 579 (by decide +kernel) (by decide +kernel)
theorem wd_578 : Cond.instanceMethod yX5_drawMoveByHeat ∈ gTb := gIn 578 (by decide +kernel) (by decide +kernel)
theorem wd_27 : Cond.selects (yX5_drawMoveByHeat).cls yX5_drawMoveByHeat yX5_drawMoveByHeat ∈ gTb := gIn 27 (by decide +kernel) (by decide +kernel)
theorem kX5_296 {y : MethodName} (hy : y.cls = RX5) : gLv y 296 5 15 yX5_drawMoveByHeat cX5_drawMoveByHeat 4 none 0 := ⟨⟨Or.inl (by rw [hy]; exact wd_576), wd_52, wd_579, ⟨by decide +kernel, by decide +kernel, by decide +kernel⟩, by decide⟩, wd_578, wd_27, ⟨_, rfl, rfl, rfl⟩⟩
theorem wd_580 : Cond.methodLink RX5 299 yX5_hottestMachineUp ∈ gTb := gIn 580 (by decide +kernel) (by decide +kernel)
theorem wd_583 : Cond.code yX5_hottestMachineUp cX5_hottestMachineUp 4 (some (.object "ShardHarbour$Machine")) ∈ gTb := gIn 583 (by decide +kernel) (by decide +kernel)
theorem wd_582 : Cond.instanceMethod yX5_hottestMachineUp ∈ gTb := gIn 582 (by decide +kernel) (by decide +kernel)
theorem wd_28 : Cond.selects (yX5_hottestMachineUp).cls yX5_hottestMachineUp yX5_hottestMachineUp ∈ gTb := gIn 28 (by decide +kernel) (by decide +kernel)
theorem kX5_299 {y : MethodName} (hy : y.cls = RX5) : gLv y 299 5 15 yX5_hottestMachineUp cX5_hottestMachineUp 4 (some (.object "ShardHarbour$Machine")) 0 := ⟨⟨Or.inl (by rw [hy]; exact wd_580), wd_52, wd_583, ⟨by decide +kernel, by decide +kernel, by decide +kernel⟩, by decide⟩, wd_582, wd_28, ⟨_, rfl, rfl, rfl⟩⟩
theorem wd_584 : Cond.methodLink RX5 209 yX5_heatOf ∈ gTb := gIn 584 (by decide +kernel) (by decide +kernel)
theorem wd_587 : Cond.code yX5_heatOf cX5_heatOf 4 (some .int) ∈ gTb := gIn 587 (by decide +kernel) (by decide +kernel)
theorem wd_586 : Cond.instanceMethod yX5_heatOf ∈ gTb := gIn 586 (by decide +kernel) (by decide +kernel)
theorem wd_29 : Cond.selects (yX5_heatOf).cls yX5_heatOf yX5_heatOf ∈ gTb := gIn 29 (by decide +kernel) (by decide +kernel)
theorem kX5_209 {y : MethodName} (hy : y.cls = RX5) : gLv y 209 5 15 yX5_heatOf cX5_heatOf 4 (some .int) 1 := ⟨⟨Or.inl (by rw [hy]; exact wd_584), wd_52, wd_587, ⟨by decide +kernel, by decide +kernel, by decide +kernel⟩, by decide⟩, wd_586, wd_29, ⟨_, rfl, rfl, rfl⟩⟩
theorem wd_588 : Cond.methodLink RX5 303 yX5_coldestMachineUp ∈ gTb := gIn 588 (by decide +kernel) (by decide +kernel)
theorem wd_591 : Cond.code yX5_coldestMachineUp cX5_coldestMachineUp 4 (some (.object "ShardHarbour$Machine")) ∈ gTb := gIn 591 (by decide +kernel) (by decide +kernel)
theorem wd_590 : Cond.instanceMethod yX5_coldestMachineUp ∈ gTb := gIn 590 (by decide +kernel) (by decide +kernel)
theorem wd_30 : Cond.selects (yX5_coldestMachineUp).cls yX5_coldestMachineUp yX5_coldestMachineUp ∈ gTb := gIn 30 (by decide +kernel) (by decide +kernel)
theorem kX5_303 {y : MethodName} (hy : y.cls = RX5) : gLv y 303 5 15 yX5_coldestMachineUp cX5_coldestMachineUp 4 (some (.object "ShardHarbour$Machine")) 0 := ⟨⟨Or.inl (by rw [hy]; exact wd_588), wd_52, wd_591, ⟨by decide +kernel, by decide +kernel, by decide +kernel⟩, by decide⟩, wd_590, wd_30, ⟨_, rfl, rfl, rfl⟩⟩
theorem wd_592 : Cond.methodLink RX5 306 yX5_movesAwayFrom ∈ gTb := gIn 592 (by decide +kernel) (by decide +kernel)
theorem wd_595 : Cond.code yX5_movesAwayFrom cX5_movesAwayFrom 3 (some .boolean) ∈ gTb := gIn 595 (by decide +kernel) (by decide +kernel)
theorem wd_594 : Cond.instanceMethod yX5_movesAwayFrom ∈ gTb := gIn 594 (by decide +kernel) (by decide +kernel)
theorem wd_31 : Cond.selects (yX5_movesAwayFrom).cls yX5_movesAwayFrom yX5_movesAwayFrom ∈ gTb := gIn 31 (by decide +kernel) (by decide +kernel)
theorem kX5_306 {y : MethodName} (hy : y.cls = RX5) : gLv y 306 5 15 yX5_movesAwayFrom cX5_movesAwayFrom 3 (some .boolean) 1 := ⟨⟨Or.inl (by rw [hy]; exact wd_592), wd_52, wd_595, ⟨by decide +kernel, by decide +kernel, by decide +kernel⟩, by decide⟩, wd_594, wd_31, ⟨_, rfl, rfl, rfl⟩⟩
theorem wd_596 : Cond.methodLink RX5 310 yX5_hottestShardOn ∈ gTb := gIn 596 (by decide +kernel) (by decide +kernel)
theorem wd_599 : Cond.code yX5_hottestShardOn cX5_hottestShardOn 4 (some .int) ∈ gTb := gIn 599 (by decide +kernel) (by decide +kernel)
theorem wd_598 : Cond.instanceMethod yX5_hottestShardOn ∈ gTb := gIn 598 (by decide +kernel) (by decide +kernel)
theorem wd_32 : Cond.selects (yX5_hottestShardOn).cls yX5_hottestShardOn yX5_hottestShardOn ∈ gTb := gIn 32 (by decide +kernel) (by decide +kernel)
theorem kX5_310 {y : MethodName} (hy : y.cls = RX5) : gLv y 310 5 15 yX5_hottestShardOn cX5_hottestShardOn 4 (some .int) 1 := ⟨⟨Or.inl (by rw [hy]; exact wd_596), wd_52, wd_599, ⟨by decide +kernel, by decide +kernel, by decide +kernel⟩, by decide⟩, wd_598, wd_32, ⟨_, rfl, rfl, rfl⟩⟩
theorem wd_600 : Cond.methodLink RL 131 yL_shardOf ∈ gTb := gIn 600 (by decide +kernel) (by decide +kernel)
theorem wd_603 : Cond.methodLink RL 55 yX5_shardOf ∈ gTb := gIn 603 (by decide +kernel) (by decide +kernel)
theorem wd_606 : Cond.code yX5_shardOf cX5_shardOf 2 (some .int) ∈ gTb := gIn 606 (by decide +kernel) (by decide +kernel)
theorem wd_604 : Cond.instanceMethod yX5_shardOf ∈ gTb := gIn 604 (by decide +kernel) (by decide +kernel)
theorem wd_605 : Cond.selects (yX5_shardOf).cls yX5_shardOf yX5_shardOf ∈ gTb := gIn 605 (by decide +kernel) (by decide +kernel)
theorem kL_55 {y : MethodName} (hy : y.cls = RL) : gLv y 55 5 15 yX5_shardOf cX5_shardOf 2 (some .int) 1 := ⟨⟨Or.inl (by rw [hy]; exact wd_603), wd_52, wd_606, ⟨by decide +kernel, by decide +kernel, by decide +kernel⟩, by decide⟩, wd_604, wd_605, ⟨_, rfl, rfl, rfl⟩⟩
theorem wd_607 : Cond.methodLink RL 134 yL_shard ∈ gTb := gIn 607 (by decide +kernel) (by decide +kernel)
theorem wd_610 : Cond.methodLink RL 58 yX5_shard ∈ gTb := gIn 610 (by decide +kernel) (by decide +kernel)
theorem wd_613 : Cond.code yX5_shard cX5_shard 4 (some .int) ∈ gTb := gIn 613 (by decide +kernel) (by decide +kernel)
theorem wd_611 : Cond.instanceMethod yX5_shard ∈ gTb := gIn 611 (by decide +kernel) (by decide +kernel)
theorem wd_612 : Cond.selects (yX5_shard).cls yX5_shard yX5_shard ∈ gTb := gIn 612 (by decide +kernel) (by decide +kernel)
theorem kL_58 {y : MethodName} (hy : y.cls = RL) : gLv y 58 5 15 yX5_shard cX5_shard 4 (some .int) 2 := ⟨⟨Or.inl (by rw [hy]; exact wd_610), wd_52, wd_613, ⟨by decide +kernel, by decide +kernel, by decide +kernel⟩, by decide⟩, wd_611, wd_612, ⟨_, rfl, rfl, rfl⟩⟩
theorem wd_615 : Cond.methodLink RL 137 yL_machineOf ∈ gTb := gIn 615 (by decide +kernel) (by decide +kernel)
theorem wd_618 : Cond.methodLink RL 61 yX5_machineOf ∈ gTb := gIn 618 (by decide +kernel) (by decide +kernel)
theorem wd_621 : Cond.code yX5_machineOf cX5_machineOf 4 (some .int) ∈ gTb := gIn 621 (by decide +kernel) (by decide +kernel)
theorem wd_619 : Cond.instanceMethod yX5_machineOf ∈ gTb := gIn 619 (by decide +kernel) (by decide +kernel)
theorem wd_620 : Cond.selects (yX5_machineOf).cls yX5_machineOf yX5_machineOf ∈ gTb := gIn 620 (by decide +kernel) (by decide +kernel)
theorem kL_61 {y : MethodName} (hy : y.cls = RL) : gLv y 61 5 15 yX5_machineOf cX5_machineOf 4 (some .int) 2 := ⟨⟨Or.inl (by rw [hy]; exact wd_618), wd_52, wd_621, ⟨by decide +kernel, by decide +kernel, by decide +kernel⟩, by decide⟩, wd_619, wd_620, ⟨_, rfl, rfl, rfl⟩⟩
theorem wd_622 : Cond.methodLink RX5 213 yX5_shardCountOn ∈ gTb := gIn 622 (by decide +kernel) (by decide +kernel)
theorem wd_625 : Cond.code yX5_shardCountOn cX5_shardCountOn 4 (some .int) ∈ gTb := gIn 625 (by decide +kernel) (by decide +kernel)
theorem wd_624 : Cond.instanceMethod yX5_shardCountOn ∈ gTb := gIn 624 (by decide +kernel) (by decide +kernel)
theorem wd_33 : Cond.selects (yX5_shardCountOn).cls yX5_shardCountOn yX5_shardCountOn ∈ gTb := gIn 33 (by decide +kernel) (by decide +kernel)
theorem kX5_213 {y : MethodName} (hy : y.cls = RX5) : gLv y 213 5 15 yX5_shardCountOn cX5_shardCountOn 4 (some .int) 1 := ⟨⟨Or.inl (by rw [hy]; exact wd_622), wd_52, wd_625, ⟨by decide +kernel, by decide +kernel, by decide +kernel⟩, by decide⟩, wd_624, wd_33, ⟨_, rfl, rfl, rfl⟩⟩
theorem wd_626 : Cond.methodLink RL 140 yL_tenant ∈ gTb := gIn 626 (by decide +kernel) (by decide +kernel)
theorem wd_629 : Cond.methodLink RL 64 yX5_tenant ∈ gTb := gIn 629 (by decide +kernel) (by decide +kernel)
theorem wd_632 : Cond.code yX5_tenant cX5_tenant 4 (some .int) ∈ gTb := gIn 632 (by decide +kernel) (by decide +kernel)
theorem wd_630 : Cond.instanceMethod yX5_tenant ∈ gTb := gIn 630 (by decide +kernel) (by decide +kernel)
theorem wd_631 : Cond.selects (yX5_tenant).cls yX5_tenant yX5_tenant ∈ gTb := gIn 631 (by decide +kernel) (by decide +kernel)
theorem kL_64 {y : MethodName} (hy : y.cls = RL) : gLv y 64 5 15 yX5_tenant cX5_tenant 4 (some .int) 2 := ⟨⟨Or.inl (by rw [hy]; exact wd_629), wd_52, wd_632, ⟨by decide +kernel, by decide +kernel, by decide +kernel⟩, by decide⟩, wd_630, wd_631, ⟨_, rfl, rfl, rfl⟩⟩
theorem wd_633 : Cond.methodLink RL 143 yL_billAnew ∈ gTb := gIn 633 (by decide +kernel) (by decide +kernel)
theorem wd_636 : Cond.methodLink RL 67 yX5_billAnew ∈ gTb := gIn 636 (by decide +kernel) (by decide +kernel)
theorem wd_639 : Cond.code yX5_billAnew cX5_billAnew 4 (some .int) ∈ gTb := gIn 639 (by decide +kernel) (by decide +kernel)
theorem wd_637 : Cond.instanceMethod yX5_billAnew ∈ gTb := gIn 637 (by decide +kernel) (by decide +kernel)
theorem wd_638 : Cond.selects (yX5_billAnew).cls yX5_billAnew yX5_billAnew ∈ gTb := gIn 638 (by decide +kernel) (by decide +kernel)
theorem kL_67 {y : MethodName} (hy : y.cls = RL) : gLv y 67 5 15 yX5_billAnew cX5_billAnew 4 (some .int) 1 := ⟨⟨Or.inl (by rw [hy]; exact wd_636), wd_52, wd_639, ⟨by decide +kernel, by decide +kernel, by decide +kernel⟩, by decide⟩, wd_637, wd_638, ⟨_, rfl, rfl, rfl⟩⟩
theorem wd_640 : Cond.methodLinkNest RX5 223 yX0_moreBytesOf "ShardHarbour" ∈ gNs := gInN 640 (by decide +kernel) (by decide +kernel)
theorem wd_643 : Cond.code yX0_moreBytesOf cX0_moreBytesOf 4 (some .int) ∈ gTb := gIn 643 (by decide +kernel) (by decide +kernel)
theorem wd_642 : Cond.instanceMethod yX0_moreBytesOf ∈ gTb := gIn 642 (by decide +kernel) (by decide +kernel)
theorem wd_34 : Cond.selects (yX0_moreBytesOf).cls yX0_moreBytesOf yX0_moreBytesOf ∈ gTb := gIn 34 (by decide +kernel) (by decide +kernel)
theorem kX5_223 {y : MethodName} (hy : y.cls = RX5) : gLv y 223 0 6 yX0_moreBytesOf cX0_moreBytesOf 4 (some .int) 1 := ⟨⟨Or.inr ⟨"ShardHarbour", by rw [hy]; exact wd_640⟩, wd_63, wd_643, ⟨by decide +kernel, by decide +kernel, by decide +kernel⟩, by decide⟩, wd_642, wd_34, ⟨_, rfl, rfl, rfl⟩⟩
theorem wd_644 : Cond.methodLink RL 146 yL_whereAnew ∈ gTb := gIn 644 (by decide +kernel) (by decide +kernel)
theorem wd_647 : Cond.methodLink RL 70 yX5_whereAnew ∈ gTb := gIn 647 (by decide +kernel) (by decide +kernel)
theorem wd_650 : Cond.code yX5_whereAnew cX5_whereAnew 3 (some .int) ∈ gTb := gIn 650 (by decide +kernel) (by decide +kernel)
theorem wd_648 : Cond.instanceMethod yX5_whereAnew ∈ gTb := gIn 648 (by decide +kernel) (by decide +kernel)
theorem wd_649 : Cond.selects (yX5_whereAnew).cls yX5_whereAnew yX5_whereAnew ∈ gTb := gIn 649 (by decide +kernel) (by decide +kernel)
theorem kL_70 {y : MethodName} (hy : y.cls = RL) : gLv y 70 5 15 yX5_whereAnew cX5_whereAnew 3 (some .int) 1 := ⟨⟨Or.inl (by rw [hy]; exact wd_647), wd_52, wd_650, ⟨by decide +kernel, by decide +kernel, by decide +kernel⟩, by decide⟩, wd_648, wd_649, ⟨_, rfl, rfl, rfl⟩⟩
theorem wd_653 : Cond.methodLink RL 76 yX6_init ∈ gTb := gIn 653 (by decide +kernel) (by decide +kernel)
theorem wd_56 : Cond.initialized RX6 ∈ gTb := gIn 56 (by decide +kernel) (by decide +kernel)
theorem wd_655 : Cond.code yX6_init cX6_init 2 none ∈ gTb := gIn 655 (by decide +kernel) (by decide +kernel)
theorem wd_654 : Cond.instanceMethod yX6_init ∈ gTb := gIn 654 (by decide +kernel) (by decide +kernel)
theorem kL_76 {y : MethodName} (hy : y.cls = RL) : gLk y 76 yX6_init cX6_init 2 none 0 ∧ Cond.instanceMethod yX6_init ∈ gTb := ⟨⟨Or.inl (by rw [hy]; exact wd_653), wd_56, wd_655, ⟨by decide +kernel, by decide +kernel, by decide +kernel⟩, by decide⟩, wd_654⟩
theorem wd_656 : Cond.methodLink RX6 1 objectInit ∈ gTb := gIn 656 (by decide +kernel) (by decide +kernel)
theorem koX6 {y : MethodName} (hy : y.cls = RX6) : Cond.methodLink y.cls 1 objectInit ∈ gTb ∧ Cond.instanceMethod objectInit ∈ gTb ∧ Cond.code objectInit ⟨#[0xb1]⟩ 1 none ∈ gTb := ⟨by rw [hy]; exact wd_656, wd_71, wd_72⟩
theorem wd_719 : Cond.methodLink RL 83 yX6_thrown ∈ gTb := gIn 719 (by decide +kernel) (by decide +kernel)
theorem wd_722 : Cond.code yX6_thrown cX6_thrown 1 (some .int) ∈ gTb := gIn 722 (by decide +kernel) (by decide +kernel)
theorem wd_720 : Cond.instanceMethod yX6_thrown ∈ gTb := gIn 720 (by decide +kernel) (by decide +kernel)
theorem wd_721 : Cond.selects (yX6_thrown).cls yX6_thrown yX6_thrown ∈ gTb := gIn 721 (by decide +kernel) (by decide +kernel)
theorem kL_83 {y : MethodName} (hy : y.cls = RL) : gLv y 83 6 20 yX6_thrown cX6_thrown 1 (some .int) 0 := ⟨⟨Or.inl (by rw [hy]; exact wd_719), wd_56, wd_722, ⟨by decide +kernel, by decide +kernel, by decide +kernel⟩, by decide⟩, wd_720, wd_721, ⟨_, rfl, rfl, rfl⟩⟩
theorem wd_723 : Cond.methodLink RL 82 yX6_machine ∈ gTb := gIn 723 (by decide +kernel) (by decide +kernel)
theorem wd_726 : Cond.code yX6_machine cX6_machine 3 (some .int) ∈ gTb := gIn 726 (by decide +kernel) (by decide +kernel)
theorem wd_724 : Cond.instanceMethod yX6_machine ∈ gTb := gIn 724 (by decide +kernel) (by decide +kernel)
theorem wd_725 : Cond.selects (yX6_machine).cls yX6_machine yX6_machine ∈ gTb := gIn 725 (by decide +kernel) (by decide +kernel)
theorem kL_82 {y : MethodName} (hy : y.cls = RL) : gLv y 82 6 20 yX6_machine cX6_machine 3 (some .int) 1 := ⟨⟨Or.inl (by rw [hy]; exact wd_723), wd_56, wd_726, ⟨by decide +kernel, by decide +kernel, by decide +kernel⟩, by decide⟩, wd_724, wd_725, ⟨_, rfl, rfl, rfl⟩⟩
theorem wd_727 : Cond.methodLink RX6 54 yX6_in ∈ gTb := gIn 727 (by decide +kernel) (by decide +kernel)
theorem wd_729 : Cond.code yX6_in cX6_in 3 (some .boolean) ∈ gTb := gIn 729 (by decide +kernel) (by decide +kernel)
theorem wd_728 : Cond.static yX6_in ∈ gTb := gIn 728 (by decide +kernel) (by decide +kernel)
theorem kX6_54 {y : MethodName} (hy : y.cls = RX6) : gLk y 54 yX6_in cX6_in 3 (some .boolean) 3 ∧ Cond.methodLink y.cls 54 yX6_in ∈ gTb ∧ Cond.static yX6_in ∈ gTb := ⟨⟨Or.inl (by rw [hy]; exact wd_727), wd_56, wd_729, ⟨by decide +kernel, by decide +kernel, by decide +kernel⟩, by decide⟩, by rw [hy]; exact wd_727, wd_728⟩
theorem wd_730 : Cond.methodLink RX6 75 yX6_refused ∈ gTb := gIn 730 (by decide +kernel) (by decide +kernel)
theorem wd_733 : Cond.code yX6_refused cX6_refused 2 (some .boolean) ∈ gTb := gIn 733 (by decide +kernel) (by decide +kernel)
theorem wd_732 : Cond.instanceMethod yX6_refused ∈ gTb := gIn 732 (by decide +kernel) (by decide +kernel)
theorem wd_35 : Cond.selects (yX6_refused).cls yX6_refused yX6_refused ∈ gTb := gIn 35 (by decide +kernel) (by decide +kernel)
theorem kX6_75 {y : MethodName} (hy : y.cls = RX6) : gLv y 75 6 20 yX6_refused cX6_refused 2 (some .boolean) 1 := ⟨⟨Or.inl (by rw [hy]; exact wd_730), wd_56, wd_733, ⟨by decide +kernel, by decide +kernel, by decide +kernel⟩, by decide⟩, wd_732, wd_35, ⟨_, rfl, rfl, rfl⟩⟩
theorem wd_734 : Cond.methodLink RL 90 yX6_down ∈ gTb := gIn 734 (by decide +kernel) (by decide +kernel)
theorem wd_737 : Cond.code yX6_down cX6_down 5 (some .boolean) ∈ gTb := gIn 737 (by decide +kernel) (by decide +kernel)
theorem wd_735 : Cond.instanceMethod yX6_down ∈ gTb := gIn 735 (by decide +kernel) (by decide +kernel)
theorem wd_736 : Cond.selects (yX6_down).cls yX6_down yX6_down ∈ gTb := gIn 736 (by decide +kernel) (by decide +kernel)
theorem kL_90 {y : MethodName} (hy : y.cls = RL) : gLv y 90 6 20 yX6_down cX6_down 5 (some .boolean) 2 := ⟨⟨Or.inl (by rw [hy]; exact wd_734), wd_56, wd_737, ⟨by decide +kernel, by decide +kernel, by decide +kernel⟩, by decide⟩, wd_735, wd_736, ⟨_, rfl, rfl, rfl⟩⟩
theorem wd_738 : Cond.methodLink RX6 79 yX6_isMachine ∈ gTb := gIn 738 (by decide +kernel) (by decide +kernel)
theorem wd_741 : Cond.code yX6_isMachine cX6_isMachine 2 (some .boolean) ∈ gTb := gIn 741 (by decide +kernel) (by decide +kernel)
theorem wd_740 : Cond.instanceMethod yX6_isMachine ∈ gTb := gIn 740 (by decide +kernel) (by decide +kernel)
theorem wd_36 : Cond.selects (yX6_isMachine).cls yX6_isMachine yX6_isMachine ∈ gTb := gIn 36 (by decide +kernel) (by decide +kernel)
theorem kX6_79 {y : MethodName} (hy : y.cls = RX6) : gLv y 79 6 20 yX6_isMachine cX6_isMachine 2 (some .boolean) 1 := ⟨⟨Or.inl (by rw [hy]; exact wd_738), wd_56, wd_741, ⟨by decide +kernel, by decide +kernel, by decide +kernel⟩, by decide⟩, wd_740, wd_36, ⟨_, rfl, rfl, rfl⟩⟩
theorem wd_742 : Cond.methodLink RX6 82 yX6_rollBack ∈ gTb := gIn 742 (by decide +kernel) (by decide +kernel)
theorem wd_745 : Cond.code yX6_rollBack cX6_rollBack 2 none ∈ gTb := gIn 745 (by decide +kernel) (by decide +kernel)
theorem wd_744 : Cond.instanceMethod yX6_rollBack ∈ gTb := gIn 744 (by decide +kernel) (by decide +kernel)
theorem wd_37 : Cond.selects (yX6_rollBack).cls yX6_rollBack yX6_rollBack ∈ gTb := gIn 37 (by decide +kernel) (by decide +kernel)
theorem kX6_82 {y : MethodName} (hy : y.cls = RX6) : gLv y 82 6 20 yX6_rollBack cX6_rollBack 2 none 1 := ⟨⟨Or.inl (by rw [hy]; exact wd_742), wd_56, wd_745, ⟨by decide +kernel, by decide +kernel, by decide +kernel⟩, by decide⟩, wd_744, wd_37, ⟨_, rfl, rfl, rfl⟩⟩
theorem wd_746 : Cond.methodLink RL 94 yX6_quota ∈ gTb := gIn 746 (by decide +kernel) (by decide +kernel)
theorem wd_749 : Cond.code yX6_quota cX6_quota 4 (some .int) ∈ gTb := gIn 749 (by decide +kernel) (by decide +kernel)
theorem wd_747 : Cond.instanceMethod yX6_quota ∈ gTb := gIn 747 (by decide +kernel) (by decide +kernel)
theorem wd_748 : Cond.selects (yX6_quota).cls yX6_quota yX6_quota ∈ gTb := gIn 748 (by decide +kernel) (by decide +kernel)
theorem kL_94 {y : MethodName} (hy : y.cls = RL) : gLv y 94 6 20 yX6_quota cX6_quota 4 (some .int) 2 := ⟨⟨Or.inl (by rw [hy]; exact wd_746), wd_56, wd_749, ⟨by decide +kernel, by decide +kernel, by decide +kernel⟩, by decide⟩, wd_747, wd_748, ⟨_, rfl, rfl, rfl⟩⟩
theorem wd_750 : Cond.methodLink RX6 86 yX6_isTenant ∈ gTb := gIn 750 (by decide +kernel) (by decide +kernel)
theorem wd_752 : Cond.code yX6_isTenant cX6_isTenant 1 (some .boolean) ∈ gTb := gIn 752 (by decide +kernel) (by decide +kernel)
theorem wd_751 : Cond.static yX6_isTenant ∈ gTb := gIn 751 (by decide +kernel) (by decide +kernel)
theorem kX6_86 {y : MethodName} (hy : y.cls = RX6) : gLk y 86 yX6_isTenant cX6_isTenant 1 (some .boolean) 1 ∧ Cond.methodLink y.cls 86 yX6_isTenant ∈ gTb ∧ Cond.static yX6_isTenant ∈ gTb := ⟨⟨Or.inl (by rw [hy]; exact wd_750), wd_56, wd_752, ⟨by decide +kernel, by decide +kernel, by decide +kernel⟩, by decide⟩, by rw [hy]; exact wd_750, wd_751⟩
theorem wd_753 : Cond.methodLink RL 97 yX6_limit ∈ gTb := gIn 753 (by decide +kernel) (by decide +kernel)
theorem wd_756 : Cond.code yX6_limit cX6_limit 3 (some .int) ∈ gTb := gIn 756 (by decide +kernel) (by decide +kernel)
theorem wd_754 : Cond.instanceMethod yX6_limit ∈ gTb := gIn 754 (by decide +kernel) (by decide +kernel)
theorem wd_755 : Cond.selects (yX6_limit).cls yX6_limit yX6_limit ∈ gTb := gIn 755 (by decide +kernel) (by decide +kernel)
theorem kL_97 {y : MethodName} (hy : y.cls = RL) : gLv y 97 6 20 yX6_limit cX6_limit 3 (some .int) 1 := ⟨⟨Or.inl (by rw [hy]; exact wd_753), wd_56, wd_756, ⟨by decide +kernel, by decide +kernel, by decide +kernel⟩, by decide⟩, wd_754, wd_755, ⟨_, rfl, rfl, rfl⟩⟩
theorem wd_757 : Cond.methodLink RL 101 yX6_write ∈ gTb := gIn 757 (by decide +kernel) (by decide +kernel)
theorem wd_760 : Cond.code yX6_write cX6_write 8 (some .int) ∈ gTb := gIn 760 (by decide +kernel) (by decide +kernel)
theorem wd_758 : Cond.instanceMethod yX6_write ∈ gTb := gIn 758 (by decide +kernel) (by decide +kernel)
theorem wd_759 : Cond.selects (yX6_write).cls yX6_write yX6_write ∈ gTb := gIn 759 (by decide +kernel) (by decide +kernel)
theorem kL_101 {y : MethodName} (hy : y.cls = RL) : gLv y 101 6 20 yX6_write cX6_write 8 (some .int) 3 := ⟨⟨Or.inl (by rw [hy]; exact wd_757), wd_56, wd_760, ⟨by decide +kernel, by decide +kernel, by decide +kernel⟩, by decide⟩, wd_758, wd_759, ⟨_, rfl, rfl, rfl⟩⟩
theorem wd_761 : Cond.methodLink RX6 92 yX6_isKey ∈ gTb := gIn 761 (by decide +kernel) (by decide +kernel)
theorem wd_763 : Cond.code yX6_isKey cX6_isKey 1 (some .boolean) ∈ gTb := gIn 763 (by decide +kernel) (by decide +kernel)
theorem wd_762 : Cond.static yX6_isKey ∈ gTb := gIn 762 (by decide +kernel) (by decide +kernel)
theorem kX6_92 {y : MethodName} (hy : y.cls = RX6) : gLk y 92 yX6_isKey cX6_isKey 1 (some .boolean) 1 ∧ Cond.methodLink y.cls 92 yX6_isKey ∈ gTb ∧ Cond.static yX6_isKey ∈ gTb := ⟨⟨Or.inl (by rw [hy]; exact wd_761), wd_56, wd_763, ⟨by decide +kernel, by decide +kernel, by decide +kernel⟩, by decide⟩, by rw [hy]; exact wd_761, wd_762⟩
theorem wd_764 : Cond.methodLink RX6 95 yX6_shardAt ∈ gTb := gIn 764 (by decide +kernel) (by decide +kernel)
theorem wd_767 : Cond.code yX6_shardAt cX6_shardAt 3 (some .int) ∈ gTb := gIn 767 (by decide +kernel) (by decide +kernel)
theorem wd_766 : Cond.instanceMethod yX6_shardAt ∈ gTb := gIn 766 (by decide +kernel) (by decide +kernel)
theorem wd_38 : Cond.selects (yX6_shardAt).cls yX6_shardAt yX6_shardAt ∈ gTb := gIn 38 (by decide +kernel) (by decide +kernel)
theorem kX6_95 {y : MethodName} (hy : y.cls = RX6) : gLv y 95 6 20 yX6_shardAt cX6_shardAt 3 (some .int) 1 := ⟨⟨Or.inl (by rw [hy]; exact wd_764), wd_56, wd_767, ⟨by decide +kernel, by decide +kernel, by decide +kernel⟩, by decide⟩, wd_766, wd_38, ⟨_, rfl, rfl, rfl⟩⟩
theorem wd_768 : Cond.methodLink RX6 98 yX6_held ∈ gTb := gIn 768 (by decide +kernel) (by decide +kernel)
theorem wd_771 : Cond.code yX6_held cX6_held 4 (some .int) ∈ gTb := gIn 771 (by decide +kernel) (by decide +kernel)
theorem wd_770 : Cond.instanceMethod yX6_held ∈ gTb := gIn 770 (by decide +kernel) (by decide +kernel)
theorem wd_39 : Cond.selects (yX6_held).cls yX6_held yX6_held ∈ gTb := gIn 39 (by decide +kernel) (by decide +kernel)
theorem kX6_98 {y : MethodName} (hy : y.cls = RX6) : gLv y 98 6 20 yX6_held cX6_held 4 (some .int) 1 := ⟨⟨Or.inl (by rw [hy]; exact wd_768), wd_56, wd_771, ⟨by decide +kernel, by decide +kernel, by decide +kernel⟩, by decide⟩, wd_770, wd_39, ⟨_, rfl, rfl, rfl⟩⟩
theorem wd_772 : Cond.methodLink RX6 65 yX6_sizeOf ∈ gTb := gIn 772 (by decide +kernel) (by decide +kernel)
theorem wd_775 : Cond.code yX6_sizeOf cX6_sizeOf 2 (some .int) ∈ gTb := gIn 775 (by decide +kernel) (by decide +kernel)
theorem wd_774 : Cond.instanceMethod yX6_sizeOf ∈ gTb := gIn 774 (by decide +kernel) (by decide +kernel)
theorem wd_40 : Cond.selects (yX6_sizeOf).cls yX6_sizeOf yX6_sizeOf ∈ gTb := gIn 40 (by decide +kernel) (by decide +kernel)
theorem kX6_65 {y : MethodName} (hy : y.cls = RX6) : gLv y 65 6 20 yX6_sizeOf cX6_sizeOf 2 (some .int) 1 := ⟨⟨Or.inl (by rw [hy]; exact wd_772), wd_56, wd_775, ⟨by decide +kernel, by decide +kernel, by decide +kernel⟩, by decide⟩, wd_774, wd_40, ⟨_, rfl, rfl, rfl⟩⟩
theorem wd_776 : Cond.methodLink RX6 61 yX6_sum ∈ gTb := gIn 776 (by decide +kernel) (by decide +kernel)
theorem wd_779 : Cond.code yX6_sum cX6_sum 5 (some .int) ∈ gTb := gIn 779 (by decide +kernel) (by decide +kernel)
theorem wd_778 : Cond.instanceMethod yX6_sum ∈ gTb := gIn 778 (by decide +kernel) (by decide +kernel)
theorem wd_41 : Cond.selects (yX6_sum).cls yX6_sum yX6_sum ∈ gTb := gIn 41 (by decide +kernel) (by decide +kernel)
theorem kX6_61 {y : MethodName} (hy : y.cls = RX6) : gLv y 61 6 20 yX6_sum cX6_sum 5 (some .int) 2 := ⟨⟨Or.inl (by rw [hy]; exact wd_776), wd_56, wd_779, ⟨by decide +kernel, by decide +kernel, by decide +kernel⟩, by decide⟩, wd_778, wd_41, ⟨_, rfl, rfl, rfl⟩⟩
theorem wd_780 : Cond.methodLink RX6 69 yX6_copied ∈ gTb := gIn 780 (by decide +kernel) (by decide +kernel)
theorem wd_783 : Cond.code yX6_copied cX6_copied 2 (some .int) ∈ gTb := gIn 783 (by decide +kernel) (by decide +kernel)
theorem wd_782 : Cond.instanceMethod yX6_copied ∈ gTb := gIn 782 (by decide +kernel) (by decide +kernel)
theorem wd_42 : Cond.selects (yX6_copied).cls yX6_copied yX6_copied ∈ gTb := gIn 42 (by decide +kernel) (by decide +kernel)
theorem kX6_69 {y : MethodName} (hy : y.cls = RX6) : gLv y 69 6 20 yX6_copied cX6_copied 2 (some .int) 1 := ⟨⟨Or.inl (by rw [hy]; exact wd_780), wd_56, wd_783, ⟨by decide +kernel, by decide +kernel, by decide +kernel⟩, by decide⟩, wd_782, wd_42, ⟨_, rfl, rfl, rfl⟩⟩
theorem wd_784 : Cond.methodLink RX6 101 yX6_bytesOf ∈ gTb := gIn 784 (by decide +kernel) (by decide +kernel)
theorem wd_787 : Cond.code yX6_bytesOf cX6_bytesOf 4 (some .int) ∈ gTb := gIn 787 (by decide +kernel) (by decide +kernel)
theorem wd_786 : Cond.instanceMethod yX6_bytesOf ∈ gTb := gIn 786 (by decide +kernel) (by decide +kernel)
theorem wd_43 : Cond.selects (yX6_bytesOf).cls yX6_bytesOf yX6_bytesOf ∈ gTb := gIn 43 (by decide +kernel) (by decide +kernel)
theorem kX6_101 {y : MethodName} (hy : y.cls = RX6) : gLv y 101 6 20 yX6_bytesOf cX6_bytesOf 4 (some .int) 1 := ⟨⟨Or.inl (by rw [hy]; exact wd_784), wd_56, wd_787, ⟨by decide +kernel, by decide +kernel, by decide +kernel⟩, by decide⟩, wd_786, wd_43, ⟨_, rfl, rfl, rfl⟩⟩
theorem wd_788 : Cond.methodLink RX6 107 yX6_isCopied ∈ gTb := gIn 788 (by decide +kernel) (by decide +kernel)
theorem wd_791 : Cond.code yX6_isCopied cX6_isCopied 3 (some .boolean) ∈ gTb := gIn 791 (by decide +kernel) (by decide +kernel)
theorem wd_790 : Cond.instanceMethod yX6_isCopied ∈ gTb := gIn 790 (by decide +kernel) (by decide +kernel)
theorem wd_44 : Cond.selects (yX6_isCopied).cls yX6_isCopied yX6_isCopied ∈ gTb := gIn 44 (by decide +kernel) (by decide +kernel)
theorem kX6_107 {y : MethodName} (hy : y.cls = RX6) : gLv y 107 6 20 yX6_isCopied cX6_isCopied 3 (some .boolean) 2 := ⟨⟨Or.inl (by rw [hy]; exact wd_788), wd_56, wd_791, ⟨by decide +kernel, by decide +kernel, by decide +kernel⟩, by decide⟩, wd_790, wd_44, ⟨_, rfl, rfl, rfl⟩⟩
theorem wd_792 : Cond.methodLink RL 104 yX6_take ∈ gTb := gIn 792 (by decide +kernel) (by decide +kernel)
theorem wd_795 : Cond.code yX6_take cX6_take 6 (some .int) ∈ gTb := gIn 795 (by decide +kernel) (by decide +kernel)
theorem wd_793 : Cond.instanceMethod yX6_take ∈ gTb := gIn 793 (by decide +kernel) (by decide +kernel)
theorem wd_794 : Cond.selects (yX6_take).cls yX6_take yX6_take ∈ gTb := gIn 794 (by decide +kernel) (by decide +kernel)
theorem kL_104 {y : MethodName} (hy : y.cls = RL) : gLv y 104 6 20 yX6_take cX6_take 6 (some .int) 1 := ⟨⟨Or.inl (by rw [hy]; exact wd_792), wd_56, wd_795, ⟨by decide +kernel, by decide +kernel, by decide +kernel⟩, by decide⟩, wd_793, wd_794, ⟨_, rfl, rfl, rfl⟩⟩
theorem wd_796 : Cond.methodLink RL 107 yX6_read ∈ gTb := gIn 796 (by decide +kernel) (by decide +kernel)
theorem wd_799 : Cond.code yX6_read cX6_read 4 (some .int) ∈ gTb := gIn 799 (by decide +kernel) (by decide +kernel)
theorem wd_797 : Cond.instanceMethod yX6_read ∈ gTb := gIn 797 (by decide +kernel) (by decide +kernel)
theorem wd_798 : Cond.selects (yX6_read).cls yX6_read yX6_read ∈ gTb := gIn 798 (by decide +kernel) (by decide +kernel)
theorem kL_107 {y : MethodName} (hy : y.cls = RL) : gLv y 107 6 20 yX6_read cX6_read 4 (some .int) 1 := ⟨⟨Or.inl (by rw [hy]; exact wd_796), wd_56, wd_799, ⟨by decide +kernel, by decide +kernel, by decide +kernel⟩, by decide⟩, wd_797, wd_798, ⟨_, rfl, rfl, rfl⟩⟩
theorem wd_800 : Cond.methodLink RL 110 yX6_split ∈ gTb := gIn 800 (by decide +kernel) (by decide +kernel)
theorem wd_803 : Cond.code yX6_split cX6_split 5 (some .int) ∈ gTb := gIn 803 (by decide +kernel) (by decide +kernel)
theorem wd_801 : Cond.instanceMethod yX6_split ∈ gTb := gIn 801 (by decide +kernel) (by decide +kernel)
theorem wd_802 : Cond.selects (yX6_split).cls yX6_split yX6_split ∈ gTb := gIn 802 (by decide +kernel) (by decide +kernel)
theorem kL_110 {y : MethodName} (hy : y.cls = RL) : gLv y 110 6 20 yX6_split cX6_split 5 (some .int) 1 := ⟨⟨Or.inl (by rw [hy]; exact wd_800), wd_56, wd_803, ⟨by decide +kernel, by decide +kernel, by decide +kernel⟩, by decide⟩, wd_801, wd_802, ⟨_, rfl, rfl, rfl⟩⟩
theorem wd_804 : Cond.methodLink RX6 111 yX6_lay ∈ gTb := gIn 804 (by decide +kernel) (by decide +kernel)
theorem wd_807 : Cond.code yX6_lay cX6_lay 3 none ∈ gTb := gIn 807 (by decide +kernel) (by decide +kernel)
theorem wd_806 : Cond.instanceMethod yX6_lay ∈ gTb := gIn 806 (by decide +kernel) (by decide +kernel)
theorem wd_45 : Cond.selects (yX6_lay).cls yX6_lay yX6_lay ∈ gTb := gIn 45 (by decide +kernel) (by decide +kernel)
theorem kX6_111 {y : MethodName} (hy : y.cls = RX6) : gLv y 111 6 20 yX6_lay cX6_lay 3 none 2 := ⟨⟨Or.inl (by rw [hy]; exact wd_804), wd_56, wd_807, ⟨by decide +kernel, by decide +kernel, by decide +kernel⟩, by decide⟩, wd_806, wd_45, ⟨_, rfl, rfl, rfl⟩⟩
theorem wd_808 : Cond.methodLink RL 113 yX6_join ∈ gTb := gIn 808 (by decide +kernel) (by decide +kernel)
theorem wd_811 : Cond.code yX6_join cX6_join 5 (some .int) ∈ gTb := gIn 811 (by decide +kernel) (by decide +kernel)
theorem wd_809 : Cond.instanceMethod yX6_join ∈ gTb := gIn 809 (by decide +kernel) (by decide +kernel)
theorem wd_810 : Cond.selects (yX6_join).cls yX6_join yX6_join ∈ gTb := gIn 810 (by decide +kernel) (by decide +kernel)
theorem kL_113 {y : MethodName} (hy : y.cls = RL) : gLv y 113 6 20 yX6_join cX6_join 5 (some .int) 1 := ⟨⟨Or.inl (by rw [hy]; exact wd_808), wd_56, wd_811, ⟨by decide +kernel, by decide +kernel, by decide +kernel⟩, by decide⟩, wd_809, wd_810, ⟨_, rfl, rfl, rfl⟩⟩
theorem wd_812 : Cond.methodLink RX6 115 yX6_isShard ∈ gTb := gIn 812 (by decide +kernel) (by decide +kernel)
theorem wd_815 : Cond.code yX6_isShard cX6_isShard 2 (some .boolean) ∈ gTb := gIn 815 (by decide +kernel) (by decide +kernel)
theorem wd_814 : Cond.instanceMethod yX6_isShard ∈ gTb := gIn 814 (by decide +kernel) (by decide +kernel)
theorem wd_46 : Cond.selects (yX6_isShard).cls yX6_isShard yX6_isShard ∈ gTb := gIn 46 (by decide +kernel) (by decide +kernel)
theorem kX6_115 {y : MethodName} (hy : y.cls = RX6) : gLv y 115 6 20 yX6_isShard cX6_isShard 2 (some .boolean) 1 := ⟨⟨Or.inl (by rw [hy]; exact wd_812), wd_56, wd_815, ⟨by decide +kernel, by decide +kernel, by decide +kernel⟩, by decide⟩, wd_814, wd_46, ⟨_, rfl, rfl, rfl⟩⟩
theorem wd_816 : Cond.methodLink RL 116 yX6_move ∈ gTb := gIn 816 (by decide +kernel) (by decide +kernel)
theorem wd_819 : Cond.code yX6_move cX6_move 4 (some .int) ∈ gTb := gIn 819 (by decide +kernel) (by decide +kernel)
theorem wd_817 : Cond.instanceMethod yX6_move ∈ gTb := gIn 817 (by decide +kernel) (by decide +kernel)
theorem wd_818 : Cond.selects (yX6_move).cls yX6_move yX6_move ∈ gTb := gIn 818 (by decide +kernel) (by decide +kernel)
theorem kL_116 {y : MethodName} (hy : y.cls = RL) : gLv y 116 6 20 yX6_move cX6_move 4 (some .int) 2 := ⟨⟨Or.inl (by rw [hy]; exact wd_816), wd_56, wd_819, ⟨by decide +kernel, by decide +kernel, by decide +kernel⟩, by decide⟩, wd_817, wd_818, ⟨_, rfl, rfl, rfl⟩⟩
theorem wd_820 : Cond.methodLink RX6 118 yX6_begins ∈ gTb := gIn 820 (by decide +kernel) (by decide +kernel)
theorem wd_823 : Cond.code yX6_begins cX6_begins 3 none ∈ gTb := gIn 823 (by decide +kernel) (by decide +kernel)
theorem wd_822 : Cond.instanceMethod yX6_begins ∈ gTb := gIn 822 (by decide +kernel) (by decide +kernel)
theorem wd_47 : Cond.selects (yX6_begins).cls yX6_begins yX6_begins ∈ gTb := gIn 47 (by decide +kernel) (by decide +kernel)
theorem kX6_118 {y : MethodName} (hy : y.cls = RX6) : gLv y 118 6 20 yX6_begins cX6_begins 3 none 2 := ⟨⟨Or.inl (by rw [hy]; exact wd_820), wd_56, wd_823, ⟨by decide +kernel, by decide +kernel, by decide +kernel⟩, by decide⟩, wd_822, wd_47, ⟨_, rfl, rfl, rfl⟩⟩
theorem wd_824 : Cond.methodLink RL 119 yX6_callOff ∈ gTb := gIn 824 (by decide +kernel) (by decide +kernel)
theorem wd_827 : Cond.code yX6_callOff cX6_callOff 4 (some .int) ∈ gTb := gIn 827 (by decide +kernel) (by decide +kernel)
theorem wd_825 : Cond.instanceMethod yX6_callOff ∈ gTb := gIn 825 (by decide +kernel) (by decide +kernel)
theorem wd_826 : Cond.selects (yX6_callOff).cls yX6_callOff yX6_callOff ∈ gTb := gIn 826 (by decide +kernel) (by decide +kernel)
theorem kL_119 {y : MethodName} (hy : y.cls = RL) : gLv y 119 6 20 yX6_callOff cX6_callOff 4 (some .int) 1 := ⟨⟨Or.inl (by rw [hy]; exact wd_824), wd_56, wd_827, ⟨by decide +kernel, by decide +kernel, by decide +kernel⟩, by decide⟩, wd_825, wd_826, ⟨_, rfl, rfl, rfl⟩⟩
theorem wd_828 : Cond.methodLink RL 122 yX6_pass ∈ gTb := gIn 828 (by decide +kernel) (by decide +kernel)
theorem wd_831 : Cond.code yX6_pass cX6_pass 4 (some .int) ∈ gTb := gIn 831 (by decide +kernel) (by decide +kernel)
theorem wd_829 : Cond.instanceMethod yX6_pass ∈ gTb := gIn 829 (by decide +kernel) (by decide +kernel)
theorem wd_830 : Cond.selects (yX6_pass).cls yX6_pass yX6_pass ∈ gTb := gIn 830 (by decide +kernel) (by decide +kernel)
theorem kL_122 {y : MethodName} (hy : y.cls = RL) : gLv y 122 6 20 yX6_pass cX6_pass 4 (some .int) 1 := ⟨⟨Or.inl (by rw [hy]; exact wd_828), wd_56, wd_831, ⟨by decide +kernel, by decide +kernel, by decide +kernel⟩, by decide⟩, wd_829, wd_830, ⟨_, rfl, rfl, rfl⟩⟩
theorem wd_832 : Cond.methodLink RX6 130 yX6_copies ∈ gTb := gIn 832 (by decide +kernel) (by decide +kernel)
theorem wd_835 : Cond.code yX6_copies cX6_copies 4 none ∈ gTb := gIn 835 (by decide +kernel) (by decide +kernel)
theorem wd_834 : Cond.instanceMethod yX6_copies ∈ gTb := gIn 834 (by decide +kernel) (by decide +kernel)
theorem wd_48 : Cond.selects (yX6_copies).cls yX6_copies yX6_copies ∈ gTb := gIn 48 (by decide +kernel) (by decide +kernel)
theorem kX6_130 {y : MethodName} (hy : y.cls = RX6) : gLv y 130 6 20 yX6_copies cX6_copies 4 none 1 := ⟨⟨Or.inl (by rw [hy]; exact wd_832), wd_56, wd_835, ⟨by decide +kernel, by decide +kernel, by decide +kernel⟩, by decide⟩, wd_834, wd_48, ⟨_, rfl, rfl, rfl⟩⟩
theorem wd_836 : Cond.methodLink RX6 133 yX6_draw ∈ gTb := gIn 836 (by decide +kernel) (by decide +kernel)
theorem wd_839 : Cond.code yX6_draw cX6_draw 6 none ∈ gTb := gIn 839 (by decide +kernel) (by decide +kernel)
theorem wd_838 : Cond.instanceMethod yX6_draw ∈ gTb := gIn 838 (by decide +kernel) (by decide +kernel)
theorem wd_49 : Cond.selects (yX6_draw).cls yX6_draw yX6_draw ∈ gTb := gIn 49 (by decide +kernel) (by decide +kernel)
theorem kX6_133 {y : MethodName} (hy : y.cls = RX6) : gLv y 133 6 20 yX6_draw cX6_draw 6 none 0 := ⟨⟨Or.inl (by rw [hy]; exact wd_836), wd_56, wd_839, ⟨by decide +kernel, by decide +kernel, by decide +kernel⟩, by decide⟩, wd_838, wd_49, ⟨_, rfl, rfl, rfl⟩⟩
theorem wd_840 : Cond.methodLink RX6 124 yX6_heatOf ∈ gTb := gIn 840 (by decide +kernel) (by decide +kernel)
theorem wd_843 : Cond.code yX6_heatOf cX6_heatOf 4 (some .int) ∈ gTb := gIn 843 (by decide +kernel) (by decide +kernel)
theorem wd_842 : Cond.instanceMethod yX6_heatOf ∈ gTb := gIn 842 (by decide +kernel) (by decide +kernel)
theorem wd_50 : Cond.selects (yX6_heatOf).cls yX6_heatOf yX6_heatOf ∈ gTb := gIn 50 (by decide +kernel) (by decide +kernel)
theorem kX6_124 {y : MethodName} (hy : y.cls = RX6) : gLv y 124 6 20 yX6_heatOf cX6_heatOf 4 (some .int) 1 := ⟨⟨Or.inl (by rw [hy]; exact wd_840), wd_56, wd_843, ⟨by decide +kernel, by decide +kernel, by decide +kernel⟩, by decide⟩, wd_842, wd_50, ⟨_, rfl, rfl, rfl⟩⟩
theorem wd_844 : Cond.methodLink RL 126 yX6_hour ∈ gTb := gIn 844 (by decide +kernel) (by decide +kernel)
theorem wd_847 : Cond.code yX6_hour cX6_hour 1 (some .int) ∈ gTb := gIn 847 (by decide +kernel) (by decide +kernel)
theorem wd_845 : Cond.instanceMethod yX6_hour ∈ gTb := gIn 845 (by decide +kernel) (by decide +kernel)
theorem wd_846 : Cond.selects (yX6_hour).cls yX6_hour yX6_hour ∈ gTb := gIn 846 (by decide +kernel) (by decide +kernel)
theorem kL_126 {y : MethodName} (hy : y.cls = RL) : gLv y 126 6 20 yX6_hour cX6_hour 1 (some .int) 0 := ⟨⟨Or.inl (by rw [hy]; exact wd_844), wd_56, wd_847, ⟨by decide +kernel, by decide +kernel, by decide +kernel⟩, by decide⟩, wd_845, wd_846, ⟨_, rfl, rfl, rfl⟩⟩
theorem wd_848 : Cond.methodLink RL 130 yX6_shards ∈ gTb := gIn 848 (by decide +kernel) (by decide +kernel)
theorem wd_851 : Cond.code yX6_shards cX6_shards 1 (some .int) ∈ gTb := gIn 851 (by decide +kernel) (by decide +kernel)
theorem wd_849 : Cond.instanceMethod yX6_shards ∈ gTb := gIn 849 (by decide +kernel) (by decide +kernel)
theorem wd_850 : Cond.selects (yX6_shards).cls yX6_shards yX6_shards ∈ gTb := gIn 850 (by decide +kernel) (by decide +kernel)
theorem kL_130 {y : MethodName} (hy : y.cls = RL) : gLv y 130 6 20 yX6_shards cX6_shards 1 (some .int) 0 := ⟨⟨Or.inl (by rw [hy]; exact wd_848), wd_56, wd_851, ⟨by decide +kernel, by decide +kernel, by decide +kernel⟩, by decide⟩, wd_849, wd_850, ⟨_, rfl, rfl, rfl⟩⟩
theorem wd_852 : Cond.methodLink RL 133 yX6_shardOf ∈ gTb := gIn 852 (by decide +kernel) (by decide +kernel)
theorem wd_855 : Cond.code yX6_shardOf cX6_shardOf 2 (some .int) ∈ gTb := gIn 855 (by decide +kernel) (by decide +kernel)
theorem wd_853 : Cond.instanceMethod yX6_shardOf ∈ gTb := gIn 853 (by decide +kernel) (by decide +kernel)
theorem wd_854 : Cond.selects (yX6_shardOf).cls yX6_shardOf yX6_shardOf ∈ gTb := gIn 854 (by decide +kernel) (by decide +kernel)
theorem kL_133 {y : MethodName} (hy : y.cls = RL) : gLv y 133 6 20 yX6_shardOf cX6_shardOf 2 (some .int) 1 := ⟨⟨Or.inl (by rw [hy]; exact wd_852), wd_56, wd_855, ⟨by decide +kernel, by decide +kernel, by decide +kernel⟩, by decide⟩, wd_853, wd_854, ⟨_, rfl, rfl, rfl⟩⟩
theorem wd_856 : Cond.methodLink RL 136 yX6_shard ∈ gTb := gIn 856 (by decide +kernel) (by decide +kernel)
theorem wd_859 : Cond.code yX6_shard cX6_shard 3 (some .int) ∈ gTb := gIn 859 (by decide +kernel) (by decide +kernel)
theorem wd_857 : Cond.instanceMethod yX6_shard ∈ gTb := gIn 857 (by decide +kernel) (by decide +kernel)
theorem wd_858 : Cond.selects (yX6_shard).cls yX6_shard yX6_shard ∈ gTb := gIn 858 (by decide +kernel) (by decide +kernel)
theorem kL_136 {y : MethodName} (hy : y.cls = RL) : gLv y 136 6 20 yX6_shard cX6_shard 3 (some .int) 2 := ⟨⟨Or.inl (by rw [hy]; exact wd_856), wd_56, wd_859, ⟨by decide +kernel, by decide +kernel, by decide +kernel⟩, by decide⟩, wd_857, wd_858, ⟨_, rfl, rfl, rfl⟩⟩
theorem wd_860 : Cond.methodLink RL 139 yX6_machineOf ∈ gTb := gIn 860 (by decide +kernel) (by decide +kernel)
theorem wd_863 : Cond.code yX6_machineOf cX6_machineOf 5 (some .int) ∈ gTb := gIn 863 (by decide +kernel) (by decide +kernel)
theorem wd_861 : Cond.instanceMethod yX6_machineOf ∈ gTb := gIn 861 (by decide +kernel) (by decide +kernel)
theorem wd_862 : Cond.selects (yX6_machineOf).cls yX6_machineOf yX6_machineOf ∈ gTb := gIn 862 (by decide +kernel) (by decide +kernel)
theorem kL_139 {y : MethodName} (hy : y.cls = RL) : gLv y 139 6 20 yX6_machineOf cX6_machineOf 5 (some .int) 2 := ⟨⟨Or.inl (by rw [hy]; exact wd_860), wd_56, wd_863, ⟨by decide +kernel, by decide +kernel, by decide +kernel⟩, by decide⟩, wd_861, wd_862, ⟨_, rfl, rfl, rfl⟩⟩
theorem wd_864 : Cond.methodLink RL 142 yX6_tenant ∈ gTb := gIn 864 (by decide +kernel) (by decide +kernel)
theorem wd_867 : Cond.code yX6_tenant cX6_tenant 3 (some .int) ∈ gTb := gIn 867 (by decide +kernel) (by decide +kernel)
theorem wd_865 : Cond.instanceMethod yX6_tenant ∈ gTb := gIn 865 (by decide +kernel) (by decide +kernel)
theorem wd_866 : Cond.selects (yX6_tenant).cls yX6_tenant yX6_tenant ∈ gTb := gIn 866 (by decide +kernel) (by decide +kernel)
theorem kL_142 {y : MethodName} (hy : y.cls = RL) : gLv y 142 6 20 yX6_tenant cX6_tenant 3 (some .int) 2 := ⟨⟨Or.inl (by rw [hy]; exact wd_864), wd_56, wd_867, ⟨by decide +kernel, by decide +kernel, by decide +kernel⟩, by decide⟩, wd_865, wd_866, ⟨_, rfl, rfl, rfl⟩⟩
theorem wd_868 : Cond.methodLink RL 145 yX6_billAnew ∈ gTb := gIn 868 (by decide +kernel) (by decide +kernel)
theorem wd_871 : Cond.code yX6_billAnew cX6_billAnew 2 (some .int) ∈ gTb := gIn 871 (by decide +kernel) (by decide +kernel)
theorem wd_869 : Cond.instanceMethod yX6_billAnew ∈ gTb := gIn 869 (by decide +kernel) (by decide +kernel)
theorem wd_870 : Cond.selects (yX6_billAnew).cls yX6_billAnew yX6_billAnew ∈ gTb := gIn 870 (by decide +kernel) (by decide +kernel)
theorem kL_145 {y : MethodName} (hy : y.cls = RL) : gLv y 145 6 20 yX6_billAnew cX6_billAnew 2 (some .int) 1 := ⟨⟨Or.inl (by rw [hy]; exact wd_868), wd_56, wd_871, ⟨by decide +kernel, by decide +kernel, by decide +kernel⟩, by decide⟩, wd_869, wd_870, ⟨_, rfl, rfl, rfl⟩⟩
theorem wd_872 : Cond.methodLink RL 148 yX6_whereAnew ∈ gTb := gIn 872 (by decide +kernel) (by decide +kernel)
theorem wd_875 : Cond.code yX6_whereAnew cX6_whereAnew 2 (some .int) ∈ gTb := gIn 875 (by decide +kernel) (by decide +kernel)
theorem wd_873 : Cond.instanceMethod yX6_whereAnew ∈ gTb := gIn 873 (by decide +kernel) (by decide +kernel)
theorem wd_874 : Cond.selects (yX6_whereAnew).cls yX6_whereAnew yX6_whereAnew ∈ gTb := gIn 874 (by decide +kernel) (by decide +kernel)
theorem kL_148 {y : MethodName} (hy : y.cls = RL) : gLv y 148 6 20 yX6_whereAnew cX6_whereAnew 2 (some .int) 1 := ⟨⟨Or.inl (by rw [hy]; exact wd_872), wd_56, wd_875, ⟨by decide +kernel, by decide +kernel, by decide +kernel⟩, by decide⟩, wd_873, wd_874, ⟨_, rfl, rfl, rfl⟩⟩
theorem wd_876 : Cond.methodLink RL 153 yX6_moves ∈ gTb := gIn 876 (by decide +kernel) (by decide +kernel)
theorem wd_879 : Cond.code yX6_moves cX6_moves 2 (some .int) ∈ gTb := gIn 879 (by decide +kernel) (by decide +kernel)
theorem wd_877 : Cond.instanceMethod yX6_moves ∈ gTb := gIn 877 (by decide +kernel) (by decide +kernel)
theorem wd_878 : Cond.selects (yX6_moves).cls yX6_moves yX6_moves ∈ gTb := gIn 878 (by decide +kernel) (by decide +kernel)
theorem kL_153 {y : MethodName} (hy : y.cls = RL) : gLv y 153 6 20 yX6_moves cX6_moves 2 (some .int) 1 := ⟨⟨Or.inl (by rw [hy]; exact wd_876), wd_56, wd_879, ⟨by decide +kernel, by decide +kernel, by decide +kernel⟩, by decide⟩, wd_877, wd_878, ⟨_, rfl, rfl, rfl⟩⟩
theorem wd_65 : Cond.classLink RL 8 RX5 ∈ gTb := gIn 65 (by decide +kernel) (by decide +kernel)
theorem qL_8 {y : MethodName} (hy : y.cls = RL) : ∃ r, vwCl[5]? = some r ∧ Cond.classLink y.cls 8 r.1 ∈ gTb := ⟨_, rfl, by rw [hy]; exact wd_65⟩
theorem wd_66 : Cond.instantiable RX5 15 ∈ gTb := gIn 66 (by decide +kernel) (by decide +kernel)
theorem nL_8 {y : MethodName} (hy : y.cls = RL) : ∃ r, vwCl[5]? = some r ∧ r.2.2 = 15 ∧ Cond.classLink y.cls 8 r.1 ∈ gTb ∧ Cond.instantiable r.1 15 ∈ gTb ∧ Cond.initialized r.1 ∈ gTb := ⟨_, rfl, rfl, by rw [hy]; exact wd_65, wd_66, wd_52⟩
theorem wd_73 : Cond.classLink RX5 7 RX2 ∈ gTb := gIn 73 (by decide +kernel) (by decide +kernel)
theorem qX5_7 {y : MethodName} (hy : y.cls = RX5) : ∃ r, vwCl[2]? = some r ∧ Cond.classLink y.cls 7 r.1 ∈ gTb := ⟨_, rfl, by rw [hy]; exact wd_73⟩
theorem wd_74 : Cond.instantiable RX2 4 ∈ gTb := gIn 74 (by decide +kernel) (by decide +kernel)
theorem nX5_7 {y : MethodName} (hy : y.cls = RX5) : ∃ r, vwCl[2]? = some r ∧ r.2.2 = 4 ∧ Cond.classLink y.cls 7 r.1 ∈ gTb ∧ Cond.instantiable r.1 4 ∈ gTb ∧ Cond.initialized r.1 ∈ gTb := ⟨_, rfl, rfl, by rw [hy]; exact wd_73, wd_74, wd_53⟩
theorem wd_97 : Cond.classLink RX5 25 RX4 ∈ gTb := gIn 97 (by decide +kernel) (by decide +kernel)
theorem qX5_25 {y : MethodName} (hy : y.cls = RX5) : ∃ r, vwCl[4]? = some r ∧ Cond.classLink y.cls 25 r.1 ∈ gTb := ⟨_, rfl, by rw [hy]; exact wd_97⟩
theorem wd_99 : Cond.instantiable RX4 3 ∈ gTb := gIn 99 (by decide +kernel) (by decide +kernel)
theorem nX5_25 {y : MethodName} (hy : y.cls = RX5) : ∃ r, vwCl[4]? = some r ∧ r.2.2 = 3 ∧ Cond.classLink y.cls 25 r.1 ∈ gTb ∧ Cond.instantiable r.1 3 ∈ gTb ∧ Cond.initialized r.1 ∈ gTb := ⟨_, rfl, rfl, by rw [hy]; exact wd_97, wd_99, wd_54⟩
theorem wd_117 : Cond.classLink RX5 36 RX3 ∈ gTb := gIn 117 (by decide +kernel) (by decide +kernel)
theorem qX5_36 {y : MethodName} (hy : y.cls = RX5) : ∃ r, vwCl[3]? = some r ∧ Cond.classLink y.cls 36 r.1 ∈ gTb := ⟨_, rfl, by rw [hy]; exact wd_117⟩
theorem wd_119 : Cond.instantiable RX3 9 ∈ gTb := gIn 119 (by decide +kernel) (by decide +kernel)
theorem nX5_36 {y : MethodName} (hy : y.cls = RX5) : ∃ r, vwCl[3]? = some r ∧ r.2.2 = 9 ∧ Cond.classLink y.cls 36 r.1 ∈ gTb ∧ Cond.instantiable r.1 9 ∈ gTb ∧ Cond.initialized r.1 ∈ gTb := ⟨_, rfl, rfl, by rw [hy]; exact wd_117, wd_119, wd_55⟩
theorem wd_412 : Cond.classLink RX5 224 RX0 ∈ gTb := gIn 412 (by decide +kernel) (by decide +kernel)
theorem qX5_224 {y : MethodName} (hy : y.cls = RX5) : ∃ r, vwCl[0]? = some r ∧ Cond.classLink y.cls 224 r.1 ∈ gTb := ⟨_, rfl, by rw [hy]; exact wd_412⟩
theorem wd_413 : Cond.instantiable RX0 6 ∈ gTb := gIn 413 (by decide +kernel) (by decide +kernel)
theorem nX5_224 {y : MethodName} (hy : y.cls = RX5) : ∃ r, vwCl[0]? = some r ∧ r.2.2 = 6 ∧ Cond.classLink y.cls 224 r.1 ∈ gTb ∧ Cond.instantiable r.1 6 ∈ gTb ∧ Cond.initialized r.1 ∈ gTb := ⟨_, rfl, rfl, by rw [hy]; exact wd_412, wd_413, wd_63⟩
theorem wd_553 : Cond.classLink RX5 237 RX1 ∈ gTb := gIn 553 (by decide +kernel) (by decide +kernel)
theorem qX5_237 {y : MethodName} (hy : y.cls = RX5) : ∃ r, vwCl[1]? = some r ∧ Cond.classLink y.cls 237 r.1 ∈ gTb := ⟨_, rfl, by rw [hy]; exact wd_553⟩
theorem wd_554 : Cond.instantiable RX1 4 ∈ gTb := gIn 554 (by decide +kernel) (by decide +kernel)
theorem nX5_237 {y : MethodName} (hy : y.cls = RX5) : ∃ r, vwCl[1]? = some r ∧ r.2.2 = 4 ∧ Cond.classLink y.cls 237 r.1 ∈ gTb ∧ Cond.instantiable r.1 4 ∈ gTb ∧ Cond.initialized r.1 ∈ gTb := ⟨_, rfl, rfl, by rw [hy]; exact wd_553, wd_554, wd_64⟩
theorem wd_651 : Cond.classLink RL 74 RX6 ∈ gTb := gIn 651 (by decide +kernel) (by decide +kernel)
theorem qL_74 {y : MethodName} (hy : y.cls = RL) : ∃ r, vwCl[6]? = some r ∧ Cond.classLink y.cls 74 r.1 ∈ gTb := ⟨_, rfl, by rw [hy]; exact wd_651⟩
theorem wd_652 : Cond.instantiable RX6 20 ∈ gTb := gIn 652 (by decide +kernel) (by decide +kernel)
theorem nL_74 {y : MethodName} (hy : y.cls = RL) : ∃ r, vwCl[6]? = some r ∧ r.2.2 = 20 ∧ Cond.classLink y.cls 74 r.1 ∈ gTb ∧ Cond.instantiable r.1 20 ∈ gTb ∧ Cond.initialized r.1 ∈ gTb := ⟨_, rfl, rfl, by rw [hy]; exact wd_651, wd_652, wd_56⟩
theorem wa_int : Cond.arrayClass .int ∈ gTb := gIn 115 (by decide +kernel) (by decide +kernel)
theorem wa_boolean : Cond.arrayClass .boolean ∈ gTb := gIn 718 (by decide +kernel) (by decide +kernel)
theorem wa_long : Cond.arrayClass .long ∈ gTb := gIn 880 (by decide +kernel) (by decide +kernel)
theorem gAt_of {own E : String} {ic : Nat} (h : (vx_atS own ic E gNm).all (fun x => decide (x ∈ lw_tbl) && (goodWord x || gNw x)) = true) : ∀ x ∈ vx_atS own ic E gNm, x ∈ gTb ∨ x ∈ gNs := by
  intro x hx
  have h1 := List.all_eq_true.mp h x hx
  simp only [Bool.and_eq_true, decide_eq_true_eq, Bool.or_eq_true] at h1
  rcases h1.2 with q | q
  · exact Or.inl (List.mem_filter.mpr ⟨h1.1, q⟩)
  · exact Or.inr (List.mem_filter.mpr ⟨h1.1, q⟩)
theorem ta_49_53 : ∀ x ∈ vx_atS RX5 53 "java/lang/IllegalArgumentException" gNm, x ∈ gTb ∨ x ∈ gNs := gAt_of (by decide +kernel)
theorem tb_49_53 : ∀ x ∈ Cond.classLink RX5 49 "java/lang/IllegalArgumentException" :: Cond.initialized "java/lang/IllegalArgumentException" :: vx_atS RX5 53 "java/lang/IllegalArgumentException" gNm, vx_ot x = true := by decide +kernel
theorem wd_226 : Cond.classLink RX5 49 "java/lang/IllegalArgumentException" ∈ gTb := gIn 226 (by decide +kernel) (by decide +kernel)
theorem wd_60 : Cond.initialized "java/lang/IllegalArgumentException" ∈ gTb := gIn 60 (by decide +kernel) (by decide +kernel)
theorem t_49_51 {y : MethodName} (hy : y.cls = RX5) : gThr y 49 51 53 "java/lang/IllegalArgumentException" "the room is out of range" := ⟨hy, by decide +kernel, by decide +kernel, by rw [hy]; exact wd_226, wd_60, by rw [hy]; exact ta_49_53, by rw [hy]; exact tb_49_53⟩
theorem ta_59_63 : ∀ x ∈ vx_atS RX5 63 "java/lang/IllegalStateException" gNm, x ∈ gTb ∨ x ∈ gNs := gAt_of (by decide +kernel)
theorem tb_59_63 : ∀ x ∈ Cond.classLink RX5 59 "java/lang/IllegalStateException" :: Cond.initialized "java/lang/IllegalStateException" :: vx_atS RX5 63 "java/lang/IllegalStateException" gNm, vx_ot x = true := by decide +kernel
theorem wd_294 : Cond.classLink RX5 59 "java/lang/IllegalStateException" ∈ gTb := gIn 294 (by decide +kernel) (by decide +kernel)
theorem wd_61 : Cond.initialized "java/lang/IllegalStateException" ∈ gTb := gIn 61 (by decide +kernel) (by decide +kernel)
theorem t_59_61 {y : MethodName} (hy : y.cls = RX5) : gThr y 59 61 63 "java/lang/IllegalStateException" "there are as many machines as may be" := ⟨hy, by decide +kernel, by decide +kernel, by rw [hy]; exact wd_294, wd_61, by rw [hy]; exact ta_59_63, by rw [hy]; exact tb_59_63⟩
theorem ta_81_85 : ∀ x ∈ vx_atS RX5 85 "java/lang/IndexOutOfBoundsException" gNm, x ∈ gTb ∨ x ∈ gNs := gAt_of (by decide +kernel)
theorem tb_81_85 : ∀ x ∈ Cond.classLink RX5 81 "java/lang/IndexOutOfBoundsException" :: Cond.initialized "java/lang/IndexOutOfBoundsException" :: vx_atS RX5 85 "java/lang/IndexOutOfBoundsException" gNm, vx_ot x = true := by decide +kernel
theorem wd_326 : Cond.classLink RX5 81 "java/lang/IndexOutOfBoundsException" ∈ gTb := gIn 326 (by decide +kernel) (by decide +kernel)
theorem wd_62 : Cond.initialized "java/lang/IndexOutOfBoundsException" ∈ gTb := gIn 62 (by decide +kernel) (by decide +kernel)
theorem t_81_83 {y : MethodName} (hy : y.cls = RX5) : gThr y 81 83 85 "java/lang/IndexOutOfBoundsException" "there is no such machine" := ⟨hy, by decide +kernel, by decide +kernel, by rw [hy]; exact wd_326, wd_62, by rw [hy]; exact ta_81_85, by rw [hy]; exact tb_81_85⟩
theorem t_81_92 {y : MethodName} (hy : y.cls = RX5) : gThr y 81 92 85 "java/lang/IndexOutOfBoundsException" "there is no such tenant" := ⟨hy, by decide +kernel, by decide +kernel, by rw [hy]; exact wd_326, wd_62, by rw [hy]; exact ta_81_85, by rw [hy]; exact tb_81_85⟩
theorem t_49_94 {y : MethodName} (hy : y.cls = RX5) : gThr y 49 94 53 "java/lang/IllegalArgumentException" "the bytes are out of range" := ⟨hy, by decide +kernel, by decide +kernel, by rw [hy]; exact wd_226, wd_60, by rw [hy]; exact ta_49_53, by rw [hy]; exact tb_49_53⟩
theorem t_49_99 {y : MethodName} (hy : y.cls = RX5) : gThr y 49 99 53 "java/lang/IllegalArgumentException" "the heat is out of range" := ⟨hy, by decide +kernel, by decide +kernel, by rw [hy]; exact wd_226, wd_60, by rw [hy]; exact ta_49_53, by rw [hy]; exact tb_49_53⟩
theorem t_81_107 {y : MethodName} (hy : y.cls = RX5) : gThr y 81 107 85 "java/lang/IndexOutOfBoundsException" "there is no such key or tenant" := ⟨hy, by decide +kernel, by decide +kernel, by rw [hy]; exact wd_326, wd_62, by rw [hy]; exact ta_81_85, by rw [hy]; exact tb_81_85⟩
theorem t_59_127 {y : MethodName} (hy : y.cls = RX5) : gThr y 59 127 63 "java/lang/IllegalStateException" "this can't be written now" := ⟨hy, by decide +kernel, by decide +kernel, by rw [hy]; exact wd_294, wd_61, by rw [hy]; exact ta_59_63, by rw [hy]; exact tb_59_63⟩
theorem t_81_136 {y : MethodName} (hy : y.cls = RX5) : gThr y 81 136 85 "java/lang/IndexOutOfBoundsException" "there is no such key" := ⟨hy, by decide +kernel, by decide +kernel, by rw [hy]; exact wd_326, wd_62, by rw [hy]; exact ta_81_85, by rw [hy]; exact tb_81_85⟩
theorem t_59_138 {y : MethodName} (hy : y.cls = RX5) : gThr y 59 138 63 "java/lang/IllegalStateException" "nothing can be taken away here now" := ⟨hy, by decide +kernel, by decide +kernel, by rw [hy]; exact wd_294, wd_61, by rw [hy]; exact ta_59_63, by rw [hy]; exact tb_59_63⟩
theorem t_59_140 {y : MethodName} (hy : y.cls = RX5) : gThr y 59 140 63 "java/lang/IllegalStateException" "no machine that is up has this key" := ⟨hy, by decide +kernel, by decide +kernel, by rw [hy]; exact wd_294, wd_61, by rw [hy]; exact ta_59_63, by rw [hy]; exact tb_59_63⟩
theorem t_81_145 {y : MethodName} (hy : y.cls = RX5) : gThr y 81 145 85 "java/lang/IndexOutOfBoundsException" "no second shard can begin at this key" := ⟨hy, by decide +kernel, by decide +kernel, by rw [hy]; exact wd_326, wd_62, by rw [hy]; exact ta_81_85, by rw [hy]; exact tb_81_85⟩
theorem t_59_154 {y : MethodName} (hy : y.cls = RX5) : gThr y 59 154 63 "java/lang/IllegalStateException" "no shard can be split here now" := ⟨hy, by decide +kernel, by decide +kernel, by rw [hy]; exact wd_294, wd_61, by rw [hy]; exact ta_59_63, by rw [hy]; exact tb_59_63⟩
theorem t_81_163 {y : MethodName} (hy : y.cls = RX5) : gThr y 81 163 85 "java/lang/IndexOutOfBoundsException" "there is no such shard" := ⟨hy, by decide +kernel, by decide +kernel, by rw [hy]; exact wd_326, wd_62, by rw [hy]; exact ta_81_85, by rw [hy]; exact tb_81_85⟩
theorem t_59_169 {y : MethodName} (hy : y.cls = RX5) : gThr y 59 169 63 "java/lang/IllegalStateException" "the shard can't be joined with a next one now" := ⟨hy, by decide +kernel, by decide +kernel, by rw [hy]; exact wd_294, wd_61, by rw [hy]; exact ta_59_63, by rw [hy]; exact tb_59_63⟩
theorem t_81_175 {y : MethodName} (hy : y.cls = RX5) : gThr y 81 175 85 "java/lang/IndexOutOfBoundsException" "there is no such shard or machine" := ⟨hy, by decide +kernel, by decide +kernel, by rw [hy]; exact wd_326, wd_62, by rw [hy]; exact ta_81_85, by rw [hy]; exact tb_81_85⟩
theorem t_59_177 {y : MethodName} (hy : y.cls = RX5) : gThr y 59 177 63 "java/lang/IllegalStateException" "the shard can't begin to move there now" := ⟨hy, by decide +kernel, by decide +kernel, by rw [hy]; exact wd_294, wd_61, by rw [hy]; exact ta_59_63, by rw [hy]; exact tb_59_63⟩
theorem t_59_182 {y : MethodName} (hy : y.cls = RX5) : gThr y 59 182 63 "java/lang/IllegalStateException" "the shard does not move" := ⟨hy, by decide +kernel, by decide +kernel, by rw [hy]; exact wd_294, wd_61, by rw [hy]; exact ta_59_63, by rw [hy]; exact tb_59_63⟩
theorem t_49_191 {y : MethodName} (hy : y.cls = RX5) : gThr y 49 191 53 "java/lang/IllegalArgumentException" "the hours are out of range" := ⟨hy, by decide +kernel, by decide +kernel, by rw [hy]; exact wd_226, wd_60, by rw [hy]; exact ta_49_53, by rw [hy]; exact tb_49_53⟩
theorem t_59_196 {y : MethodName} (hy : y.cls = RX5) : gThr y 59 196 63 "java/lang/IllegalStateException" "there are not so many hours left" := ⟨hy, by decide +kernel, by decide +kernel, by rw [hy]; exact wd_294, wd_61, by rw [hy]; exact ta_59_63, by rw [hy]; exact tb_59_63⟩
theorem t_49_204 {y : MethodName} (hy : y.cls = RX5) : gThr y 49 204 53 "java/lang/IllegalArgumentException" "what is asked is out of range" := ⟨hy, by decide +kernel, by decide +kernel, by rw [hy]; exact wd_226, wd_60, by rw [hy]; exact ta_49_53, by rw [hy]; exact tb_49_53⟩
