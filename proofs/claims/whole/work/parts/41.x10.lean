/-! THE CLASS: its constructor, walked (rows laid by wip/whole/gen/x10.py) -/
section XK
variable {w : gW} {l : Launch}

set_option maxRecDepth 100000 in
set_option maxHeartbeats 4000000 in
theorem e2_init {h : gH} {c : Nat} (v : Int) (hK : gK h c = (2, 4)) : gCt w l yX2_init cX2_init 2 none 1 0 0 [.ref c, .int (iI v)] h (fun q h' => q = none ∧ h' = gputI h c 0 v) := by
  refine gCt.of (gStart (by decide +kernel) (by simp [Value.category]) (Nat.le_of_ble_eq_true rfl) (fun m Wp C => ?_))
  show gG w m 2 Wp h 0 0 [some (.ref c), some (.int (iI v))] [] 0
  refine g_aload_n C 0 dX2_init_0 rfl rfl ?_
  refine g_objInit C (koX2 rfl) (by decide) (Nat.le_of_ble_eq_true rfl) dX2_init_1 ?_
  refine g_aload_n C 0 dX2_init_4 rfl rfl ?_
  refine g_iload_n C 1 dX2_init_5 rfl rfl ?_
  refine g_puti C (fX2_7 rfl) rfl (fiX2_7 rfl rfl) hK dX2_init_6 ?_
  exact g_vret C dX2_init_9 (Nat.le_refl _) (Nat.le_refl _) ⟨rfl, rfl⟩

set_option maxRecDepth 100000 in
set_option maxHeartbeats 4000000 in
theorem e4_init {h : gH} {c : Nat} (hK : gK h c = (4, 3)) : gCt w l yX4_init cX4_init 1 none 1 0 0 [.ref c] h (fun q h' => q = none ∧ h' = gputI h c 1 1000) := by
  refine gCt.of (gStart (by decide +kernel) (by simp [Value.category]) (Nat.le_of_ble_eq_true rfl) (fun m Wp C => ?_))
  show gG w m 1 Wp h 0 0 [some (.ref c)] [] 0
  refine g_aload_n C 0 dX4_init_0 rfl rfl ?_
  refine g_objInit C (koX4 rfl) (by decide) (Nat.le_of_ble_eq_true rfl) dX4_init_1 ?_
  refine g_aload_n C 0 dX4_init_4 rfl rfl ?_
  refine g_sipush C dX4_init_5 (by decide) ?_
  refine g_puti C (fX4_9 rfl) rfl (Or.inl rfl) hK dX4_init_8 ?_
  exact g_vret C dX4_init_11 (Nat.le_refl _) (Nat.le_refl _) ⟨rfl, rfl⟩

set_option maxRecDepth 100000 in
set_option maxHeartbeats 4000000 in
theorem e3_init {h : gH} {c : Nat} (z : Nat) (hK : gK h c = (3, 9)) : gCt w l yX3_init cX3_init 2 none 1 0 0 [.ref c, .ref z] h (fun q h' => q = none ∧ h' = gputR (gputR (gputI h c 1 999) c 2 (some z)) c 3 (some z)) := by
  refine gCt.of (gStart (by decide +kernel) (by simp [Value.category]) (Nat.le_of_ble_eq_true rfl) (fun m Wp C => ?_))
  show gG w m 2 Wp h 0 0 [some (.ref c), some (.ref z)] [] 0
  refine g_aload_n C 0 dX3_init_0 rfl rfl ?_
  refine g_objInit C (koX3 rfl) (by decide) (Nat.le_of_ble_eq_true rfl) dX3_init_1 ?_
  refine g_aload_n C 0 dX3_init_4 rfl rfl ?_
  refine g_sipush C dX3_init_5 (by decide) ?_
  refine g_puti C (fX3_9 rfl) rfl (Or.inl rfl) hK dX3_init_8 ?_
  refine g_aload_n C 0 dX3_init_11 rfl rfl ?_
  refine g_aload_n C 1 dX3_init_12 rfl rfl ?_
  refine g_putr C (fX3_15 rfl) rfl (Or.inl ⟨_, rfl⟩) (Or.inl rfl) hK dX3_init_13 ?_
  refine g_aload_n C 0 dX3_init_16 rfl rfl ?_
  refine g_aload_n C 1 dX3_init_17 rfl rfl ?_
  refine g_putr C (fX3_19 rfl) rfl (Or.inl ⟨_, rfl⟩) (Or.inl rfl) hK dX3_init_18 ?_
  exact g_vret C dX3_init_21 (Nat.le_refl _) (Nat.le_refl _) ⟨rfl, rfl⟩

theorem xIn.kn {n i4 m kT kM kS : Nat} {h : gH} (H : xIn n i4 m kT kM kS h) (hn : 1 ≤ n) {k : Nat × Nat} : gK (gnew h k) 1 = (5, 15) ∧ gK (gnew h k) (n + 1) = k := by
  obtain ⟨h1, h2⟩ := H
  refine ⟨?_, ?_⟩
  · rw [gK_newp, if_neg (by omega), (h2 1 (by omega) hn).1]; rfl
  · rw [gK_newp, if_pos (by omega)]
theorem xIn.ko {n i4 m kT kM kS : Nat} {h : gH} (H : xIn n i4 m kT kM kS h) {a : Nat} (ha : 1 ≤ a) (hn : a ≤ n) {k kd : Nat × Nat} (e : ikd a = kd) : gK (gnew h k) a = kd := by
  rw [gK_newp, if_neg (by have := H.1; omega), (H.2 a ha hn).1]; exact e

set_option maxRecDepth 100000 in
set_option maxHeartbeats 4000000 in
theorem e5_init {h : gH} (H : xIn 1 0 0 0 0 0 h) : gCt w l yX5_init cX5_init 2 none 2 32 2210 [.ref 1] h (fun q h' => q = none ∧ RX gY0 (fun j => j) [] [] h' ∧ gn h' = 33) := by
  refine gCt.of (gStart (by decide +kernel) (by simp [Value.category]) (Nat.le_of_ble_eq_true rfl) (fun m Wp C => ?_))
  have L138 : ∀ (n i : Nat) (h : gH), i + n = 16 → xIn (17 + i) 1000 7 4 6 i h → gG w m 2 Wp h (16 + i) (2066 + 9 * i) [some (.ref 1), some (.int (iI (i : Int)))] [] 138 := by
    intro n
    induction n with
    | zero =>
      intro i h h1 H
      have e : i = 16 := by omega
      subst e
      refine g_iload_n C 1 dX5_init_138 rfl rfl ?_
      refine g_bipush C dX5_init_139 (by decide) ?_
      refine g_icmp_ge C 167 dX5_init_141 (by decide) (by omega) (by omega) (fun c9 => ?_) (fun c9 => by omega)
      refine g_aload_n C 0 dX5_init_167 rfl rfl ?_
      refine g_iconst C dX5_init_168 ?_
      refine g_puti C (fX5_45 rfl) rfl (Or.inl rfl) (H.2 1 (by omega) (by omega)).1 dX5_init_169 ?_
      exact g_vret C dX5_init_172 (by omega) (by omega) ⟨rfl, H.fin, H.1⟩
    | succ n ih =>
      intro i h h1 H
      refine g_iload_n C 1 dX5_init_138 rfl rfl ?_
      refine g_bipush C dX5_init_139 (by decide) ?_
      refine g_icmp_ge C 167 dX5_init_141 (by decide) (by omega) (by omega) (fun c9 => by omega) (fun c9 => ?_)
      refine g_aload_n C 0 dX5_init_144 rfl rfl ?_
      refine g_getr C (fX5_38 rfl) rfl (H.2 1 (by omega) (by omega)).1 17 (by rw [(H.2 1 (by omega) (by omega)).2.2]; rfl) dX5_init_145 ?_
      refine g_iload_n C 1 dX5_init_148 rfl rfl ?_
      refine g_new C gbn3 (nX5_36 rfl) (by omega) (by omega) dX5_init_149 ?_
      rw [show gn h + 1 = 17 + i + 1 by rw [H.1]]
      refine g_dup C dX5_init_152 rfl ?_
      refine g_aload_n C 0 dX5_init_153 rfl rfl ?_
      refine g_getr C (fX5_14 rfl) rfl (H.kn (by omega)).1 2 (by rw [gR_newp, if_neg (by have := H.1; omega), (H.2 1 (by omega) (by omega)).2.2]; rfl) dX5_init_154 ?_
      refine g_callI C [_] [_, _, _] (kX5_42 (y := yX5_init) rfl).1 (kX5_42 (y := yX5_init) rfl).2 rfl (e3_init 2 (H.kn (by omega)).2) rfl rfl (by decide) (by omega) (by omega) (Nat.le_of_ble_eq_true rfl) dX5_init_157 (fun r h2 e => ?_)
      obtain ⟨rfl, rfl⟩ := e
      refine g_aast C (q := 3) (H.ko (by omega) (by omega) rfl) (by omega) (H.kn (by omega)).2 i rfl (by omega) (by omega) dX5_init_160 ?_
      have H := xIn.s (by omega) H
      generalize gputR (gputR (gputR (gputI (gnew h (3, 9)) (17 + i + 1) 1 999) (17 + i + 1) 2 (some 2)) (17 + i + 1) 3 (some 2)) 17 i (some (17 + i + 1)) = h at H ⊢
      refine s_iinc (lo' := [_, _]) C dX5_init_161 rfl (by decide) rfl ?_
      refine g_goto C 138 dX5_init_164 (by decide) ?_
      exact g_widen C (by omega) (by omega) (ih (i + 1) _ (by omega) H)
  have L101 : ∀ (n i : Nat) (h : gH), i + n = 6 → xIn (10 + i) 1000 5 4 i 0 h → gG w m 2 Wp h (9 + i) (2026 + 4 * i) [some (.ref 1), some (.int (iI (i : Int)))] [] 101 := by
    intro n
    induction n with
    | zero =>
      intro i h h1 H
      have e : i = 6 := by omega
      subst e
      refine g_iload_n C 1 dX5_init_101 rfl rfl ?_
      refine g_bipush C dX5_init_102 (by decide) ?_
      refine g_icmp_ge C 127 dX5_init_104 (by decide) (by omega) (by omega) (fun c9 => ?_) (fun c9 => by omega)
      refine g_aload_n C 0 dX5_init_127 rfl rfl ?_
      refine g_bipush C dX5_init_128 (by decide) ?_
      refine g_newQ C 16 3 rfl (by omega) (by omega) (qX5_36 rfl) (by omega) (by omega) dX5_init_130 ?_
      rw [show gn h + 1 = 17 by rw [H.1]]
      refine g_putr C (fX5_38 rfl) rfl (Or.inr ⟨_, rfl⟩) (fiX5_38 rfl rfl) (H.kn (by omega)).1 dX5_init_133 ?_
      have H := xIn.a17 H
      generalize gputR (gnew h (11, 16)) 1 6 (some 17) = h at H ⊢
      refine g_iconst C dX5_init_136 ?_
      refine s_istore_n (lo' := [_, _]) C 1 dX5_init_137 rfl (by decide) rfl ?_
      exact g_widen C (by omega) (by omega) (L138 16 0 _ (by omega) H)
    | succ n ih =>
      intro i h h1 H
      refine g_iload_n C 1 dX5_init_101 rfl rfl ?_
      refine g_bipush C dX5_init_102 (by decide) ?_
      refine g_icmp_ge C 127 dX5_init_104 (by decide) (by omega) (by omega) (fun c9 => by omega) (fun c9 => ?_)
      refine g_aload_n C 0 dX5_init_107 rfl rfl ?_
      refine g_getr C (fX5_32 rfl) rfl (H.2 1 (by omega) (by omega)).1 10 (by rw [(H.2 1 (by omega) (by omega)).2.2]; rfl) dX5_init_108 ?_
      refine g_iload_n C 1 dX5_init_111 rfl rfl ?_
      refine g_new C gbn2 (nX5_7 rfl) (by omega) (by omega) dX5_init_112 ?_
      rw [show gn h + 1 = 10 + i + 1 by rw [H.1]]
      refine g_dup C dX5_init_115 rfl ?_
      refine g_iload_n C 1 dX5_init_116 rfl rfl ?_
      refine g_callI C [_] [_, _, _] (kX5_11 (y := yX5_init) rfl).1 (kX5_11 (y := yX5_init) rfl).2 rfl (e2_init (i : Int) (H.kn (by omega)).2) rfl rfl (by decide) (by omega) (by omega) (Nat.le_of_ble_eq_true rfl) dX5_init_117 (fun r h2 e => ?_)
      obtain ⟨rfl, rfl⟩ := e
      refine g_aast C (q := 2) (H.ko (by omega) (by omega) rfl) (by omega) (H.kn (by omega)).2 i rfl (by omega) (by omega) dX5_init_120 ?_
      have H := xIn.m (by omega) H
      generalize gputR (gputI (gnew h (2, 4)) (10 + i + 1) 0 (i : Int)) 10 i (some (10 + i + 1)) = h at H ⊢
      refine s_iinc (lo' := [_, _]) C dX5_init_121 rfl (by decide) rfl ?_
      refine g_goto C 101 dX5_init_124 (by decide) ?_
      exact g_widen C (by omega) (by omega) (ih (i + 1) _ (by omega) H)
  have L66 : ∀ (n i : Nat) (h : gH), i + n = 4 → xIn (5 + i) 1000 4 i 0 0 h → gG w m 2 Wp h (4 + i) (2008 + 3 * i) [some (.ref 1), some (.int (iI (i : Int)))] [] 66 := by
    intro n
    induction n with
    | zero =>
      intro i h h1 H
      have e : i = 4 := by omega
      subst e
      refine g_iload_n C 1 dX5_init_66 rfl rfl ?_
      refine g_iconst C dX5_init_67 ?_
      refine g_icmp_ge C 90 dX5_init_68 (by decide) (by omega) (by omega) (fun c9 => ?_) (fun c9 => by omega)
      refine g_aload_n C 0 dX5_init_90 rfl rfl ?_
      refine g_bipush C dX5_init_91 (by decide) ?_
      refine g_newQ C 6 2 rfl (by omega) (by omega) (qX5_7 rfl) (by omega) (by omega) dX5_init_93 ?_
      rw [show gn h + 1 = 10 by rw [H.1]]
      refine g_putr C (fX5_32 rfl) rfl (Or.inr ⟨_, rfl⟩) (fiX5_32 rfl rfl) (H.kn (by omega)).1 dX5_init_96 ?_
      have H := xIn.a10 H
      generalize gputR (gnew h (10, 6)) 1 4 (some 10) = h at H ⊢
      refine g_iconst C dX5_init_99 ?_
      refine s_istore_n (lo' := [_, _]) C 1 dX5_init_100 rfl (by decide) rfl ?_
      exact g_widen C (by omega) (by omega) (L101 6 0 _ (by omega) H)
    | succ n ih =>
      intro i h h1 H
      refine g_iload_n C 1 dX5_init_66 rfl rfl ?_
      refine g_iconst C dX5_init_67 ?_
      refine g_icmp_ge C 90 dX5_init_68 (by decide) (by omega) (by omega) (fun c9 => by omega) (fun c9 => ?_)
      refine g_aload_n C 0 dX5_init_71 rfl rfl ?_
      refine g_getr C (fX5_27 rfl) rfl (H.2 1 (by omega) (by omega)).1 5 (by rw [(H.2 1 (by omega) (by omega)).2.2]; rfl) dX5_init_72 ?_
      refine g_iload_n C 1 dX5_init_75 rfl rfl ?_
      refine g_new C gbn4 (nX5_25 rfl) (by omega) (by omega) dX5_init_76 ?_
      rw [show gn h + 1 = 5 + i + 1 by rw [H.1]]
      refine g_dup C dX5_init_79 rfl ?_
      refine g_callI C [] [_, _, _] (kX5_31 (y := yX5_init) rfl).1 (kX5_31 (y := yX5_init) rfl).2 rfl (e4_init (H.kn (by omega)).2) rfl rfl (by decide) (by omega) (by omega) (Nat.le_of_ble_eq_true rfl) dX5_init_80 (fun r h2 e => ?_)
      obtain ⟨rfl, rfl⟩ := e
      refine g_aast C (q := 4) (H.ko (by omega) (by omega) rfl) (by omega) (H.kn (by omega)).2 i rfl (by omega) (by omega) dX5_init_83 ?_
      have H := xIn.t (by omega) H
      generalize gputR (gputI (gnew h (4, 3)) (5 + i + 1) 1 1000) 5 i (some (5 + i + 1)) = h at H ⊢
      refine s_iinc (lo' := [_, _]) C dX5_init_84 rfl (by decide) rfl ?_
      refine g_goto C 66 dX5_init_87 (by decide) ?_
      exact g_widen C (by omega) (by omega) (ih (i + 1) _ (by omega) H)
  have L36 : ∀ (n i : Nat) (h : gH), i + n = 1000 → xIn 4 i 3 0 0 0 h → gG w m 2 Wp h (3) (2004) [some (.ref 1), some (.int (iI (i : Int)))] [] 36 := by
    intro n
    induction n with
    | zero =>
      intro i h h1 H
      have e : i = 1000 := by omega
      subst e
      refine g_iload_n C 1 dX5_init_36 rfl rfl ?_
      refine g_sipush C dX5_init_37 (by decide) ?_
      refine g_icmp_ge C 56 dX5_init_40 (by decide) (by omega) (by omega) (fun c9 => ?_) (fun c9 => by omega)
      refine g_aload_n C 0 dX5_init_56 rfl rfl ?_
      refine g_iconst C dX5_init_57 ?_
      refine g_newQ C 4 4 rfl (by omega) (by omega) (qX5_25 rfl) (by omega) (by omega) dX5_init_58 ?_
      rw [show gn h + 1 = 5 by rw [H.1]]
      refine g_putr C (fX5_27 rfl) rfl (Or.inr ⟨_, rfl⟩) (fiX5_27 rfl rfl) (H.kn (by omega)).1 dX5_init_61 ?_
      have H := xIn.a5 H
      generalize gputR (gnew h (12, 4)) 1 3 (some 5) = h at H ⊢
      refine g_iconst C dX5_init_64 ?_
      refine s_istore_n (lo' := [_, _]) C 1 dX5_init_65 rfl (by decide) rfl ?_
      exact g_widen C (by omega) (by omega) (L66 4 0 _ (by omega) H)
    | succ n ih =>
      intro i h h1 H
      refine g_iload_n C 1 dX5_init_36 rfl rfl ?_
      refine g_sipush C dX5_init_37 (by decide) ?_
      refine g_icmp_ge C 56 dX5_init_40 (by decide) (by omega) (by omega) (fun c9 => by omega) (fun c9 => ?_)
      refine g_aload_n C 0 dX5_init_43 rfl rfl ?_
      refine g_getr C (fX5_22 rfl) rfl (H.2 1 (by omega) (by omega)).1 4 (by rw [(H.2 1 (by omega) (by omega)).2.2]; rfl) dX5_init_44 ?_
      refine g_iload_n C 1 dX5_init_47 rfl rfl ?_
      refine g_iconst C dX5_init_48 ?_
      refine g_iast C (H.2 4 (by omega) (by omega)).1 i rfl (by omega) (by omega) dX5_init_49 ?_
      have H := xIn.st (by omega) H
      generalize gputI h 4 i (-1) = h at H ⊢
      refine s_iinc (lo' := [_, _]) C dX5_init_50 rfl (by decide) rfl ?_
      refine g_goto C 36 dX5_init_53 (by decide) ?_
      exact ih (i + 1) _ (by omega) H
  show gG w m 2 Wp h 0 0 [some (.ref 1), none] [] 0
  refine g_aload_n C 0 dX5_init_0 rfl rfl ?_
  refine g_objInit C (koX5 rfl) (by decide) (Nat.le_of_ble_eq_true rfl) dX5_init_1 ?_
  refine g_aload_n C 0 dX5_init_4 rfl rfl ?_
  refine g_new C gbn2 (nX5_7 rfl) (by omega) (by omega) dX5_init_5 ?_
  rw [show gn h + 1 = 2 by rw [H.1]]
  refine g_dup C dX5_init_8 rfl ?_
  refine g_iconst C dX5_init_9 ?_
  refine g_callI C [_] [_, _] (kX5_11 (y := yX5_init) rfl).1 (kX5_11 (y := yX5_init) rfl).2 rfl (e2_init (-1) (H.kn (by omega)).2) rfl rfl (by decide) (by omega) (by omega) (Nat.le_of_ble_eq_true rfl) dX5_init_10 (fun r h2 e => ?_)
  obtain ⟨rfl, rfl⟩ := e
  refine g_putr C (fX5_14 rfl) rfl (Or.inl ⟨_, rfl⟩) (fiX5_14 rfl rfl) (H.kn (by omega)).1 dX5_init_13 ?_
  have H := xIn.nw H
  generalize gputR (gputI (gnew h (2, 4)) 2 0 (-1)) 1 0 (some 2) = h at H ⊢
  refine g_aload_n C 0 dX5_init_16 rfl rfl ?_
  refine g_sipush C dX5_init_17 (by decide) ?_
  refine g_newI C 1000 rfl (by omega) wa_int (by omega) (by omega) dX5_init_20 ?_
  rw [show gn h + 1 = 3 by rw [H.1]]
  refine g_putr C (fX5_18 rfl) rfl (Or.inr ⟨_, rfl⟩) (fiX5_18 rfl rfl) (H.kn (by omega)).1 dX5_init_22 ?_
  have H := xIn.a3 H
  generalize gputR (gnew h (7, 1000)) 1 1 (some 3) = h at H ⊢
  refine g_aload_n C 0 dX5_init_25 rfl rfl ?_
  refine g_sipush C dX5_init_26 (by decide) ?_
  refine g_newI C 1000 rfl (by omega) wa_int (by omega) (by omega) dX5_init_29 ?_
  rw [show gn h + 1 = 4 by rw [H.1]]
  refine g_putr C (fX5_22 rfl) rfl (Or.inr ⟨_, rfl⟩) (fiX5_22 rfl rfl) (H.kn (by omega)).1 dX5_init_31 ?_
  have H := xIn.a4 H
  generalize gputR (gnew h (7, 1000)) 1 2 (some 4) = h at H ⊢
  refine g_iconst C dX5_init_34 ?_
  refine s_istore_n (lo' := [_, _]) C 1 dX5_init_35 rfl (by decide) rfl ?_
  exact g_widen C (by omega) (by omega) (L36 1000 0 _ (by omega) H)

end XK
