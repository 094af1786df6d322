/-! THE REFERENCE: its constructor (rows laid by wip/whole/gen/x11.py) -/
theorem gMs_inj {f g : Nat} (h1 : 1 ≤ f) (hf : f ≤ 12) (h2 : 1 ≤ g) (hg : g ≤ 12) (h : gMs f = gMs g) : f = g := by
  have A : ∀ a : Fin 13, ∀ b : Fin 13, 1 ≤ a.val → 1 ≤ b.val → gMs a = gMs b → a = b := by decide
  exact congrArg Fin.val (A ⟨f, by omega⟩ ⟨g, by omega⟩ h1 h2 h)
/-- the heap while the reference is made: m arrays; what lies below 34 stays -/
def yIn (h0 : gH) (m : Nat) (S : gS) (h : gH) : Prop := gn h = 34 + m ∧ (∀ a, a ≤ 33 → gK h a = gK h0 a ∧ gI h a = gI h0 a ∧ gR h a = gR h0 a) ∧ gK h 34 = (6, 20) ∧ (∀ f, 1 ≤ f → f ≤ m → gK h (34 + f) = gMk f ∧ gR h 34 (gMs f) = some (34 + f)) ∧ (∀ f, f ≤ m → gI h (34 + f) = S f) ∧ ∀ f, m < f → S f = fun _ => 0
theorem yIn.arr {h0 h : gH} {m : Nat} {S : gS} (H : yIn h0 m S h) (hm : m < 12) {k : Nat × Nat} {i : Nat} (hk : gMk (m + 1) = k) (hi : gMs (m + 1) = i) : yIn h0 (m + 1) S (gputR (gnew h k) 34 i (some (34 + m + 1))) := by
  obtain ⟨h1, h2, h3, h4, h5, h6⟩ := H
  subst hk hi
  refine ⟨by show gn h + 1 = _; omega, fun a ha => ⟨?_, ?_, ?_⟩, ?_, fun f f1 f2 => ⟨?_, ?_⟩, fun f hf => ?_, fun f hf => h6 f (by omega)⟩
  · rw [gK_putR, gK_newp, if_neg (by omega)]; exact (h2 a ha).1
  · rw [gI_putR, ← (h2 a ha).2.1]; funext x; rw [gI_newp, if_neg (by omega)]
  · rw [← (h2 a ha).2.2]; funext x; rw [gputR_R, if_neg (by omega), gR_newp, if_neg (by omega)]
  · rw [gK_putR, gK_newp, if_neg (by omega)]; exact h3
  · rw [gK_putR, gK_newp]
    by_cases e : f = m + 1
    · subst e; rw [if_pos (by omega)]
    · rw [if_neg (by omega)]; exact (h4 f f1 (by omega)).1
  · rw [gputR_R]
    by_cases e : f = m + 1
    · subst e; rw [if_pos ⟨rfl, rfl⟩]; congr 1
    · rw [if_neg (fun z => e (gMs_inj f1 (by omega) (by omega) (by omega) z.2)), gR_newp, if_neg (by omega)]; exact (h4 f f1 (by omega)).2
  · funext x
    rw [gI_putR, gI_newp]
    by_cases e : f = m + 1
    · subst e; rw [if_pos (by omega), h6 (m + 1) (by omega)]
    · rw [if_neg (by omega), h5 f (by omega)]
theorem yIn.kn {h0 h : gH} {m : Nat} {S : gS} (H : yIn h0 m S h) {k : Nat × Nat} : gK (gnew h k) 34 = (6, 20) := by
  rw [gK_newp, if_neg (by have := H.1; omega)]; exact H.2.2.1
theorem yIn.put {h0 h : gH} {m : Nat} {S : gS} (H : yIn h0 m S h) (i : Nat) (v : Int) : yIn h0 m (su S 0 i v) (gputI h 34 i v) := by
  obtain ⟨h1, h2, h3, h4, h5, h6⟩ := H
  refine ⟨h1, fun a ha => ⟨(h2 a ha).1, ?_, (h2 a ha).2.2⟩, h3, h4, fun f hf => ?_, fun f hf => ?_⟩
  · rw [gI_putI, if_neg (by omega)]; exact (h2 a ha).2.1
  · by_cases e : f = 0
    · subst e
      show (if (34 : Nat) = 34 then va_up (gI h 34) i v else gI h 34) = _
      rw [if_pos rfl, show gI h 34 = S 0 from h5 0 (by omega)]
      rfl
    · rw [gI_putI, if_neg (by omega), h5 f hf]
      unfold su
      rw [if_neg e]
  · unfold su
    rw [if_neg (by omega)]
    exact h6 f hf
theorem gwr_self {h : gH} {S : gS} (H : ∀ f, f ≤ 12 → gI h (34 + f) = S f) : gwr h S = h := by
  refine Prod.ext rfl (Prod.ext rfl (Prod.ext ?_ rfl))
  funext b
  show (if 34 ≤ b ∧ b ≤ 46 then S (b - 34) else gI h b) = gI h b
  by_cases e : 34 ≤ b ∧ b ≤ 46
  · rw [if_pos e, ← H (b - 34) (by omega), show 34 + (b - 34) = b by omega]
  · rw [if_neg e]
def squ (S : gS) : Nat → gS
  | 0 => S
  | k + 1 => su (squ S k) 3 k 1000
/-- the reference's first state -/
def gS0 : gS := su (su (su (squ (su (fun _ _ => 0) 0 13 1) 4) 8 0 (-1)) 9 0 (-1)) 7 1 1000
section YK
variable {w : gW} {l : Launch}

set_option maxRecDepth 100000 in
set_option maxHeartbeats 4000000 in
theorem e6_init {h0 h : gH} (H : yIn h0 0 (fun _ _ => 0) h) : gCt w l yX6_init cX6_init 2 none 1 12 2138 [.ref 34] h (fun q h' => q = none ∧ ∃ hh, h' = gwr hh gS0 ∧ gShM hh ∧ gn hh = 46 ∧ ∀ a, a ≤ 33 → gK hh a = gK h0 a ∧ gI hh a = gI h0 a ∧ gR hh a = gR h0 a) := by
  refine gCt.of (gStart (by decide +kernel) (by simp [Value.category]) (Nat.le_of_ble_eq_true rfl) (fun m Wp C => ?_))
  show gG w m 2 Wp h 0 0 [some (.ref 34), none] [] 0
  refine g_aload_n C 0 dX6_init_0 rfl rfl ?_
  refine g_objInit C (koX6 rfl) (by decide) (Nat.le_of_ble_eq_true rfl) dX6_init_1 ?_
  refine g_aload_n C 0 dX6_init_4 rfl rfl ?_
  refine g_bipush C dX6_init_5 (by decide) ?_
  refine g_newI C 6 rfl (by omega) wa_int (by omega) (by omega) dX6_init_7 ?_
  rw [show gn h + 1 = 35 by rw [H.1]]
  refine g_putr C (fX6_7 rfl) rfl (Or.inr ⟨_, rfl⟩) (fiX6_7 rfl rfl) H.kn dX6_init_9 ?_
  have H : yIn h0 1 _ _ := H.arr (k := (7, 6)) (i := 3) (by omega) rfl rfl
  generalize gputR (gnew h (7, 6)) 34 3 (some (34 + 0 + 1)) = h at H ⊢
  refine g_aload_n C 0 dX6_init_12 rfl rfl ?_
  refine g_bipush C dX6_init_13 (by decide) ?_
  refine g_newZ C 6 rfl (by omega) wa_boolean (by omega) (by omega) dX6_init_15 ?_
  rw [show gn h + 1 = 36 by rw [H.1]]
  refine g_putr C (fX6_13 rfl) rfl (Or.inr ⟨_, rfl⟩) (fiX6_13 rfl rfl) H.kn dX6_init_17 ?_
  have H : yIn h0 2 _ _ := H.arr (k := (8, 6)) (i := 4) (by omega) rfl rfl
  generalize gputR (gnew h (8, 6)) 34 4 (some (34 + 1 + 1)) = h at H ⊢
  refine g_aload_n C 0 dX6_init_20 rfl rfl ?_
  refine g_iconst C dX6_init_21 ?_
  refine g_newI C 4 rfl (by omega) wa_int (by omega) (by omega) dX6_init_22 ?_
  rw [show gn h + 1 = 37 by rw [H.1]]
  refine g_putr C (fX6_17 rfl) rfl (Or.inr ⟨_, rfl⟩) (fiX6_17 rfl rfl) H.kn dX6_init_24 ?_
  have H : yIn h0 3 _ _ := H.arr (k := (7, 4)) (i := 5) (by omega) rfl rfl
  generalize gputR (gnew h (7, 4)) 34 5 (some (34 + 2 + 1)) = h at H ⊢
  refine g_aload_n C 0 dX6_init_27 rfl rfl ?_
  refine g_iconst C dX6_init_28 ?_
  refine g_newI C 4 rfl (by omega) wa_int (by omega) (by omega) dX6_init_29 ?_
  rw [show gn h + 1 = 38 by rw [H.1]]
  refine g_putr C (fX6_20 rfl) rfl (Or.inr ⟨_, rfl⟩) (fiX6_20 rfl rfl) H.kn dX6_init_31 ?_
  have H : yIn h0 4 _ _ := H.arr (k := (7, 4)) (i := 6) (by omega) rfl rfl
  generalize gputR (gnew h (7, 4)) 34 6 (some (34 + 3 + 1)) = h at H ⊢
  refine g_aload_n C 0 dX6_init_34 rfl rfl ?_
  refine g_sipush C dX6_init_35 (by decide) ?_
  refine g_newI C 1000 rfl (by omega) wa_int (by omega) (by omega) dX6_init_38 ?_
  rw [show gn h + 1 = 39 by rw [H.1]]
  refine g_putr C (fX6_23 rfl) rfl (Or.inr ⟨_, rfl⟩) (fiX6_23 rfl rfl) H.kn dX6_init_40 ?_
  have H : yIn h0 5 _ _ := H.arr (k := (7, 1000)) (i := 11) (by omega) rfl rfl
  generalize gputR (gnew h (7, 1000)) 34 11 (some (34 + 4 + 1)) = h at H ⊢
  refine g_aload_n C 0 dX6_init_43 rfl rfl ?_
  refine g_sipush C dX6_init_44 (by decide) ?_
  refine g_newI C 1000 rfl (by omega) wa_int (by omega) (by omega) dX6_init_47 ?_
  rw [show gn h + 1 = 40 by rw [H.1]]
  refine g_putr C (fX6_26 rfl) rfl (Or.inr ⟨_, rfl⟩) (fiX6_26 rfl rfl) H.kn dX6_init_49 ?_
  have H : yIn h0 6 _ _ := H.arr (k := (7, 1000)) (i := 12) (by omega) rfl rfl
  generalize gputR (gnew h (7, 1000)) 34 12 (some (34 + 5 + 1)) = h at H ⊢
  refine g_aload_n C 0 dX6_init_52 rfl rfl ?_
  refine g_iconst C dX6_init_53 ?_
  refine g_puti C (fX6_29 rfl) rfl (Or.inl rfl) H.2.2.1 dX6_init_54 ?_
  have H := H.put 13 1
  generalize gputI h 34 13 1 = h at H ⊢
  refine g_aload_n C 0 dX6_init_57 rfl rfl ?_
  refine g_bipush C dX6_init_58 (by decide) ?_
  refine g_newI C 18 rfl (by omega) wa_int (by omega) (by omega) dX6_init_60 ?_
  rw [show gn h + 1 = 41 by rw [H.1]]
  refine g_putr C (fX6_33 rfl) rfl (Or.inr ⟨_, rfl⟩) (fiX6_33 rfl rfl) H.kn dX6_init_62 ?_
  have H : yIn h0 7 _ _ := H.arr (k := (7, 18)) (i := 14) (by omega) rfl rfl
  generalize gputR (gnew h (7, 18)) 34 14 (some (34 + 6 + 1)) = h at H ⊢
  refine g_aload_n C 0 dX6_init_65 rfl rfl ?_
  refine g_bipush C dX6_init_66 (by decide) ?_
  refine g_newI C 18 rfl (by omega) wa_int (by omega) (by omega) dX6_init_68 ?_
  rw [show gn h + 1 = 42 by rw [H.1]]
  refine g_putr C (fX6_36 rfl) rfl (Or.inr ⟨_, rfl⟩) (fiX6_36 rfl rfl) H.kn dX6_init_70 ?_
  have H : yIn h0 8 _ _ := H.arr (k := (7, 18)) (i := 15) (by omega) rfl rfl
  generalize gputR (gnew h (7, 18)) 34 15 (some (34 + 7 + 1)) = h at H ⊢
  refine g_aload_n C 0 dX6_init_73 rfl rfl ?_
  refine g_bipush C dX6_init_74 (by decide) ?_
  refine g_newI C 18 rfl (by omega) wa_int (by omega) (by omega) dX6_init_76 ?_
  rw [show gn h + 1 = 43 by rw [H.1]]
  refine g_putr C (fX6_39 rfl) rfl (Or.inr ⟨_, rfl⟩) (fiX6_39 rfl rfl) H.kn dX6_init_78 ?_
  have H : yIn h0 9 _ _ := H.arr (k := (7, 18)) (i := 16) (by omega) rfl rfl
  generalize gputR (gnew h (7, 18)) 34 16 (some (34 + 8 + 1)) = h at H ⊢
  refine g_aload_n C 0 dX6_init_81 rfl rfl ?_
  refine g_bipush C dX6_init_82 (by decide) ?_
  refine g_newI C 18 rfl (by omega) wa_int (by omega) (by omega) dX6_init_84 ?_
  rw [show gn h + 1 = 44 by rw [H.1]]
  refine g_putr C (fX6_42 rfl) rfl (Or.inr ⟨_, rfl⟩) (fiX6_42 rfl rfl) H.kn dX6_init_86 ?_
  have H : yIn h0 10 _ _ := H.arr (k := (7, 18)) (i := 17) (by omega) rfl rfl
  generalize gputR (gnew h (7, 18)) 34 17 (some (34 + 9 + 1)) = h at H ⊢
  refine g_aload_n C 0 dX6_init_89 rfl rfl ?_
  refine g_bipush C dX6_init_90 (by decide) ?_
  refine g_newI C 18 rfl (by omega) wa_int (by omega) (by omega) dX6_init_92 ?_
  rw [show gn h + 1 = 45 by rw [H.1]]
  refine g_putr C (fX6_45 rfl) rfl (Or.inr ⟨_, rfl⟩) (fiX6_45 rfl rfl) H.kn dX6_init_94 ?_
  have H : yIn h0 11 _ _ := H.arr (k := (7, 18)) (i := 18) (by omega) rfl rfl
  generalize gputR (gnew h (7, 18)) 34 18 (some (34 + 10 + 1)) = h at H ⊢
  refine g_aload_n C 0 dX6_init_97 rfl rfl ?_
  refine g_bipush C dX6_init_98 (by decide) ?_
  refine g_newI C 18 rfl (by omega) wa_int (by omega) (by omega) dX6_init_100 ?_
  rw [show gn h + 1 = 46 by rw [H.1]]
  refine g_putr C (fX6_48 rfl) rfl (Or.inr ⟨_, rfl⟩) (fiX6_48 rfl rfl) H.kn dX6_init_102 ?_
  have H : yIn h0 12 _ _ := H.arr (k := (7, 18)) (i := 19) (by omega) rfl rfl
  generalize gputR (gnew h (7, 18)) 34 19 (some (34 + 11 + 1)) = h at H ⊢
  have hS : gShM h := ⟨fun f hf => by
    by_cases e : f = 0
    · subst e; exact H.2.2.1
    · exact (H.2.2.2.1 f (by omega) hf).1, fun f f1 f2 => (H.2.2.2.1 f f1 f2).2⟩
  have hP : ∀ S, ∃ hh, gwr h S = gwr hh S ∧ gShM hh ∧ gn hh = 46 ∧ ∀ a, a ≤ 33 → gK hh a = gK h0 a ∧ gI hh a = gI h0 a ∧ gR hh a = gR h0 a := fun S => ⟨h, rfl, hS, H.1, H.2.1⟩
  rw [← gwr_self H.2.2.2.2.1]
  generalize hU : (su (fun _ _ => 0) 0 13 1 : gS) = U
  have L : ∀ (n i : Nat), i + n = 4 → gG w m 2 Wp (gwr h (squ U i)) 12 2138 [some (.ref 34), some (.int (iI (i : Int)))] [] 107 := by
    intro n
    induction n with
    | zero =>
      intro i h1
      have e : i = 4 := by omega
      subst e
      refine g_iload_n C 1 dX6_init_107 rfl rfl ?_
      refine g_iconst C dX6_init_108 ?_
      refine g_icmp_ge C 127 dX6_init_109 (by decide) (by omega) (by omega) (fun c109 => ?_) (fun c109 => ?_)
      · refine g_aload_n C 0 dX6_init_127 rfl rfl ?_
        refine m_arr C hS 8 (by omega) (by omega) (fX6_36 rfl) rfl dX6_init_128 ?_
        refine g_iconst C dX6_init_131 ?_
        refine g_iconst C dX6_init_132 ?_
        refine m_iast C hS (by omega) rfl (by omega) 0 rfl (by omega) dX6_init_133 ?_
        refine g_aload_n C 0 dX6_init_134 rfl rfl ?_
        refine m_arr C hS 9 (by omega) (by omega) (fX6_39 rfl) rfl dX6_init_135 ?_
        refine g_iconst C dX6_init_138 ?_
        refine g_iconst C dX6_init_139 ?_
        refine m_iast C hS (by omega) rfl (by omega) 0 rfl (by omega) dX6_init_140 ?_
        refine g_aload_n C 0 dX6_init_141 rfl rfl ?_
        refine m_arr C hS 7 (by omega) (by omega) (fX6_33 rfl) rfl dX6_init_142 ?_
        refine g_iconst C dX6_init_145 ?_
        refine g_sipush C dX6_init_146 (by decide) ?_
        refine m_iast C hS (by omega) rfl (by omega) 1 rfl (by omega) dX6_init_149 ?_
        exact g_vret C dX6_init_150 (by omega) (by omega) ⟨rfl, by obtain ⟨hh, e1, e2, e3, e4⟩ := hP gS0; exact ⟨hh, by rw [← e1, gS0, hU], e2, e3, e4⟩⟩
      · omega
    | succ n ih =>
      intro i h1
      refine g_iload_n C 1 dX6_init_107 rfl rfl ?_
      refine g_iconst C dX6_init_108 ?_
      refine g_icmp_ge C 127 dX6_init_109 (by decide) (by omega) (by omega) (fun c109 => ?_) (fun c109 => ?_)
      · omega
      · refine g_aload_n C 0 dX6_init_112 rfl rfl ?_
        refine m_arr C hS 3 (by omega) (by omega) (fX6_17 rfl) rfl dX6_init_113 ?_
        refine g_iload_n C 1 dX6_init_116 rfl rfl ?_
        refine g_sipush C dX6_init_117 (by decide) ?_
        refine m_iast C hS (by omega) rfl (by omega) i (by omega) (by omega) dX6_init_120 ?_
        refine s_iinc (lo' := [_, _]) C dX6_init_121 rfl (by decide) rfl ?_
        refine g_goto C 107 dX6_init_124 (by decide) ?_
        exact ih (i + 1) (by omega)
  refine g_iconst C dX6_init_105 ?_
  refine s_istore_n (lo' := [_, _]) C 1 dX6_init_106 rfl (by decide) rfl ?_
  exact g_widen C (by omega) (by omega) (L 4 0 (by omega))

end YK
