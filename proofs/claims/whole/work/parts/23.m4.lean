section ME
variable {w : gW} {l : Launch} {h : gH} {S : gS}

/-- the rows behind j are one further on -/
def sins (U : gS) (j ns : Nat) : gS := fun g => if 7 ≤ g ∧ g ≤ 12 then (fun i => if j < i ∧ i ≤ ns + 1 then U g (i - 1) else U g i) else U g
theorem sins_0 (U : gS) (ns : Nat) : sins U (ns + 1) ns = U := by
  funext g
  unfold sins
  split
  · funext i
    rw [if_neg (by omega)]
  · rfl
theorem sins_s (U : gS) {k ns : Nat} (hk : k ≤ ns) : slay (sins U (k + 1) ns) (k + 1) k = sins U k ns := by
  funext g
  unfold slay
  by_cases hg : 7 ≤ g ∧ g ≤ 12
  · rw [if_pos hg]
    funext i
    unfold sins va_up
    simp only [if_pos hg]
    by_cases e : i = k + 1
    · subst e
      rw [if_pos rfl, if_neg (by omega), if_pos (by omega)]
      rfl
    · rw [if_neg e]
      by_cases e2 : k + 1 < i ∧ i ≤ ns + 1
      · rw [if_pos e2, if_pos (by omega)]
      · rw [if_neg e2, if_neg (by omega)]
  · rw [if_neg hg]
    unfold sins
    rw [if_neg hg, if_neg hg]

set_option maxRecDepth 100000 in
set_option maxHeartbeats 4000000 in
theorem c6_split_1 (hS : gShM h) (h1 : gW1 S) (h2 : gW2 S) (h0 : gW0 S) {nm ns : Nat} (hs : gWS S nm ns) (key : Int) (hkey : (-2147483648 ≤ key ∧ key < 2147483648)) (hp : ¬ (1 ≤ key ∧ key ≤ 999)) : gMm w l yX6_split cX6_split 5 (some .int) 3 [.ref 34, .int (iI key)] h S (some (.int (iI (0)))) (su S 0 0 1) := by
  refine gMm_start (by decide +kernel) (by simp [Value.category]) (Nat.le_of_ble_eq_true rfl) (fun m Wp C => ?_)
  have e02 := hs.1
  have hnm := hs.2.1
  have e13 := hs.2.2.1
  have hns1 := hs.2.2.2.1
  have hns2 := hs.2.2.2.2.1
  obtain ⟨hw1, hw7, hw8⟩ := h0
  show gG w m 5 Wp (gwr h S) 0 0 [some (.ref 34), some (.int (iI key)), none, none, none] [] 0
  refine g_iload_n C 1 dX6_split_0 rfl rfl ?_
  refine g_iconst C dX6_split_1 ?_
  refine g_sipush C dX6_split_2 (by decide) ?_
  refine m_callS C [_, _, _] _ (kX6_54 rfl) rfl (c6_in_f key 1 999 hkey (by omega) (by omega) hp) rfl rfl (by decide) (Nat.le_refl _) (Nat.le_refl _) (Nat.le_of_ble_eq_true rfl) dX6_split_5 ?_
  refine s_istore_n (lo' := [_, _, _, _, _]) C 2 dX6_split_8 rfl (by decide) rfl ?_
  refine g_iload_n C 2 dX6_split_9 rfl rfl ?_
  refine g_if_eq C 21 dX6_split_10 (by decide) (by omega) (fun c10 => ?_) (fun c10 => ?_)
  · refine g_iconst C dX6_split_21 ?_
    refine s_istore_n (lo' := [_, _, _, _, _]) C 3 dX6_split_22 rfl (by decide) rfl ?_
    refine g_aload_n C 0 dX6_split_23 rfl rfl ?_
    refine g_iload_n C 2 dX6_split_24 rfl rfl ?_
    refine g_if_ne C 32 dX6_split_25 (by decide) (by omega) (fun c25 => ?_) (fun c25 => ?_)
    · omega
    · refine g_iconst C dX6_split_28 ?_
      refine g_goto C 66 dX6_split_29 (by decide) ?_
      refine m_call C hS [_] _ (kX6_75 rfl) (c6_refN hS 1 (by omega) (by omega)) rfl rfl (by decide) (Nat.le_refl _) (Nat.le_refl _) (Nat.le_of_ble_eq_true rfl) dX6_split_66 ?_
      refine g_if_eq C 74 dX6_split_69 (by decide) (by omega) (fun c69 => ?_) (fun c69 => ?_)
      · omega
      · refine g_iconst C dX6_split_72 ?_
        exact g_iret C dX6_split_73 (Nat.le_refl _) (Nat.le_refl _) ⟨rfl, rfl⟩
  · omega

set_option maxRecDepth 100000 in
set_option maxHeartbeats 4000000 in
theorem c6_split_2 (hS : gShM h) (h1 : gW1 S) (h2 : gW2 S) (h0 : gW0 S) {nm ns : Nat} (hs : gWS S nm ns) (key : Int) (hkey : (-2147483648 ≤ key ∧ key < 2147483648)) (j : Nat) (hj : j < ns) (hk0 : 1 ≤ key ∧ key ≤ 999) (hk1 : S 7 j ≤ key) (hk2 : key < S 7 (j + 1)) (hp : S 7 j = key ∨ S 9 j ≠ -1 ∨ ns = 16) : gMm w l yX6_split cX6_split 5 (some .int) 3 [.ref 34, .int (iI key)] h S (some (.int (iI (0)))) (su S 0 0 2) := by
  refine gMm_start (by decide +kernel) (by simp [Value.category]) (Nat.le_of_ble_eq_true rfl) (fun m Wp C => ?_)
  have e02 := hs.1
  have hnm := hs.2.1
  have e13 := hs.2.2.1
  have hns1 := hs.2.2.2.1
  have hns2 := hs.2.2.2.2.1
  obtain ⟨hw1, hw7, hw8⟩ := h0
  have hr := hs.2.2.2.2.2.2.2.2 j hj
  have hrr := h1 j
  show gG w m 5 Wp (gwr h S) 0 0 [some (.ref 34), some (.int (iI key)), none, none, none] [] 0
  refine g_iload_n C 1 dX6_split_0 rfl rfl ?_
  refine g_iconst C dX6_split_1 ?_
  refine g_sipush C dX6_split_2 (by decide) ?_
  refine m_callS C [_, _, _] _ (kX6_54 rfl) rfl (c6_in_t key 1 999 hkey (by omega) (by omega) hk0) rfl rfl (by decide) (Nat.le_refl _) (Nat.le_refl _) (Nat.le_of_ble_eq_true rfl) dX6_split_5 ?_
  refine s_istore_n (lo' := [_, _, _, _, _]) C 2 dX6_split_8 rfl (by decide) rfl ?_
  refine g_iload_n C 2 dX6_split_9 rfl rfl ?_
  refine g_if_eq C 21 dX6_split_10 (by decide) (by omega) (fun c10 => ?_) (fun c10 => ?_)
  · omega
  · refine g_aload_n C 0 dX6_split_13 rfl rfl ?_
    refine g_iload_n C 1 dX6_split_14 rfl rfl ?_
    refine m_call C hS [_] _ (kX6_95 rfl) (c6_shardAt hS key (by omega) j (by omega) (fun i _ => (h1 i).1) (fun i _ hi => by have := gmono2 hs hi (by omega); omega) hk2) rfl rfl (by decide) (Nat.le_refl _) (Nat.le_refl _) (Nat.le_of_ble_eq_true rfl) dX6_split_15 ?_
    refine g_goto C 22 dX6_split_18 (by decide) ?_
    refine s_istore_n (lo' := [_, _, _, _, _]) C 3 dX6_split_22 rfl (by decide) rfl ?_
    refine g_aload_n C 0 dX6_split_23 rfl rfl ?_
    refine g_iload_n C 2 dX6_split_24 rfl rfl ?_
    refine g_if_ne C 32 dX6_split_25 (by decide) (by omega) (fun c25 => ?_) (fun c25 => ?_)
    · refine g_aload_n C 0 dX6_split_32 rfl rfl ?_
      refine m_arr C hS 7 (by omega) (by omega) (fX6_33 rfl) rfl dX6_split_33 ?_
      refine g_iload_n C 3 dX6_split_36 rfl rfl ?_
      refine m_iald C hS (by omega) rfl (by omega) j (by omega) (by omega) dX6_split_37 ?_
      refine g_iload_n C 1 dX6_split_38 rfl rfl ?_
      refine g_icmp_eq C 61 dX6_split_39 (by decide) (by omega) (by omega) (fun c39 => ?_) (fun c39 => ?_)
      · refine g_iconst C dX6_split_61 ?_
        refine g_goto C 66 dX6_split_62 (by decide) ?_
        refine m_call C hS [_] _ (kX6_75 rfl) (c6_refN hS 2 (by omega) (by omega)) rfl rfl (by decide) (Nat.le_refl _) (Nat.le_refl _) (Nat.le_of_ble_eq_true rfl) dX6_split_66 ?_
        refine g_if_eq C 74 dX6_split_69 (by decide) (by omega) (fun c69 => ?_) (fun c69 => ?_)
        · omega
        · refine g_iconst C dX6_split_72 ?_
          exact g_iret C dX6_split_73 (Nat.le_refl _) (Nat.le_refl _) ⟨rfl, rfl⟩
      · refine g_aload_n C 0 dX6_split_42 rfl rfl ?_
        refine m_arr C hS 9 (by omega) (by omega) (fX6_39 rfl) rfl dX6_split_43 ?_
        refine g_iload_n C 3 dX6_split_46 rfl rfl ?_
        refine m_iald C hS (by omega) rfl (by omega) j (by omega) (by omega) dX6_split_47 ?_
        refine g_iconst C dX6_split_48 ?_
        refine g_icmp_ne C 61 dX6_split_49 (by decide) (by omega) (by omega) (fun c49 => ?_) (fun c49 => ?_)
        · refine g_iconst C dX6_split_61 ?_
          refine g_goto C 66 dX6_split_62 (by decide) ?_
          refine m_call C hS [_] _ (kX6_75 rfl) (c6_refN hS 2 (by omega) (by omega)) rfl rfl (by decide) (Nat.le_refl _) (Nat.le_refl _) (Nat.le_of_ble_eq_true rfl) dX6_split_66 ?_
          refine g_if_eq C 74 dX6_split_69 (by decide) (by omega) (fun c69 => ?_) (fun c69 => ?_)
          · omega
          · refine g_iconst C dX6_split_72 ?_
            exact g_iret C dX6_split_73 (Nat.le_refl _) (Nat.le_refl _) ⟨rfl, rfl⟩
        · refine g_aload_n C 0 dX6_split_52 rfl rfl ?_
          refine m_fld C hS (fX6_29 rfl) rfl dX6_split_53 ?_
          refine g_bipush C dX6_split_56 (by decide) ?_
          refine g_icmp_ne C 65 dX6_split_58 (by decide) (by omega) (by omega) (fun c58 => ?_) (fun c58 => ?_)
          · omega
          · refine g_iconst C dX6_split_61 ?_
            refine g_goto C 66 dX6_split_62 (by decide) ?_
            refine m_call C hS [_] _ (kX6_75 rfl) (c6_refN hS 2 (by omega) (by omega)) rfl rfl (by decide) (Nat.le_refl _) (Nat.le_refl _) (Nat.le_of_ble_eq_true rfl) dX6_split_66 ?_
            refine g_if_eq C 74 dX6_split_69 (by decide) (by omega) (fun c69 => ?_) (fun c69 => ?_)
            · omega
            · refine g_iconst C dX6_split_72 ?_
              exact g_iret C dX6_split_73 (Nat.le_refl _) (Nat.le_refl _) ⟨rfl, rfl⟩
    · omega

set_option maxRecDepth 100000 in
set_option maxHeartbeats 4000000 in
theorem c6_split_3 (hS : gShM h) (h1 : gW1 S) (h2 : gW2 S) (h0 : gW0 S) {nm ns : Nat} (hs : gWS S nm ns) (key : Int) (hkey : (-2147483648 ≤ key ∧ key < 2147483648)) (j : Nat) (hj : j < ns) (hk0 : 1 ≤ key ∧ key ≤ 999) (hk1 : S 7 j ≤ key) (hk2 : key < S 7 (j + 1)) (hp : S 7 j ≠ key) (hp2 : S 9 j = -1) (hp3 : ns < 16) (hht : 0 ≤ S 12 j ∧ S 12 j < 2147483648) : gMm w l yX6_split cX6_split 5 (some .int) 3 [.ref 34, .int (iI key)] h S (some (.int (iI ((j : Int) + 1)))) (su (su (su (su (sins (su S 0 0 0) j ns) 7 (j + 1) key) 12 (j + 1) (S 12 j - S 12 j / 2)) 12 j (S 12 j / 2)) 0 13 ((ns : Int) + 1)) := by
  refine gMm_start (by decide +kernel) (by simp [Value.category]) (Nat.le_of_ble_eq_true rfl) (fun m Wp C => ?_)
  have e02 := hs.1
  have hnm := hs.2.1
  have e13 := hs.2.2.1
  have hns1 := hs.2.2.2.1
  have hns2 := hs.2.2.2.2.1
  obtain ⟨hw1, hw7, hw8⟩ := h0
  have hr := hs.2.2.2.2.2.2.2.2 j hj
  have hrr := h1 j
  have L : ∀ (n k : Nat), k = j + n → k ≤ ns → gG w m 5 Wp (gwr h (sins (su S 0 0 0) (k + 1) ns)) 0 0 [some (.ref 34), some (.int (iI key)), some (.int (iI 1)), some (.int (iI (j : Int))), some (.int (iI (k : Int)))] [] 80 := by
    intro n
    induction n with
    | zero =>
      intro k h8 h9
      have e9 : k = j := by omega
      subst e9
      have hh1 : 0 ≤ S 12 k ∧ S 12 k < 2147483648 := hht
      have ea : sins (su S 0 0 0) k ns 12 k = S 12 k := if_neg (by omega)
      refine g_iload C dX6_split_80 rfl ?_
      refine g_iload_n C 3 dX6_split_82 rfl rfl ?_
      refine g_icmp_le C 102 dX6_split_83 (by decide) (by omega) (by omega) (fun c83 => ?_) (fun c83 => ?_)
      · refine g_aload_n C 0 dX6_split_102 rfl rfl ?_
        refine g_iload_n C 3 dX6_split_103 rfl rfl ?_
        refine g_iconst C dX6_split_104 ?_
        refine g_iadd C dX6_split_105 ?_
        refine g_iload_n C 3 dX6_split_106 rfl rfl ?_
        refine m_call C hS [_, _] _ (kX6_111 rfl) (c6_lay hS _ (k + 1) (by omega) (by omega) _ k rfl (by omega)) rfl rfl (by decide) (Nat.le_refl _) (Nat.le_refl _) (Nat.le_of_ble_eq_true rfl) dX6_split_107 ?_
        rw [sins_s _ h9]
        refine g_aload_n C 0 dX6_split_110 rfl rfl ?_
        refine m_arr C hS 7 (by omega) (by omega) (fX6_33 rfl) rfl dX6_split_111 ?_
        refine g_iload_n C 3 dX6_split_114 rfl rfl ?_
        refine g_iconst C dX6_split_115 ?_
        refine g_iadd C dX6_split_116 ?_
        refine g_iload_n C 1 dX6_split_117 rfl rfl ?_
        refine m_iast C hS (by omega) rfl (by omega) (k + 1) (by omega) (by omega) dX6_split_118 ?_
        refine g_aload_n C 0 dX6_split_119 rfl rfl ?_
        refine m_arr C hS 12 (by omega) (by omega) (fX6_48 rfl) rfl dX6_split_120 ?_
        refine g_iload_n C 3 dX6_split_123 rfl rfl ?_
        refine m_ialdv C hS (by omega) rfl (by omega) k (by omega) (by omega) (S 12 k) ea dX6_split_124 ?_
        refine g_iconst C dX6_split_125 ?_
        refine g_half C dX6_split_126 hh1.1 hh1.2 ?_
        refine s_istore (lo' := [_, _, _, _, _]) C dX6_split_127 (by decide) rfl ?_
        refine g_aload_n C 0 dX6_split_129 rfl rfl ?_
        refine m_arr C hS 12 (by omega) (by omega) (fX6_48 rfl) rfl dX6_split_130 ?_
        refine g_iload_n C 3 dX6_split_133 rfl rfl ?_
        refine g_iconst C dX6_split_134 ?_
        refine g_iadd C dX6_split_135 ?_
        refine g_aload_n C 0 dX6_split_136 rfl rfl ?_
        refine m_arr C hS 12 (by omega) (by omega) (fX6_48 rfl) rfl dX6_split_137 ?_
        refine g_iload_n C 3 dX6_split_140 rfl rfl ?_
        refine m_ialdv C hS (by omega) rfl (by omega) k (by omega) (by omega) (S 12 k) ea dX6_split_141 ?_
        refine g_iload C dX6_split_142 rfl ?_
        refine g_isub C dX6_split_144 ?_
        refine m_iast C hS (by omega) rfl (by omega) (k + 1) (by omega) (by omega) dX6_split_145 ?_
        refine g_aload_n C 0 dX6_split_146 rfl rfl ?_
        refine m_arr C hS 12 (by omega) (by omega) (fX6_48 rfl) rfl dX6_split_147 ?_
        refine g_iload_n C 3 dX6_split_150 rfl rfl ?_
        refine g_iload C dX6_split_151 rfl ?_
        refine m_iast C hS (by omega) rfl (by omega) k (by omega) (by omega) dX6_split_153 ?_
        refine g_aload_n C 0 dX6_split_154 rfl rfl ?_
        refine g_dup C dX6_split_155 rfl ?_
        refine m_fldv C hS (fX6_29 rfl) rfl (S 0 13) rfl dX6_split_156 ?_
        refine g_iconst C dX6_split_159 ?_
        refine g_iadd C dX6_split_160 ?_
        refine m_put C hS (fX6_29 rfl) rfl dX6_split_161 ?_
        refine g_iload_n C 3 dX6_split_164 rfl rfl ?_
        refine g_iconst C dX6_split_165 ?_
        refine g_iadd C dX6_split_166 ?_
        exact g_iret C dX6_split_167 (Nat.le_refl _) (Nat.le_refl _) ⟨rfl, by rw [e13]⟩
      · omega
    | succ n ih =>
      intro k h8 h9
      refine g_iload C dX6_split_80 rfl ?_
      refine g_iload_n C 3 dX6_split_82 rfl rfl ?_
      refine g_icmp_le C 102 dX6_split_83 (by decide) (by omega) (by omega) (fun c83 => ?_) (fun c83 => ?_)
      · omega
      · refine g_aload_n C 0 dX6_split_86 rfl rfl ?_
        refine g_iload C dX6_split_87 rfl ?_
        refine g_iconst C dX6_split_89 ?_
        refine g_iadd C dX6_split_90 ?_
        refine g_iload C dX6_split_91 rfl ?_
        refine m_call C hS [_, _] _ (kX6_111 rfl) (c6_lay hS _ (k + 1) (by omega) (by omega) _ k rfl (by omega)) rfl rfl (by decide) (Nat.le_refl _) (Nat.le_refl _) (Nat.le_of_ble_eq_true rfl) dX6_split_93 ?_
        refine s_iinc (lo' := [_, _, _, _, _]) C dX6_split_96 rfl (by decide) rfl ?_
        refine g_goto C 80 dX6_split_99 (by decide) ?_
        exact g_as (ih (k - 1) (by omega) (by omega)) (by rw [sins_s _ h9, show k - 1 + 1 = k by omega]) (by rw [show ((k - 1 : Nat) : Int) = (k : Int) + -1 by omega]) rfl
  show gG w m 5 Wp (gwr h S) 0 0 [some (.ref 34), some (.int (iI key)), none, none, none] [] 0
  refine g_iload_n C 1 dX6_split_0 rfl rfl ?_
  refine g_iconst C dX6_split_1 ?_
  refine g_sipush C dX6_split_2 (by decide) ?_
  refine m_callS C [_, _, _] _ (kX6_54 rfl) rfl (c6_in_t key 1 999 hkey (by omega) (by omega) hk0) rfl rfl (by decide) (Nat.le_refl _) (Nat.le_refl _) (Nat.le_of_ble_eq_true rfl) dX6_split_5 ?_
  refine s_istore_n (lo' := [_, _, _, _, _]) C 2 dX6_split_8 rfl (by decide) rfl ?_
  refine g_iload_n C 2 dX6_split_9 rfl rfl ?_
  refine g_if_eq C 21 dX6_split_10 (by decide) (by omega) (fun c10 => ?_) (fun c10 => ?_)
  · omega
  · refine g_aload_n C 0 dX6_split_13 rfl rfl ?_
    refine g_iload_n C 1 dX6_split_14 rfl rfl ?_
    refine m_call C hS [_] _ (kX6_95 rfl) (c6_shardAt hS key (by omega) j (by omega) (fun i _ => (h1 i).1) (fun i _ hi => by have := gmono2 hs hi (by omega); omega) hk2) rfl rfl (by decide) (Nat.le_refl _) (Nat.le_refl _) (Nat.le_of_ble_eq_true rfl) dX6_split_15 ?_
    refine g_goto C 22 dX6_split_18 (by decide) ?_
    refine s_istore_n (lo' := [_, _, _, _, _]) C 3 dX6_split_22 rfl (by decide) rfl ?_
    refine g_aload_n C 0 dX6_split_23 rfl rfl ?_
    refine g_iload_n C 2 dX6_split_24 rfl rfl ?_
    refine g_if_ne C 32 dX6_split_25 (by decide) (by omega) (fun c25 => ?_) (fun c25 => ?_)
    · refine g_aload_n C 0 dX6_split_32 rfl rfl ?_
      refine m_arr C hS 7 (by omega) (by omega) (fX6_33 rfl) rfl dX6_split_33 ?_
      refine g_iload_n C 3 dX6_split_36 rfl rfl ?_
      refine m_iald C hS (by omega) rfl (by omega) j (by omega) (by omega) dX6_split_37 ?_
      refine g_iload_n C 1 dX6_split_38 rfl rfl ?_
      refine g_icmp_eq C 61 dX6_split_39 (by decide) (by omega) (by omega) (fun c39 => ?_) (fun c39 => ?_)
      · omega
      · refine g_aload_n C 0 dX6_split_42 rfl rfl ?_
        refine m_arr C hS 9 (by omega) (by omega) (fX6_39 rfl) rfl dX6_split_43 ?_
        refine g_iload_n C 3 dX6_split_46 rfl rfl ?_
        refine m_iald C hS (by omega) rfl (by omega) j (by omega) (by omega) dX6_split_47 ?_
        refine g_iconst C dX6_split_48 ?_
        refine g_icmp_ne C 61 dX6_split_49 (by decide) (by omega) (by omega) (fun c49 => ?_) (fun c49 => ?_)
        · omega
        · refine g_aload_n C 0 dX6_split_52 rfl rfl ?_
          refine m_fld C hS (fX6_29 rfl) rfl dX6_split_53 ?_
          refine g_bipush C dX6_split_56 (by decide) ?_
          refine g_icmp_ne C 65 dX6_split_58 (by decide) (by omega) (by omega) (fun c58 => ?_) (fun c58 => ?_)
          · refine g_iconst C dX6_split_65 ?_
            refine m_call C hS [_] _ (kX6_75 rfl) (c6_ref0 hS) rfl rfl (by decide) (Nat.le_refl _) (Nat.le_refl _) (Nat.le_of_ble_eq_true rfl) dX6_split_66 ?_
            refine g_if_eq C 74 dX6_split_69 (by decide) (by omega) (fun c69 => ?_) (fun c69 => ?_)
            · refine g_aload_n C 0 dX6_split_74 rfl rfl ?_
              refine m_fldv C hS (fX6_29 rfl) rfl (S 0 13) rfl dX6_split_75 ?_
              refine s_istore (lo' := [_, _, _, _, _]) C dX6_split_78 (by decide) rfl ?_
              exact g_as (L (ns - j) ns (by omega) (Nat.le_refl _)) (by rw [sins_0]) (by rw [e13]) rfl
            · omega
          · omega
    · omega

/-- the rows from a up to k are those that stood one further on -/
def sdel (U : gS) (a k : Nat) : gS := fun g => if 7 ≤ g ∧ g ≤ 12 then (fun i => if a ≤ i ∧ i < k then U g (i + 1) else U g i) else U g
theorem sdel_0 (U : gS) (a : Nat) : sdel U a a = U := by
  funext g
  unfold sdel
  split
  · funext i
    rw [if_neg (by omega)]
  · rfl
theorem sdel_s (U : gS) {a k : Nat} (hk : a ≤ k) : slay (sdel U a k) k (k + 1) = sdel U a (k + 1) := by
  funext g
  unfold slay
  by_cases hg : 7 ≤ g ∧ g ≤ 12
  · rw [if_pos hg]
    funext i
    unfold sdel va_up
    simp only [if_pos hg]
    by_cases e : i = k
    · subst e
      rw [if_pos rfl, if_neg (by omega), if_pos (by omega)]
    · rw [if_neg e]
      by_cases e2 : a ≤ i ∧ i < k
      · rw [if_pos e2, if_pos (by omega)]
      · rw [if_neg e2, if_neg (by omega)]
  · rw [if_neg hg]
    unfold sdel
    rw [if_neg hg, if_neg hg]

set_option maxRecDepth 100000 in
set_option maxHeartbeats 4000000 in
theorem c6_join_1 (hS : gShM h) (h1 : gW1 S) (h2 : gW2 S) (h0 : gW0 S) {nm ns : Nat} (hs : gWS S nm ns) (x : Int) (hx : (-2147483648 ≤ x ∧ x < 2147483648)) (hp : ¬ (0 ≤ x ∧ x < ns)) : gMm w l yX6_join cX6_join 5 (some .int) 2 [.ref 34, .int (iI x)] h S (some (.int (iI (0)))) (su S 0 0 1) := by
  refine gMm_start (by decide +kernel) (by simp [Value.category]) (Nat.le_of_ble_eq_true rfl) (fun m Wp C => ?_)
  have e02 := hs.1
  have hnm := hs.2.1
  have e13 := hs.2.2.1
  have hns1 := hs.2.2.2.1
  have hns2 := hs.2.2.2.2.1
  obtain ⟨hw1, hw7, hw8⟩ := h0
  show gG w m 5 Wp (gwr h S) 0 0 [some (.ref 34), some (.int (iI x)), none, none, none] [] 0
  refine g_aload_n C 0 dX6_join_0 rfl rfl ?_
  refine g_iload_n C 1 dX6_join_1 rfl rfl ?_
  refine m_call C hS [_] _ (kX6_115 rfl) (c6_isShard_f hS x hx (by omega) (by omega)) rfl rfl (by decide) (Nat.le_refl _) (Nat.le_refl _) (Nat.le_of_ble_eq_true rfl) dX6_join_2 ?_
  refine s_istore_n (lo' := [_, _, _, _, _]) C 2 dX6_join_5 rfl (by decide) rfl ?_
  refine g_iload_n C 2 dX6_join_6 rfl rfl ?_
  refine g_if_eq C 63 dX6_join_7 (by decide) (by omega) (fun c7 => ?_) (fun c7 => ?_)
  · refine g_iconst C dX6_join_63 ?_
    refine s_istore_n (lo' := [_, _, _, _, _]) C 3 dX6_join_64 rfl (by decide) rfl ?_
    refine g_aload_n C 0 dX6_join_65 rfl rfl ?_
    refine g_iload_n C 2 dX6_join_66 rfl rfl ?_
    refine g_if_ne C 74 dX6_join_67 (by decide) (by omega) (fun c67 => ?_) (fun c67 => ?_)
    · omega
    · refine g_iconst C dX6_join_70 ?_
      refine g_goto C 83 dX6_join_71 (by decide) ?_
      refine m_call C hS [_] _ (kX6_75 rfl) (c6_refN hS 1 (by omega) (by omega)) rfl rfl (by decide) (Nat.le_refl _) (Nat.le_refl _) (Nat.le_of_ble_eq_true rfl) dX6_join_83 ?_
      refine g_if_eq C 91 dX6_join_86 (by decide) (by omega) (fun c86 => ?_) (fun c86 => ?_)
      · omega
      · refine g_iconst C dX6_join_89 ?_
        exact g_iret C dX6_join_90 (Nat.le_refl _) (Nat.le_refl _) ⟨rfl, rfl⟩
  · omega

set_option maxRecDepth 100000 in
set_option maxHeartbeats 4000000 in
theorem c6_join_2 (hS : gShM h) (h1 : gW1 S) (h2 : gW2 S) (h0 : gW0 S) {nm ns : Nat} (hs : gWS S nm ns) (x : Int) (hx : (-2147483648 ≤ x ∧ x < 2147483648)) (j : Nat) (he : x = (j : Int)) (hj : j < ns) (hp : ¬ (j + 1 < ns ∧ S 8 j = S 8 (j + 1) ∧ S 9 j = -1 ∧ S 9 (j + 1) = -1)) : gMm w l yX6_join cX6_join 5 (some .int) 2 [.ref 34, .int (iI x)] h S (some (.int (iI (0)))) (su S 0 0 2) := by
  refine gMm_start (by decide +kernel) (by simp [Value.category]) (Nat.le_of_ble_eq_true rfl) (fun m Wp C => ?_)
  have e02 := hs.1
  have hnm := hs.2.1
  have e13 := hs.2.2.1
  have hns1 := hs.2.2.2.1
  have hns2 := hs.2.2.2.2.1
  obtain ⟨hw1, hw7, hw8⟩ := h0
  have hr := hs.2.2.2.2.2.2.2.2 j hj
  have hrr := h1 j
  have hrr2 := h1 (j + 1)
  show gG w m 5 Wp (gwr h S) 0 0 [some (.ref 34), some (.int (iI x)), none, none, none] [] 0
  refine g_aload_n C 0 dX6_join_0 rfl rfl ?_
  refine g_iload_n C 1 dX6_join_1 rfl rfl ?_
  refine m_call C hS [_] _ (kX6_115 rfl) (c6_isShard_t hS x hx (by omega) (by omega)) rfl rfl (by decide) (Nat.le_refl _) (Nat.le_refl _) (Nat.le_of_ble_eq_true rfl) dX6_join_2 ?_
  refine s_istore_n (lo' := [_, _, _, _, _]) C 2 dX6_join_5 rfl (by decide) rfl ?_
  refine g_iload_n C 2 dX6_join_6 rfl rfl ?_
  refine g_if_eq C 63 dX6_join_7 (by decide) (by omega) (fun c7 => ?_) (fun c7 => ?_)
  · omega
  · refine g_iload_n C 1 dX6_join_10 rfl rfl ?_
    refine g_iconst C dX6_join_11 ?_
    refine g_iadd C dX6_join_12 ?_
    refine g_aload_n C 0 dX6_join_13 rfl rfl ?_
    refine m_fld C hS (fX6_29 rfl) rfl dX6_join_14 ?_
    refine g_icmp_ge C 63 dX6_join_17 (by decide) (by omega) (by omega) (fun c17 => ?_) (fun c17 => ?_)
    · refine g_iconst C dX6_join_63 ?_
      refine s_istore_n (lo' := [_, _, _, _, _]) C 3 dX6_join_64 rfl (by decide) rfl ?_
      refine g_aload_n C 0 dX6_join_65 rfl rfl ?_
      refine g_iload_n C 2 dX6_join_66 rfl rfl ?_
      refine g_if_ne C 74 dX6_join_67 (by decide) (by omega) (fun c67 => ?_) (fun c67 => ?_)
      · refine g_iload_n C 3 dX6_join_74 rfl rfl ?_
        refine g_if_eq C 82 dX6_join_75 (by decide) (by omega) (fun c75 => ?_) (fun c75 => ?_)
        · refine g_iconst C dX6_join_82 ?_
          refine m_call C hS [_] _ (kX6_75 rfl) (c6_refN hS 2 (by omega) (by omega)) rfl rfl (by decide) (Nat.le_refl _) (Nat.le_refl _) (Nat.le_of_ble_eq_true rfl) dX6_join_83 ?_
          refine g_if_eq C 91 dX6_join_86 (by decide) (by omega) (fun c86 => ?_) (fun c86 => ?_)
          · omega
          · refine g_iconst C dX6_join_89 ?_
            exact g_iret C dX6_join_90 (Nat.le_refl _) (Nat.le_refl _) ⟨rfl, rfl⟩
        · omega
      · omega
    · refine g_aload_n C 0 dX6_join_20 rfl rfl ?_
      refine m_arr C hS 8 (by omega) (by omega) (fX6_36 rfl) rfl dX6_join_21 ?_
      refine g_iload_n C 1 dX6_join_24 rfl rfl ?_
      refine m_iald C hS (by omega) rfl (by omega) j (by omega) (by omega) dX6_join_25 ?_
      refine g_aload_n C 0 dX6_join_26 rfl rfl ?_
      refine m_arr C hS 8 (by omega) (by omega) (fX6_36 rfl) rfl dX6_join_27 ?_
      refine g_iload_n C 1 dX6_join_30 rfl rfl ?_
      refine g_iconst C dX6_join_31 ?_
      refine g_iadd C dX6_join_32 ?_
      refine m_iald C hS (by omega) rfl (by omega) (j + 1) (by omega) (by omega) dX6_join_33 ?_
      refine g_icmp_ne C 63 dX6_join_34 (by decide) (by omega) (by omega) (fun c34 => ?_) (fun c34 => ?_)
      · refine g_iconst C dX6_join_63 ?_
        refine s_istore_n (lo' := [_, _, _, _, _]) C 3 dX6_join_64 rfl (by decide) rfl ?_
        refine g_aload_n C 0 dX6_join_65 rfl rfl ?_
        refine g_iload_n C 2 dX6_join_66 rfl rfl ?_
        refine g_if_ne C 74 dX6_join_67 (by decide) (by omega) (fun c67 => ?_) (fun c67 => ?_)
        · refine g_iload_n C 3 dX6_join_74 rfl rfl ?_
          refine g_if_eq C 82 dX6_join_75 (by decide) (by omega) (fun c75 => ?_) (fun c75 => ?_)
          · refine g_iconst C dX6_join_82 ?_
            refine m_call C hS [_] _ (kX6_75 rfl) (c6_refN hS 2 (by omega) (by omega)) rfl rfl (by decide) (Nat.le_refl _) (Nat.le_refl _) (Nat.le_of_ble_eq_true rfl) dX6_join_83 ?_
            refine g_if_eq C 91 dX6_join_86 (by decide) (by omega) (fun c86 => ?_) (fun c86 => ?_)
            · omega
            · refine g_iconst C dX6_join_89 ?_
              exact g_iret C dX6_join_90 (Nat.le_refl _) (Nat.le_refl _) ⟨rfl, rfl⟩
          · omega
        · omega
      · refine g_aload_n C 0 dX6_join_37 rfl rfl ?_
        refine m_arr C hS 9 (by omega) (by omega) (fX6_39 rfl) rfl dX6_join_38 ?_
        refine g_iload_n C 1 dX6_join_41 rfl rfl ?_
        refine m_iald C hS (by omega) rfl (by omega) j (by omega) (by omega) dX6_join_42 ?_
        refine g_iconst C dX6_join_43 ?_
        refine g_icmp_ne C 63 dX6_join_44 (by decide) (by omega) (by omega) (fun c44 => ?_) (fun c44 => ?_)
        · refine g_iconst C dX6_join_63 ?_
          refine s_istore_n (lo' := [_, _, _, _, _]) C 3 dX6_join_64 rfl (by decide) rfl ?_
          refine g_aload_n C 0 dX6_join_65 rfl rfl ?_
          refine g_iload_n C 2 dX6_join_66 rfl rfl ?_
          refine g_if_ne C 74 dX6_join_67 (by decide) (by omega) (fun c67 => ?_) (fun c67 => ?_)
          · refine g_iload_n C 3 dX6_join_74 rfl rfl ?_
            refine g_if_eq C 82 dX6_join_75 (by decide) (by omega) (fun c75 => ?_) (fun c75 => ?_)
            · refine g_iconst C dX6_join_82 ?_
              refine m_call C hS [_] _ (kX6_75 rfl) (c6_refN hS 2 (by omega) (by omega)) rfl rfl (by decide) (Nat.le_refl _) (Nat.le_refl _) (Nat.le_of_ble_eq_true rfl) dX6_join_83 ?_
              refine g_if_eq C 91 dX6_join_86 (by decide) (by omega) (fun c86 => ?_) (fun c86 => ?_)
              · omega
              · refine g_iconst C dX6_join_89 ?_
                exact g_iret C dX6_join_90 (Nat.le_refl _) (Nat.le_refl _) ⟨rfl, rfl⟩
            · omega
          · omega
        · refine g_aload_n C 0 dX6_join_47 rfl rfl ?_
          refine m_arr C hS 9 (by omega) (by omega) (fX6_39 rfl) rfl dX6_join_48 ?_
          refine g_iload_n C 1 dX6_join_51 rfl rfl ?_
          refine g_iconst C dX6_join_52 ?_
          refine g_iadd C dX6_join_53 ?_
          refine m_iald C hS (by omega) rfl (by omega) (j + 1) (by omega) (by omega) dX6_join_54 ?_
          refine g_iconst C dX6_join_55 ?_
          refine g_icmp_ne C 63 dX6_join_56 (by decide) (by omega) (by omega) (fun c56 => ?_) (fun c56 => ?_)
          · refine g_iconst C dX6_join_63 ?_
            refine s_istore_n (lo' := [_, _, _, _, _]) C 3 dX6_join_64 rfl (by decide) rfl ?_
            refine g_aload_n C 0 dX6_join_65 rfl rfl ?_
            refine g_iload_n C 2 dX6_join_66 rfl rfl ?_
            refine g_if_ne C 74 dX6_join_67 (by decide) (by omega) (fun c67 => ?_) (fun c67 => ?_)
            · refine g_iload_n C 3 dX6_join_74 rfl rfl ?_
              refine g_if_eq C 82 dX6_join_75 (by decide) (by omega) (fun c75 => ?_) (fun c75 => ?_)
              · refine g_iconst C dX6_join_82 ?_
                refine m_call C hS [_] _ (kX6_75 rfl) (c6_refN hS 2 (by omega) (by omega)) rfl rfl (by decide) (Nat.le_refl _) (Nat.le_refl _) (Nat.le_of_ble_eq_true rfl) dX6_join_83 ?_
                refine g_if_eq C 91 dX6_join_86 (by decide) (by omega) (fun c86 => ?_) (fun c86 => ?_)
                · omega
                · refine g_iconst C dX6_join_89 ?_
                  exact g_iret C dX6_join_90 (Nat.le_refl _) (Nat.le_refl _) ⟨rfl, rfl⟩
              · omega
            · omega
          · omega

set_option maxRecDepth 100000 in
set_option maxHeartbeats 4000000 in
theorem c6_join_3 (hS : gShM h) (h1 : gW1 S) (h2 : gW2 S) (h0 : gW0 S) {nm ns : Nat} (hs : gWS S nm ns) (x : Int) (hx : (-2147483648 ≤ x ∧ x < 2147483648)) (j : Nat) (he : x = (j : Int)) (hj : j < ns) (hp : j + 1 < ns) (hp2 : S 8 j = S 8 (j + 1)) (hp3 : S 9 j = -1) (hp4 : S 9 (j + 1) = -1) : gMm w l yX6_join cX6_join 5 (some .int) 2 [.ref 34, .int (iI x)] h S (some (.int (iI ((ns : Int) - 1)))) (su (sdel (su (su S 0 0 0) 12 j (S 12 j + S 12 (j + 1))) (j + 1) ns) 0 13 ((ns : Int) - 1)) := by
  refine gMm_start (by decide +kernel) (by simp [Value.category]) (Nat.le_of_ble_eq_true rfl) (fun m Wp C => ?_)
  have e02 := hs.1
  have hnm := hs.2.1
  have e13 := hs.2.2.1
  have hns1 := hs.2.2.2.1
  have hns2 := hs.2.2.2.2.1
  obtain ⟨hw1, hw7, hw8⟩ := h0
  have hr := hs.2.2.2.2.2.2.2.2 j hj
  have hrr := h1 j
  have hrr2 := h1 (j + 1)
  have L : ∀ (n k : Nat), k + n = ns → j + 1 ≤ k → gG w m 5 Wp (gwr h (sdel (su (su S 0 0 0) 12 j (S 12 j + S 12 (j + 1))) (j + 1) k)) 0 0 [some (.ref 34), some (.int (iI x)), some (.int (iI 1)), some (.int (iI 1)), some (.int (iI (k : Int)))] [] 113 := by
    intro n
    induction n with
    | zero =>
      intro k h8 h9
      have e9 : k = ns := by omega
      subst e9
      refine g_iload C dX6_join_113 rfl ?_
      refine g_aload_n C 0 dX6_join_115 rfl rfl ?_
      refine m_fldv C hS (fX6_29 rfl) rfl (S 0 13) rfl dX6_join_116 ?_
      refine g_icmp_ge C 138 dX6_join_119 (by decide) (by omega) (by omega) (fun c119 => ?_) (fun c119 => ?_)
      · refine g_aload_n C 0 dX6_join_138 rfl rfl ?_
        refine g_dup C dX6_join_139 rfl ?_
        refine m_fldv C hS (fX6_29 rfl) rfl (S 0 13) rfl dX6_join_140 ?_
        refine g_iconst C dX6_join_143 ?_
        refine g_isub C dX6_join_144 ?_
        refine m_put C hS (fX6_29 rfl) rfl dX6_join_145 ?_
        refine g_aload_n C 0 dX6_join_148 rfl rfl ?_
        refine m_fldv C hS (fX6_29 rfl) rfl (S 0 13 - 1) rfl dX6_join_149 ?_
        exact g_iret C dX6_join_152 (Nat.le_refl _) (Nat.le_refl _) ⟨by rw [e13], by rw [e13]⟩
      · omega
    | succ n ih =>
      intro k h8 h9
      refine g_iload C dX6_join_113 rfl ?_
      refine g_aload_n C 0 dX6_join_115 rfl rfl ?_
      refine m_fldv C hS (fX6_29 rfl) rfl (S 0 13) rfl dX6_join_116 ?_
      refine g_icmp_ge C 138 dX6_join_119 (by decide) (by omega) (by omega) (fun c119 => ?_) (fun c119 => ?_)
      · omega
      · refine g_aload_n C 0 dX6_join_122 rfl rfl ?_
        refine g_iload C dX6_join_123 rfl ?_
        refine g_iload C dX6_join_125 rfl ?_
        refine g_iconst C dX6_join_127 ?_
        refine g_iadd C dX6_join_128 ?_
        refine m_call C hS [_, _] _ (kX6_111 rfl) (c6_lay hS _ k rfl (by omega) _ (k + 1) (by omega) (by omega)) rfl rfl (by decide) (Nat.le_refl _) (Nat.le_refl _) (Nat.le_of_ble_eq_true rfl) dX6_join_129 ?_
        refine s_iinc (lo' := [_, _, _, _, _]) C dX6_join_132 rfl (by decide) rfl ?_
        refine g_goto C 113 dX6_join_135 (by decide) ?_
        exact g_as (ih (k + 1) (by omega) (by omega)) (by rw [sdel_s _ h9]) rfl rfl
  show gG w m 5 Wp (gwr h S) 0 0 [some (.ref 34), some (.int (iI x)), none, none, none] [] 0
  refine g_aload_n C 0 dX6_join_0 rfl rfl ?_
  refine g_iload_n C 1 dX6_join_1 rfl rfl ?_
  refine m_call C hS [_] _ (kX6_115 rfl) (c6_isShard_t hS x hx (by omega) (by omega)) rfl rfl (by decide) (Nat.le_refl _) (Nat.le_refl _) (Nat.le_of_ble_eq_true rfl) dX6_join_2 ?_
  refine s_istore_n (lo' := [_, _, _, _, _]) C 2 dX6_join_5 rfl (by decide) rfl ?_
  refine g_iload_n C 2 dX6_join_6 rfl rfl ?_
  refine g_if_eq C 63 dX6_join_7 (by decide) (by omega) (fun c7 => ?_) (fun c7 => ?_)
  · omega
  · refine g_iload_n C 1 dX6_join_10 rfl rfl ?_
    refine g_iconst C dX6_join_11 ?_
    refine g_iadd C dX6_join_12 ?_
    refine g_aload_n C 0 dX6_join_13 rfl rfl ?_
    refine m_fld C hS (fX6_29 rfl) rfl dX6_join_14 ?_
    refine g_icmp_ge C 63 dX6_join_17 (by decide) (by omega) (by omega) (fun c17 => ?_) (fun c17 => ?_)
    · omega
    · refine g_aload_n C 0 dX6_join_20 rfl rfl ?_
      refine m_arr C hS 8 (by omega) (by omega) (fX6_36 rfl) rfl dX6_join_21 ?_
      refine g_iload_n C 1 dX6_join_24 rfl rfl ?_
      refine m_iald C hS (by omega) rfl (by omega) j (by omega) (by omega) dX6_join_25 ?_
      refine g_aload_n C 0 dX6_join_26 rfl rfl ?_
      refine m_arr C hS 8 (by omega) (by omega) (fX6_36 rfl) rfl dX6_join_27 ?_
      refine g_iload_n C 1 dX6_join_30 rfl rfl ?_
      refine g_iconst C dX6_join_31 ?_
      refine g_iadd C dX6_join_32 ?_
      refine m_iald C hS (by omega) rfl (by omega) (j + 1) (by omega) (by omega) dX6_join_33 ?_
      refine g_icmp_ne C 63 dX6_join_34 (by decide) (by omega) (by omega) (fun c34 => ?_) (fun c34 => ?_)
      · omega
      · refine g_aload_n C 0 dX6_join_37 rfl rfl ?_
        refine m_arr C hS 9 (by omega) (by omega) (fX6_39 rfl) rfl dX6_join_38 ?_
        refine g_iload_n C 1 dX6_join_41 rfl rfl ?_
        refine m_iald C hS (by omega) rfl (by omega) j (by omega) (by omega) dX6_join_42 ?_
        refine g_iconst C dX6_join_43 ?_
        refine g_icmp_ne C 63 dX6_join_44 (by decide) (by omega) (by omega) (fun c44 => ?_) (fun c44 => ?_)
        · omega
        · refine g_aload_n C 0 dX6_join_47 rfl rfl ?_
          refine m_arr C hS 9 (by omega) (by omega) (fX6_39 rfl) rfl dX6_join_48 ?_
          refine g_iload_n C 1 dX6_join_51 rfl rfl ?_
          refine g_iconst C dX6_join_52 ?_
          refine g_iadd C dX6_join_53 ?_
          refine m_iald C hS (by omega) rfl (by omega) (j + 1) (by omega) (by omega) dX6_join_54 ?_
          refine g_iconst C dX6_join_55 ?_
          refine g_icmp_ne C 63 dX6_join_56 (by decide) (by omega) (by omega) (fun c56 => ?_) (fun c56 => ?_)
          · omega
          · refine g_iconst C dX6_join_59 ?_
            refine g_goto C 64 dX6_join_60 (by decide) ?_
            refine s_istore_n (lo' := [_, _, _, _, _]) C 3 dX6_join_64 rfl (by decide) rfl ?_
            refine g_aload_n C 0 dX6_join_65 rfl rfl ?_
            refine g_iload_n C 2 dX6_join_66 rfl rfl ?_
            refine g_if_ne C 74 dX6_join_67 (by decide) (by omega) (fun c67 => ?_) (fun c67 => ?_)
            · refine g_iload_n C 3 dX6_join_74 rfl rfl ?_
              refine g_if_eq C 82 dX6_join_75 (by decide) (by omega) (fun c75 => ?_) (fun c75 => ?_)
              · omega
              · refine g_iconst C dX6_join_78 ?_
                refine g_goto C 83 dX6_join_79 (by decide) ?_
                refine m_call C hS [_] _ (kX6_75 rfl) (c6_ref0 hS) rfl rfl (by decide) (Nat.le_refl _) (Nat.le_refl _) (Nat.le_of_ble_eq_true rfl) dX6_join_83 ?_
                refine g_if_eq C 91 dX6_join_86 (by decide) (by omega) (fun c86 => ?_) (fun c86 => ?_)
                · refine g_aload_n C 0 dX6_join_91 rfl rfl ?_
                  refine m_arr C hS 12 (by omega) (by omega) (fX6_48 rfl) rfl dX6_join_92 ?_
                  refine g_iload_n C 1 dX6_join_95 rfl rfl ?_
                  refine g_dup2 C dX6_join_96 rfl rfl ?_
                  refine m_ialdv C hS (by omega) rfl (by omega) j (by omega) (by omega) (S 12 j) rfl dX6_join_97 ?_
                  refine g_aload_n C 0 dX6_join_98 rfl rfl ?_
                  refine m_arr C hS 12 (by omega) (by omega) (fX6_48 rfl) rfl dX6_join_99 ?_
                  refine g_iload_n C 1 dX6_join_102 rfl rfl ?_
                  refine g_iconst C dX6_join_103 ?_
                  refine g_iadd C dX6_join_104 ?_
                  refine m_ialdv C hS (by omega) rfl (by omega) (j + 1) (by omega) (by omega) (S 12 (j + 1)) rfl dX6_join_105 ?_
                  refine g_iadd C dX6_join_106 ?_
                  refine m_iast C hS (by omega) rfl (by omega) j (by omega) (by omega) dX6_join_107 ?_
                  refine g_iload_n C 1 dX6_join_108 rfl rfl ?_
                  refine g_iconst C dX6_join_109 ?_
                  refine g_iadd C dX6_join_110 ?_
                  refine s_istore (lo' := [_, _, _, _, _]) C dX6_join_111 (by decide) rfl ?_
                  exact g_as (L (ns - (j + 1)) (j + 1) (by omega) (Nat.le_refl _)) (by rw [sdel_0]) (by rw [he]; rfl) rfl
                · omega
            · omega

set_option maxRecDepth 100000 in
set_option maxHeartbeats 4000000 in
theorem c6_move_1 (hS : gShM h) (h1 : gW1 S) (h2 : gW2 S) (h0 : gW0 S) {nm ns : Nat} (hs : gWS S nm ns) (x : Int) (hx : (-2147483648 ≤ x ∧ x < 2147483648)) (q : Int) (hq : (-2147483648 ≤ q ∧ q < 2147483648)) (hp : ¬ (0 ≤ x ∧ x < ns)) : gMm w l yX6_move cX6_move 4 (some .int) 2 [.ref 34, .int (iI x), .int (iI q)] h S (some (.int (iI (0)))) (su S 0 0 1) := by
  refine gMm_start (by decide +kernel) (by simp [Value.category]) (Nat.le_of_ble_eq_true rfl) (fun m Wp C => ?_)
  have e02 := hs.1
  have hnm := hs.2.1
  have e13 := hs.2.2.1
  have hns1 := hs.2.2.2.1
  have hns2 := hs.2.2.2.2.1
  obtain ⟨hw1, hw7, hw8⟩ := h0
  show gG w m 4 Wp (gwr h S) 0 0 [some (.ref 34), some (.int (iI x)), some (.int (iI q)), none] [] 0
  refine g_aload_n C 0 dX6_move_0 rfl rfl ?_
  refine g_iload_n C 1 dX6_move_1 rfl rfl ?_
  refine m_call C hS [_] _ (kX6_115 rfl) (c6_isShard_f hS x hx (by omega) (by omega)) rfl rfl (by decide) (Nat.le_refl _) (Nat.le_refl _) (Nat.le_of_ble_eq_true rfl) dX6_move_2 ?_
  refine g_if_eq C 20 dX6_move_5 (by decide) (by omega) (fun c5 => ?_) (fun c5 => ?_)
  · refine g_iconst C dX6_move_20 ?_
    refine s_istore_n (lo' := [_, _, _, _]) C 3 dX6_move_21 rfl (by decide) rfl ?_
    refine g_aload_n C 0 dX6_move_22 rfl rfl ?_
    refine g_iload_n C 3 dX6_move_23 rfl rfl ?_
    refine g_if_ne C 31 dX6_move_24 (by decide) (by omega) (fun c24 => ?_) (fun c24 => ?_)
    · omega
    · refine g_iconst C dX6_move_27 ?_
      refine g_goto C 79 dX6_move_28 (by decide) ?_
      refine m_call C hS [_] _ (kX6_75 rfl) (c6_refN hS 1 (by omega) (by omega)) rfl rfl (by decide) (Nat.le_refl _) (Nat.le_refl _) (Nat.le_of_ble_eq_true rfl) dX6_move_79 ?_
      refine g_if_eq C 87 dX6_move_82 (by decide) (by omega) (fun c82 => ?_) (fun c82 => ?_)
      · omega
      · refine g_iconst C dX6_move_85 ?_
        exact g_iret C dX6_move_86 (Nat.le_refl _) (Nat.le_refl _) ⟨rfl, rfl⟩
  · omega

set_option maxRecDepth 100000 in
set_option maxHeartbeats 4000000 in
theorem c6_move_1b (hS : gShM h) (h1 : gW1 S) (h2 : gW2 S) (h0 : gW0 S) {nm ns : Nat} (hs : gWS S nm ns) (x : Int) (hx : (-2147483648 ≤ x ∧ x < 2147483648)) (q : Int) (hq : (-2147483648 ≤ q ∧ q < 2147483648)) (hp : 0 ≤ x ∧ x < ns) (hp2 : ¬ (0 ≤ q ∧ q < nm)) : gMm w l yX6_move cX6_move 4 (some .int) 2 [.ref 34, .int (iI x), .int (iI q)] h S (some (.int (iI (0)))) (su S 0 0 1) := by
  refine gMm_start (by decide +kernel) (by simp [Value.category]) (Nat.le_of_ble_eq_true rfl) (fun m Wp C => ?_)
  have e02 := hs.1
  have hnm := hs.2.1
  have e13 := hs.2.2.1
  have hns1 := hs.2.2.2.1
  have hns2 := hs.2.2.2.2.1
  obtain ⟨hw1, hw7, hw8⟩ := h0
  show gG w m 4 Wp (gwr h S) 0 0 [some (.ref 34), some (.int (iI x)), some (.int (iI q)), none] [] 0
  refine g_aload_n C 0 dX6_move_0 rfl rfl ?_
  refine g_iload_n C 1 dX6_move_1 rfl rfl ?_
  refine m_call C hS [_] _ (kX6_115 rfl) (c6_isShard_t hS x hx (by omega) (by omega)) rfl rfl (by decide) (Nat.le_refl _) (Nat.le_refl _) (Nat.le_of_ble_eq_true rfl) dX6_move_2 ?_
  refine g_if_eq C 20 dX6_move_5 (by decide) (by omega) (fun c5 => ?_) (fun c5 => ?_)
  · omega
  · refine g_aload_n C 0 dX6_move_8 rfl rfl ?_
    refine g_iload_n C 2 dX6_move_9 rfl rfl ?_
    refine m_call C hS [_] _ (kX6_79 rfl) (c6_isMachine_f hS q hq (by omega) (by omega)) rfl rfl (by decide) (Nat.le_refl _) (Nat.le_refl _) (Nat.le_of_ble_eq_true rfl) dX6_move_10 ?_
    refine g_if_eq C 20 dX6_move_13 (by decide) (by omega) (fun c13 => ?_) (fun c13 => ?_)
    · refine g_iconst C dX6_move_20 ?_
      refine s_istore_n (lo' := [_, _, _, _]) C 3 dX6_move_21 rfl (by decide) rfl ?_
      refine g_aload_n C 0 dX6_move_22 rfl rfl ?_
      refine g_iload_n C 3 dX6_move_23 rfl rfl ?_
      refine g_if_ne C 31 dX6_move_24 (by decide) (by omega) (fun c24 => ?_) (fun c24 => ?_)
      · omega
      · refine g_iconst C dX6_move_27 ?_
        refine g_goto C 79 dX6_move_28 (by decide) ?_
        refine m_call C hS [_] _ (kX6_75 rfl) (c6_refN hS 1 (by omega) (by omega)) rfl rfl (by decide) (Nat.le_refl _) (Nat.le_refl _) (Nat.le_of_ble_eq_true rfl) dX6_move_79 ?_
        refine g_if_eq C 87 dX6_move_82 (by decide) (by omega) (fun c82 => ?_) (fun c82 => ?_)
        · omega
        · refine g_iconst C dX6_move_85 ?_
          exact g_iret C dX6_move_86 (Nat.le_refl _) (Nat.le_refl _) ⟨rfl, rfl⟩
    · omega

set_option maxRecDepth 100000 in
set_option maxHeartbeats 4000000 in
theorem c6_move_2 (hS : gShM h) (h1 : gW1 S) (h2 : gW2 S) (h0 : gW0 S) {nm ns : Nat} (hs : gWS S nm ns) (x : Int) (hx : (-2147483648 ≤ x ∧ x < 2147483648)) (q : Int) (hq : (-2147483648 ≤ q ∧ q < 2147483648)) (j : Nat) (he : x = (j : Int)) (hj : j < ns) (mi : Nat) (heq : q = (mi : Int)) (hmi : mi < nm) (hp : S 8 j = q ∨ S 9 j ≠ -1 ∨ S 2 mi = 1 ∨ S 2 (S 8 j).toNat = 1) : gMm w l yX6_move cX6_move 4 (some .int) 2 [.ref 34, .int (iI x), .int (iI q)] h S (some (.int (iI (0)))) (su S 0 0 2) := by
  refine gMm_start (by decide +kernel) (by simp [Value.category]) (Nat.le_of_ble_eq_true rfl) (fun m Wp C => ?_)
  have e02 := hs.1
  have hnm := hs.2.1
  have e13 := hs.2.2.1
  have hns1 := hs.2.2.2.1
  have hns2 := hs.2.2.2.2.1
  obtain ⟨hw1, hw7, hw8⟩ := h0
  have hr := hs.2.2.2.2.2.2.2.2 j hj
  have hrr := h1 j
  have hd1 := (h2 mi).2.1
  have hd2 := (h2 (S 8 j).toNat).2.1
  show gG w m 4 Wp (gwr h S) 0 0 [some (.ref 34), some (.int (iI x)), some (.int (iI q)), none] [] 0
  refine g_aload_n C 0 dX6_move_0 rfl rfl ?_
  refine g_iload_n C 1 dX6_move_1 rfl rfl ?_
  refine m_call C hS [_] _ (kX6_115 rfl) (c6_isShard_t hS x hx (by omega) (by omega)) rfl rfl (by decide) (Nat.le_refl _) (Nat.le_refl _) (Nat.le_of_ble_eq_true rfl) dX6_move_2 ?_
  refine g_if_eq C 20 dX6_move_5 (by decide) (by omega) (fun c5 => ?_) (fun c5 => ?_)
  · omega
  · refine g_aload_n C 0 dX6_move_8 rfl rfl ?_
    refine g_iload_n C 2 dX6_move_9 rfl rfl ?_
    refine m_call C hS [_] _ (kX6_79 rfl) (c6_isMachine_t hS q hq (by omega) (by omega)) rfl rfl (by decide) (Nat.le_refl _) (Nat.le_refl _) (Nat.le_of_ble_eq_true rfl) dX6_move_10 ?_
    refine g_if_eq C 20 dX6_move_13 (by decide) (by omega) (fun c13 => ?_) (fun c13 => ?_)
    · omega
    · refine g_iconst C dX6_move_16 ?_
      refine g_goto C 21 dX6_move_17 (by decide) ?_
      refine s_istore_n (lo' := [_, _, _, _]) C 3 dX6_move_21 rfl (by decide) rfl ?_
      refine g_aload_n C 0 dX6_move_22 rfl rfl ?_
      refine g_iload_n C 3 dX6_move_23 rfl rfl ?_
      refine g_if_ne C 31 dX6_move_24 (by decide) (by omega) (fun c24 => ?_) (fun c24 => ?_)
      · refine g_aload_n C 0 dX6_move_31 rfl rfl ?_
        refine m_arr C hS 8 (by omega) (by omega) (fX6_36 rfl) rfl dX6_move_32 ?_
        refine g_iload_n C 1 dX6_move_35 rfl rfl ?_
        refine m_iald C hS (by omega) rfl (by omega) j (by omega) (by omega) dX6_move_36 ?_
        refine g_iload_n C 2 dX6_move_37 rfl rfl ?_
        refine g_icmp_eq C 74 dX6_move_38 (by decide) (by omega) (by omega) (fun c38 => ?_) (fun c38 => ?_)
        · refine g_iconst C dX6_move_74 ?_
          refine g_goto C 79 dX6_move_75 (by decide) ?_
          refine m_call C hS [_] _ (kX6_75 rfl) (c6_refN hS 2 (by omega) (by omega)) rfl rfl (by decide) (Nat.le_refl _) (Nat.le_refl _) (Nat.le_of_ble_eq_true rfl) dX6_move_79 ?_
          refine g_if_eq C 87 dX6_move_82 (by decide) (by omega) (fun c82 => ?_) (fun c82 => ?_)
          · omega
          · refine g_iconst C dX6_move_85 ?_
            exact g_iret C dX6_move_86 (Nat.le_refl _) (Nat.le_refl _) ⟨rfl, rfl⟩
        · refine g_aload_n C 0 dX6_move_41 rfl rfl ?_
          refine m_arr C hS 9 (by omega) (by omega) (fX6_39 rfl) rfl dX6_move_42 ?_
          refine g_iload_n C 1 dX6_move_45 rfl rfl ?_
          refine m_iald C hS (by omega) rfl (by omega) j (by omega) (by omega) dX6_move_46 ?_
          refine g_iconst C dX6_move_47 ?_
          refine g_icmp_ne C 74 dX6_move_48 (by decide) (by omega) (by omega) (fun c48 => ?_) (fun c48 => ?_)
          · refine g_iconst C dX6_move_74 ?_
            refine g_goto C 79 dX6_move_75 (by decide) ?_
            refine m_call C hS [_] _ (kX6_75 rfl) (c6_refN hS 2 (by omega) (by omega)) rfl rfl (by decide) (Nat.le_refl _) (Nat.le_refl _) (Nat.le_of_ble_eq_true rfl) dX6_move_79 ?_
            refine g_if_eq C 87 dX6_move_82 (by decide) (by omega) (fun c82 => ?_) (fun c82 => ?_)
            · omega
            · refine g_iconst C dX6_move_85 ?_
              exact g_iret C dX6_move_86 (Nat.le_refl _) (Nat.le_refl _) ⟨rfl, rfl⟩
          · refine g_aload_n C 0 dX6_move_51 rfl rfl ?_
            refine m_arr C hS 2 (by omega) (by omega) (fX6_13 rfl) rfl dX6_move_52 ?_
            refine g_iload_n C 2 dX6_move_55 rfl rfl ?_
            refine m_bald C hS mi (by omega) (by omega) dX6_move_56 ?_
            refine g_if_ne C 74 dX6_move_57 (by decide) (by omega) (fun c57 => ?_) (fun c57 => ?_)
            · refine g_iconst C dX6_move_74 ?_
              refine g_goto C 79 dX6_move_75 (by decide) ?_
              refine m_call C hS [_] _ (kX6_75 rfl) (c6_refN hS 2 (by omega) (by omega)) rfl rfl (by decide) (Nat.le_refl _) (Nat.le_refl _) (Nat.le_of_ble_eq_true rfl) dX6_move_79 ?_
              refine g_if_eq C 87 dX6_move_82 (by decide) (by omega) (fun c82 => ?_) (fun c82 => ?_)
              · omega
              · refine g_iconst C dX6_move_85 ?_
                exact g_iret C dX6_move_86 (Nat.le_refl _) (Nat.le_refl _) ⟨rfl, rfl⟩
            · refine g_aload_n C 0 dX6_move_60 rfl rfl ?_
              refine m_arr C hS 2 (by omega) (by omega) (fX6_13 rfl) rfl dX6_move_61 ?_
              refine g_aload_n C 0 dX6_move_64 rfl rfl ?_
              refine m_arr C hS 8 (by omega) (by omega) (fX6_36 rfl) rfl dX6_move_65 ?_
              refine g_iload_n C 1 dX6_move_68 rfl rfl ?_
              refine m_iald C hS (by omega) rfl (by omega) j (by omega) (by omega) dX6_move_69 ?_
              refine m_bald C hS (S 8 j).toNat (by omega) (by omega) dX6_move_70 ?_
              refine g_if_eq C 78 dX6_move_71 (by decide) (by omega) (fun c71 => ?_) (fun c71 => ?_)
              · omega
              · refine g_iconst C dX6_move_74 ?_
                refine g_goto C 79 dX6_move_75 (by decide) ?_
                refine m_call C hS [_] _ (kX6_75 rfl) (c6_refN hS 2 (by omega) (by omega)) rfl rfl (by decide) (Nat.le_refl _) (Nat.le_refl _) (Nat.le_of_ble_eq_true rfl) dX6_move_79 ?_
                refine g_if_eq C 87 dX6_move_82 (by decide) (by omega) (fun c82 => ?_) (fun c82 => ?_)
                · omega
                · refine g_iconst C dX6_move_85 ?_
                  exact g_iret C dX6_move_86 (Nat.le_refl _) (Nat.le_refl _) ⟨rfl, rfl⟩
      · omega

theorem gW1_beg {S : gS} (h1 : gW1 S) (j : Nat) (q : Int) (hq : -1 ≤ q ∧ q ≤ 5) : gW1 (su (su (su (su S 0 0 0) 9 j q) 10 j (S 7 j)) 11 j 0) := by
  intro i
  have h := h1 i
  have h' := h1 j
  show (0 ≤ S 7 i ∧ _) ∧ (-1 ≤ S 8 i ∧ _) ∧ (-1 ≤ va_up (S 9) j q i ∧ va_up (S 9) j q i ≤ 5) ∧ (0 ≤ va_up (S 10) j (S 7 j) i ∧ va_up (S 10) j (S 7 j) i ≤ 1000)
  unfold va_up
  refine ⟨h.1, h.2.1, ?_, ?_⟩ <;> split <;> omega

set_option maxRecDepth 100000 in
set_option maxHeartbeats 4000000 in
theorem c6_move_3 (hS : gShM h) (h1 : gW1 S) (h2 : gW2 S) (h0 : gW0 S) {nm ns : Nat} (hs : gWS S nm ns) (x : Int) (hx : (-2147483648 ≤ x ∧ x < 2147483648)) (q : Int) (hq : (-2147483648 ≤ q ∧ q < 2147483648)) (j : Nat) (he : x = (j : Int)) (hj : j < ns) (mi : Nat) (heq : q = (mi : Int)) (hmi : mi < nm) (hp : S 8 j ≠ q) (hp2 : S 9 j = -1) (hp3 : S 2 mi = 0) (hp4 : S 2 (S 8 j).toNat = 0) : gMm w l yX6_move cX6_move 4 (some .int) 2 [.ref 34, .int (iI x), .int (iI q)] h S (some (.int (iI (gsize S j)))) (su (su (su (su S 0 0 0) 9 j q) 10 j (S 7 j)) 11 j 0) := by
  refine gMm_start (by decide +kernel) (by simp [Value.category]) (Nat.le_of_ble_eq_true rfl) (fun m Wp C => ?_)
  have e02 := hs.1
  have hnm := hs.2.1
  have e13 := hs.2.2.1
  have hns1 := hs.2.2.2.1
  have hns2 := hs.2.2.2.2.1
  obtain ⟨hw1, hw7, hw8⟩ := h0
  have hr := hs.2.2.2.2.2.2.2.2 j hj
  have hrr := h1 j
  have hd1 := (h2 mi).2.1
  have hd2 := (h2 (S 8 j).toNat).2.1
  show gG w m 4 Wp (gwr h S) 0 0 [some (.ref 34), some (.int (iI x)), some (.int (iI q)), none] [] 0
  refine g_aload_n C 0 dX6_move_0 rfl rfl ?_
  refine g_iload_n C 1 dX6_move_1 rfl rfl ?_
  refine m_call C hS [_] _ (kX6_115 rfl) (c6_isShard_t hS x hx (by omega) (by omega)) rfl rfl (by decide) (Nat.le_refl _) (Nat.le_refl _) (Nat.le_of_ble_eq_true rfl) dX6_move_2 ?_
  refine g_if_eq C 20 dX6_move_5 (by decide) (by omega) (fun c5 => ?_) (fun c5 => ?_)
  · omega
  · refine g_aload_n C 0 dX6_move_8 rfl rfl ?_
    refine g_iload_n C 2 dX6_move_9 rfl rfl ?_
    refine m_call C hS [_] _ (kX6_79 rfl) (c6_isMachine_t hS q hq (by omega) (by omega)) rfl rfl (by decide) (Nat.le_refl _) (Nat.le_refl _) (Nat.le_of_ble_eq_true rfl) dX6_move_10 ?_
    refine g_if_eq C 20 dX6_move_13 (by decide) (by omega) (fun c13 => ?_) (fun c13 => ?_)
    · omega
    · refine g_iconst C dX6_move_16 ?_
      refine g_goto C 21 dX6_move_17 (by decide) ?_
      refine s_istore_n (lo' := [_, _, _, _]) C 3 dX6_move_21 rfl (by decide) rfl ?_
      refine g_aload_n C 0 dX6_move_22 rfl rfl ?_
      refine g_iload_n C 3 dX6_move_23 rfl rfl ?_
      refine g_if_ne C 31 dX6_move_24 (by decide) (by omega) (fun c24 => ?_) (fun c24 => ?_)
      · refine g_aload_n C 0 dX6_move_31 rfl rfl ?_
        refine m_arr C hS 8 (by omega) (by omega) (fX6_36 rfl) rfl dX6_move_32 ?_
        refine g_iload_n C 1 dX6_move_35 rfl rfl ?_
        refine m_iald C hS (by omega) rfl (by omega) j (by omega) (by omega) dX6_move_36 ?_
        refine g_iload_n C 2 dX6_move_37 rfl rfl ?_
        refine g_icmp_eq C 74 dX6_move_38 (by decide) (by omega) (by omega) (fun c38 => ?_) (fun c38 => ?_)
        · omega
        · refine g_aload_n C 0 dX6_move_41 rfl rfl ?_
          refine m_arr C hS 9 (by omega) (by omega) (fX6_39 rfl) rfl dX6_move_42 ?_
          refine g_iload_n C 1 dX6_move_45 rfl rfl ?_
          refine m_iald C hS (by omega) rfl (by omega) j (by omega) (by omega) dX6_move_46 ?_
          refine g_iconst C dX6_move_47 ?_
          refine g_icmp_ne C 74 dX6_move_48 (by decide) (by omega) (by omega) (fun c48 => ?_) (fun c48 => ?_)
          · omega
          · refine g_aload_n C 0 dX6_move_51 rfl rfl ?_
            refine m_arr C hS 2 (by omega) (by omega) (fX6_13 rfl) rfl dX6_move_52 ?_
            refine g_iload_n C 2 dX6_move_55 rfl rfl ?_
            refine m_bald C hS mi (by omega) (by omega) dX6_move_56 ?_
            refine g_if_ne C 74 dX6_move_57 (by decide) (by omega) (fun c57 => ?_) (fun c57 => ?_)
            · omega
            · refine g_aload_n C 0 dX6_move_60 rfl rfl ?_
              refine m_arr C hS 2 (by omega) (by omega) (fX6_13 rfl) rfl dX6_move_61 ?_
              refine g_aload_n C 0 dX6_move_64 rfl rfl ?_
              refine m_arr C hS 8 (by omega) (by omega) (fX6_36 rfl) rfl dX6_move_65 ?_
              refine g_iload_n C 1 dX6_move_68 rfl rfl ?_
              refine m_iald C hS (by omega) rfl (by omega) j (by omega) (by omega) dX6_move_69 ?_
              refine m_bald C hS (S 8 j).toNat (by omega) (by omega) dX6_move_70 ?_
              refine g_if_eq C 78 dX6_move_71 (by decide) (by omega) (fun c71 => ?_) (fun c71 => ?_)
              · refine g_iconst C dX6_move_78 ?_
                refine m_call C hS [_] _ (kX6_75 rfl) (c6_ref0 hS) rfl rfl (by decide) (Nat.le_refl _) (Nat.le_refl _) (Nat.le_of_ble_eq_true rfl) dX6_move_79 ?_
                refine g_if_eq C 87 dX6_move_82 (by decide) (by omega) (fun c82 => ?_) (fun c82 => ?_)
                · refine g_aload_n C 0 dX6_move_87 rfl rfl ?_
                  refine g_iload_n C 1 dX6_move_88 rfl rfl ?_
                  refine g_iload_n C 2 dX6_move_89 rfl rfl ?_
                  refine m_call C hS [_, _] _ (kX6_118 rfl) (c6_begins hS q x j he (by omega)) rfl rfl (by decide) (Nat.le_refl _) (Nat.le_refl _) (Nat.le_of_ble_eq_true rfl) dX6_move_90 ?_
                  refine g_aload_n C 0 dX6_move_93 rfl rfl ?_
                  refine g_iload_n C 1 dX6_move_94 rfl rfl ?_
                  refine m_call C hS [_] _ (kX6_65 rfl) (c6_sizeOf (S := su (su (su (su S 0 0 0) 9 j q) 10 j (S 7 j)) 11 j 0) hS (gW1_beg h1 j q (by omega)) x j he (by omega)) rfl rfl (by decide) (Nat.le_refl _) (Nat.le_refl _) (Nat.le_of_ble_eq_true rfl) dX6_move_95 ?_
                  exact g_iret C dX6_move_98 (Nat.le_refl _) (Nat.le_refl _) ⟨rfl, rfl⟩
                · omega
              · omega
      · omega

set_option maxRecDepth 100000 in
set_option maxHeartbeats 4000000 in
theorem c6_callOff_1 (hS : gShM h) (h1 : gW1 S) (h2 : gW2 S) (h0 : gW0 S) {nm ns : Nat} (hs : gWS S nm ns) (x : Int) (hx : (-2147483648 ≤ x ∧ x < 2147483648)) (hp : ¬ (0 ≤ x ∧ x < ns)) : gMm w l yX6_callOff cX6_callOff 4 (some .int) 2 [.ref 34, .int (iI x)] h S (some (.int (iI (0)))) (su S 0 0 1) := by
  refine gMm_start (by decide +kernel) (by simp [Value.category]) (Nat.le_of_ble_eq_true rfl) (fun m Wp C => ?_)
  have e02 := hs.1
  have hnm := hs.2.1
  have e13 := hs.2.2.1
  have hns1 := hs.2.2.2.1
  have hns2 := hs.2.2.2.2.1
  obtain ⟨hw1, hw7, hw8⟩ := h0
  show gG w m 4 Wp (gwr h S) 0 0 [some (.ref 34), some (.int (iI x)), none, none] [] 0
  refine g_aload_n C 0 dX6_callOff_0 rfl rfl ?_
  refine g_iload_n C 1 dX6_callOff_1 rfl rfl ?_
  refine m_call C hS [_] _ (kX6_115 rfl) (c6_isShard_f hS x hx (by omega) (by omega)) rfl rfl (by decide) (Nat.le_refl _) (Nat.le_refl _) (Nat.le_of_ble_eq_true rfl) dX6_callOff_2 ?_
  refine s_istore_n (lo' := [_, _, _, _]) C 2 dX6_callOff_5 rfl (by decide) rfl ?_
  refine g_aload_n C 0 dX6_callOff_6 rfl rfl ?_
  refine g_iload_n C 2 dX6_callOff_7 rfl rfl ?_
  refine g_if_ne C 15 dX6_callOff_8 (by decide) (by omega) (fun c8 => ?_) (fun c8 => ?_)
  · omega
  · refine g_iconst C dX6_callOff_11 ?_
    refine g_goto C 30 dX6_callOff_12 (by decide) ?_
    refine m_call C hS [_] _ (kX6_75 rfl) (c6_refN hS 1 (by omega) (by omega)) rfl rfl (by decide) (Nat.le_refl _) (Nat.le_refl _) (Nat.le_of_ble_eq_true rfl) dX6_callOff_30 ?_
    refine g_if_eq C 38 dX6_callOff_33 (by decide) (by omega) (fun c33 => ?_) (fun c33 => ?_)
    · omega
    · refine g_iconst C dX6_callOff_36 ?_
      exact g_iret C dX6_callOff_37 (Nat.le_refl _) (Nat.le_refl _) ⟨rfl, rfl⟩

set_option maxRecDepth 100000 in
set_option maxHeartbeats 4000000 in
theorem c6_callOff_2 (hS : gShM h) (h1 : gW1 S) (h2 : gW2 S) (h0 : gW0 S) {nm ns : Nat} (hs : gWS S nm ns) (x : Int) (hx : (-2147483648 ≤ x ∧ x < 2147483648)) (j : Nat) (he : x = (j : Int)) (hj : j < ns) (hp : S 9 j = -1) : gMm w l yX6_callOff cX6_callOff 4 (some .int) 2 [.ref 34, .int (iI x)] h S (some (.int (iI (0)))) (su S 0 0 2) := by
  refine gMm_start (by decide +kernel) (by simp [Value.category]) (Nat.le_of_ble_eq_true rfl) (fun m Wp C => ?_)
  have e02 := hs.1
  have hnm := hs.2.1
  have e13 := hs.2.2.1
  have hns1 := hs.2.2.2.1
  have hns2 := hs.2.2.2.2.1
  obtain ⟨hw1, hw7, hw8⟩ := h0
  have hr := hs.2.2.2.2.2.2.2.2 j hj
  have hrr := h1 j
  show gG w m 4 Wp (gwr h S) 0 0 [some (.ref 34), some (.int (iI x)), none, none] [] 0
  refine g_aload_n C 0 dX6_callOff_0 rfl rfl ?_
  refine g_iload_n C 1 dX6_callOff_1 rfl rfl ?_
  refine m_call C hS [_] _ (kX6_115 rfl) (c6_isShard_t hS x hx (by omega) (by omega)) rfl rfl (by decide) (Nat.le_refl _) (Nat.le_refl _) (Nat.le_of_ble_eq_true rfl) dX6_callOff_2 ?_
  refine s_istore_n (lo' := [_, _, _, _]) C 2 dX6_callOff_5 rfl (by decide) rfl ?_
  refine g_aload_n C 0 dX6_callOff_6 rfl rfl ?_
  refine g_iload_n C 2 dX6_callOff_7 rfl rfl ?_
  refine g_if_ne C 15 dX6_callOff_8 (by decide) (by omega) (fun c8 => ?_) (fun c8 => ?_)
  · refine g_aload_n C 0 dX6_callOff_15 rfl rfl ?_
    refine m_arr C hS 9 (by omega) (by omega) (fX6_39 rfl) rfl dX6_callOff_16 ?_
    refine g_iload_n C 1 dX6_callOff_19 rfl rfl ?_
    refine m_iald C hS (by omega) rfl (by omega) j (by omega) (by omega) dX6_callOff_20 ?_
    refine g_iconst C dX6_callOff_21 ?_
    refine g_icmp_ne C 29 dX6_callOff_22 (by decide) (by omega) (by omega) (fun c22 => ?_) (fun c22 => ?_)
    · omega
    · refine g_iconst C dX6_callOff_25 ?_
      refine g_goto C 30 dX6_callOff_26 (by decide) ?_
      refine m_call C hS [_] _ (kX6_75 rfl) (c6_refN hS 2 (by omega) (by omega)) rfl rfl (by decide) (Nat.le_refl _) (Nat.le_refl _) (Nat.le_of_ble_eq_true rfl) dX6_callOff_30 ?_
      refine g_if_eq C 38 dX6_callOff_33 (by decide) (by omega) (fun c33 => ?_) (fun c33 => ?_)
      · omega
      · refine g_iconst C dX6_callOff_36 ?_
        exact g_iret C dX6_callOff_37 (Nat.le_refl _) (Nat.le_refl _) ⟨rfl, rfl⟩
  · omega

set_option maxRecDepth 100000 in
set_option maxHeartbeats 4000000 in
theorem c6_callOff_3 (hS : gShM h) (h1 : gW1 S) (h2 : gW2 S) (h0 : gW0 S) {nm ns : Nat} (hs : gWS S nm ns) (x : Int) (hx : (-2147483648 ≤ x ∧ x < 2147483648)) (j : Nat) (he : x = (j : Int)) (hj : j < ns) (hp : S 9 j ≠ -1) : gMm w l yX6_callOff cX6_callOff 4 (some .int) 2 [.ref 34, .int (iI x)] h S (some (.int (iI (gcop S j)))) (su (su (su S 0 0 0) 9 j (-1)) 0 10 (S 0 10 + 1)) := by
  refine gMm_start (by decide +kernel) (by simp [Value.category]) (Nat.le_of_ble_eq_true rfl) (fun m Wp C => ?_)
  have e02 := hs.1
  have hnm := hs.2.1
  have e13 := hs.2.2.1
  have hns1 := hs.2.2.2.1
  have hns2 := hs.2.2.2.2.1
  obtain ⟨hw1, hw7, hw8⟩ := h0
  have hr := hs.2.2.2.2.2.2.2.2 j hj
  have hrr := h1 j
  show gG w m 4 Wp (gwr h S) 0 0 [some (.ref 34), some (.int (iI x)), none, none] [] 0
  refine g_aload_n C 0 dX6_callOff_0 rfl rfl ?_
  refine g_iload_n C 1 dX6_callOff_1 rfl rfl ?_
  refine m_call C hS [_] _ (kX6_115 rfl) (c6_isShard_t hS x hx (by omega) (by omega)) rfl rfl (by decide) (Nat.le_refl _) (Nat.le_refl _) (Nat.le_of_ble_eq_true rfl) dX6_callOff_2 ?_
  refine s_istore_n (lo' := [_, _, _, _]) C 2 dX6_callOff_5 rfl (by decide) rfl ?_
  refine g_aload_n C 0 dX6_callOff_6 rfl rfl ?_
  refine g_iload_n C 2 dX6_callOff_7 rfl rfl ?_
  refine g_if_ne C 15 dX6_callOff_8 (by decide) (by omega) (fun c8 => ?_) (fun c8 => ?_)
  · refine g_aload_n C 0 dX6_callOff_15 rfl rfl ?_
    refine m_arr C hS 9 (by omega) (by omega) (fX6_39 rfl) rfl dX6_callOff_16 ?_
    refine g_iload_n C 1 dX6_callOff_19 rfl rfl ?_
    refine m_iald C hS (by omega) rfl (by omega) j (by omega) (by omega) dX6_callOff_20 ?_
    refine g_iconst C dX6_callOff_21 ?_
    refine g_icmp_ne C 29 dX6_callOff_22 (by decide) (by omega) (by omega) (fun c22 => ?_) (fun c22 => ?_)
    · refine g_iconst C dX6_callOff_29 ?_
      refine m_call C hS [_] _ (kX6_75 rfl) (c6_ref0 hS) rfl rfl (by decide) (Nat.le_refl _) (Nat.le_refl _) (Nat.le_of_ble_eq_true rfl) dX6_callOff_30 ?_
      refine g_if_eq C 38 dX6_callOff_33 (by decide) (by omega) (fun c33 => ?_) (fun c33 => ?_)
      · refine g_aload_n C 0 dX6_callOff_38 rfl rfl ?_
        refine g_iload_n C 1 dX6_callOff_39 rfl rfl ?_
        refine m_call C hS [_] _ (kX6_69 rfl) (c6_copied (S := su S 0 0 0) hS h1 x j he (by omega)) rfl rfl (by decide) (Nat.le_refl _) (Nat.le_refl _) (Nat.le_of_ble_eq_true rfl) dX6_callOff_40 ?_
        refine s_istore_n (lo' := [_, _, _, _]) C 3 dX6_callOff_43 rfl (by decide) rfl ?_
        refine g_aload_n C 0 dX6_callOff_44 rfl rfl ?_
        refine g_iload_n C 1 dX6_callOff_45 rfl rfl ?_
        refine m_call C hS [_] _ (kX6_82 rfl) (c6_rollBack hS x j he (by omega)) rfl rfl (by decide) (Nat.le_refl _) (Nat.le_refl _) (Nat.le_of_ble_eq_true rfl) dX6_callOff_46 ?_
        refine g_iload_n C 3 dX6_callOff_49 rfl rfl ?_
        exact g_iret C dX6_callOff_50 (Nat.le_refl _) (Nat.le_refl _) ⟨rfl, rfl⟩
      · omega
    · omega
  · omega

set_option maxRecDepth 100000 in
set_option maxHeartbeats 4000000 in
theorem c6_shardOf_1 (hS : gShM h) (h1 : gW1 S) (h2 : gW2 S) (h0 : gW0 S) {nm ns : Nat} (hs : gWS S nm ns) (key : Int) (hkey : (-2147483648 ≤ key ∧ key < 2147483648)) (hp : ¬ (0 ≤ key ∧ key ≤ 999)) : gMm w l yX6_shardOf cX6_shardOf 2 (some .int) 2 [.ref 34, .int (iI key)] h S (some (.int (iI (0)))) (su S 0 0 1) := by
  refine gMm_start (by decide +kernel) (by simp [Value.category]) (Nat.le_of_ble_eq_true rfl) (fun m Wp C => ?_)
  have e02 := hs.1
  have hnm := hs.2.1
  have e13 := hs.2.2.1
  have hns1 := hs.2.2.2.1
  have hns2 := hs.2.2.2.2.1
  obtain ⟨hw1, hw7, hw8⟩ := h0
  show gG w m 2 Wp (gwr h S) 0 0 [some (.ref 34), some (.int (iI key))] [] 0
  refine g_aload_n C 0 dX6_shardOf_0 rfl rfl ?_
  refine g_iload_n C 1 dX6_shardOf_1 rfl rfl ?_
  refine m_callS C [_] _ (kX6_92 rfl) rfl (c6_isKey_f key hkey (by omega)) rfl rfl (by decide) (Nat.le_refl _) (Nat.le_refl _) (Nat.le_of_ble_eq_true rfl) dX6_shardOf_2 ?_
  refine g_if_eq C 12 dX6_shardOf_5 (by decide) (by omega) (fun c5 => ?_) (fun c5 => ?_)
  · refine g_iconst C dX6_shardOf_12 ?_
    refine m_call C hS [_] _ (kX6_75 rfl) (c6_refN hS 1 (by omega) (by omega)) rfl rfl (by decide) (Nat.le_refl _) (Nat.le_refl _) (Nat.le_of_ble_eq_true rfl) dX6_shardOf_13 ?_
    refine g_if_eq C 23 dX6_shardOf_16 (by decide) (by omega) (fun c16 => ?_) (fun c16 => ?_)
    · omega
    · refine g_iconst C dX6_shardOf_19 ?_
      refine g_goto C 28 dX6_shardOf_20 (by decide) ?_
      exact g_iret C dX6_shardOf_28 (Nat.le_refl _) (Nat.le_refl _) ⟨rfl, rfl⟩
  · omega

set_option maxRecDepth 100000 in
set_option maxHeartbeats 4000000 in
theorem c6_shardOf_2 (hS : gShM h) (h1 : gW1 S) (h2 : gW2 S) (h0 : gW0 S) {nm ns : Nat} (hs : gWS S nm ns) (key : Int) (hkey : (-2147483648 ≤ key ∧ key < 2147483648)) (j : Nat) (hj : j < ns) (hk0 : 0 ≤ key ∧ key ≤ 999) (hk1 : S 7 j ≤ key) (hk2 : key < S 7 (j + 1)) : gMm w l yX6_shardOf cX6_shardOf 2 (some .int) 2 [.ref 34, .int (iI key)] h S (some (.int (iI ((j : Int))))) (su S 0 0 0) := by
  refine gMm_start (by decide +kernel) (by simp [Value.category]) (Nat.le_of_ble_eq_true rfl) (fun m Wp C => ?_)
  have e02 := hs.1
  have hnm := hs.2.1
  have e13 := hs.2.2.1
  have hns1 := hs.2.2.2.1
  have hns2 := hs.2.2.2.2.1
  obtain ⟨hw1, hw7, hw8⟩ := h0
  have hr := hs.2.2.2.2.2.2.2.2 j hj
  have hrr := h1 j
  show gG w m 2 Wp (gwr h S) 0 0 [some (.ref 34), some (.int (iI key))] [] 0
  refine g_aload_n C 0 dX6_shardOf_0 rfl rfl ?_
  refine g_iload_n C 1 dX6_shardOf_1 rfl rfl ?_
  refine m_callS C [_] _ (kX6_92 rfl) rfl (c6_isKey_t key hkey (by omega)) rfl rfl (by decide) (Nat.le_refl _) (Nat.le_refl _) (Nat.le_of_ble_eq_true rfl) dX6_shardOf_2 ?_
  refine g_if_eq C 12 dX6_shardOf_5 (by decide) (by omega) (fun c5 => ?_) (fun c5 => ?_)
  · omega
  · refine g_iconst C dX6_shardOf_8 ?_
    refine g_goto C 13 dX6_shardOf_9 (by decide) ?_
    refine m_call C hS [_] _ (kX6_75 rfl) (c6_ref0 hS) rfl rfl (by decide) (Nat.le_refl _) (Nat.le_refl _) (Nat.le_of_ble_eq_true rfl) dX6_shardOf_13 ?_
    refine g_if_eq C 23 dX6_shardOf_16 (by decide) (by omega) (fun c16 => ?_) (fun c16 => ?_)
    · refine g_aload_n C 0 dX6_shardOf_23 rfl rfl ?_
      refine g_iload_n C 1 dX6_shardOf_24 rfl rfl ?_
      refine m_call C hS [_] _ (kX6_95 rfl) (c6_shardAt (S := su S 0 0 0) hS key (by omega) j (by omega) (fun i _ => (h1 i).1) (fun i _ hi => by have := gmono2 hs hi (by omega); show S 7 i ≤ key; omega) hk2) rfl rfl (by decide) (Nat.le_refl _) (Nat.le_refl _) (Nat.le_of_ble_eq_true rfl) dX6_shardOf_25 ?_
      exact g_iret C dX6_shardOf_28 (Nat.le_refl _) (Nat.le_refl _) ⟨rfl, rfl⟩
    · omega

set_option maxRecDepth 100000 in
set_option maxHeartbeats 4000000 in
theorem c6_whereAnew_1 (hS : gShM h) (h1 : gW1 S) (h2 : gW2 S) (h0 : gW0 S) {nm ns : Nat} (hs : gWS S nm ns) (key : Int) (hkey : (-2147483648 ≤ key ∧ key < 2147483648)) (hp : ¬ (0 ≤ key ∧ key ≤ 999)) : gMm w l yX6_whereAnew cX6_whereAnew 2 (some .int) 2 [.ref 34, .int (iI key)] h S (some (.int (iI (0)))) (su S 0 0 1) := by
  refine gMm_start (by decide +kernel) (by simp [Value.category]) (Nat.le_of_ble_eq_true rfl) (fun m Wp C => ?_)
  have e02 := hs.1
  have hnm := hs.2.1
  have e13 := hs.2.2.1
  have hns1 := hs.2.2.2.1
  have hns2 := hs.2.2.2.2.1
  obtain ⟨hw1, hw7, hw8⟩ := h0
  show gG w m 2 Wp (gwr h S) 0 0 [some (.ref 34), some (.int (iI key))] [] 0
  refine g_aload_n C 0 dX6_whereAnew_0 rfl rfl ?_
  refine g_iload_n C 1 dX6_whereAnew_1 rfl rfl ?_
  refine m_callS C [_] _ (kX6_92 rfl) rfl (c6_isKey_f key hkey (by omega)) rfl rfl (by decide) (Nat.le_refl _) (Nat.le_refl _) (Nat.le_of_ble_eq_true rfl) dX6_whereAnew_2 ?_
  refine g_if_eq C 12 dX6_whereAnew_5 (by decide) (by omega) (fun c5 => ?_) (fun c5 => ?_)
  · refine g_iconst C dX6_whereAnew_12 ?_
    refine m_call C hS [_] _ (kX6_75 rfl) (c6_refN hS 1 (by omega) (by omega)) rfl rfl (by decide) (Nat.le_refl _) (Nat.le_refl _) (Nat.le_of_ble_eq_true rfl) dX6_whereAnew_13 ?_
    refine g_if_eq C 23 dX6_whereAnew_16 (by decide) (by omega) (fun c16 => ?_) (fun c16 => ?_)
    · omega
    · refine g_iconst C dX6_whereAnew_19 ?_
      refine g_goto C 33 dX6_whereAnew_20 (by decide) ?_
      exact g_iret C dX6_whereAnew_33 (Nat.le_refl _) (Nat.le_refl _) ⟨rfl, rfl⟩
  · omega

set_option maxRecDepth 100000 in
set_option maxHeartbeats 4000000 in
theorem c6_whereAnew_2 (hS : gShM h) (h1 : gW1 S) (h2 : gW2 S) (h0 : gW0 S) {nm ns : Nat} (hs : gWS S nm ns) (key : Int) (hkey : (-2147483648 ≤ key ∧ key < 2147483648)) (j : Nat) (hj : j < ns) (hk0 : 0 ≤ key ∧ key ≤ 999) (hk1 : S 7 j ≤ key) (hk2 : key < S 7 (j + 1)) : gMm w l yX6_whereAnew cX6_whereAnew 2 (some .int) 2 [.ref 34, .int (iI key)] h S (some (.int (iI (S 8 j)))) (su S 0 0 0) := by
  refine gMm_start (by decide +kernel) (by simp [Value.category]) (Nat.le_of_ble_eq_true rfl) (fun m Wp C => ?_)
  have e02 := hs.1
  have hnm := hs.2.1
  have e13 := hs.2.2.1
  have hns1 := hs.2.2.2.1
  have hns2 := hs.2.2.2.2.1
  obtain ⟨hw1, hw7, hw8⟩ := h0
  have hr := hs.2.2.2.2.2.2.2.2 j hj
  have hrr := h1 j
  show gG w m 2 Wp (gwr h S) 0 0 [some (.ref 34), some (.int (iI key))] [] 0
  refine g_aload_n C 0 dX6_whereAnew_0 rfl rfl ?_
  refine g_iload_n C 1 dX6_whereAnew_1 rfl rfl ?_
  refine m_callS C [_] _ (kX6_92 rfl) rfl (c6_isKey_t key hkey (by omega)) rfl rfl (by decide) (Nat.le_refl _) (Nat.le_refl _) (Nat.le_of_ble_eq_true rfl) dX6_whereAnew_2 ?_
  refine g_if_eq C 12 dX6_whereAnew_5 (by decide) (by omega) (fun c5 => ?_) (fun c5 => ?_)
  · omega
  · refine g_iconst C dX6_whereAnew_8 ?_
    refine g_goto C 13 dX6_whereAnew_9 (by decide) ?_
    refine m_call C hS [_] _ (kX6_75 rfl) (c6_ref0 hS) rfl rfl (by decide) (Nat.le_refl _) (Nat.le_refl _) (Nat.le_of_ble_eq_true rfl) dX6_whereAnew_13 ?_
    refine g_if_eq C 23 dX6_whereAnew_16 (by decide) (by omega) (fun c16 => ?_) (fun c16 => ?_)
    · refine g_aload_n C 0 dX6_whereAnew_23 rfl rfl ?_
      refine m_arr C hS 8 (by omega) (by omega) (fX6_36 rfl) rfl dX6_whereAnew_24 ?_
      refine g_aload_n C 0 dX6_whereAnew_27 rfl rfl ?_
      refine g_iload_n C 1 dX6_whereAnew_28 rfl rfl ?_
      refine m_call C hS [_] _ (kX6_95 rfl) (c6_shardAt (S := su S 0 0 0) hS key (by omega) j (by omega) (fun i _ => (h1 i).1) (fun i _ hi => by have := gmono2 hs hi (by omega); show S 7 i ≤ key; omega) hk2) rfl rfl (by decide) (Nat.le_refl _) (Nat.le_refl _) (Nat.le_of_ble_eq_true rfl) dX6_whereAnew_29 ?_
      refine m_ialdv C hS (by omega) rfl (by omega) j (by omega) (by omega) (S 8 j) rfl dX6_whereAnew_32 ?_
      exact g_iret C dX6_whereAnew_33 (Nat.le_refl _) (Nat.le_refl _) ⟨rfl, rfl⟩
    · omega

set_option maxRecDepth 100000 in
set_option maxHeartbeats 4000000 in
theorem c6_billAnew_1 (hS : gShM h) (h1 : gW1 S) (h2 : gW2 S) (h0 : gW0 S) {nm ns : Nat} (hs : gWS S nm ns) (t : Int) (ht : (-2147483648 ≤ t ∧ t < 2147483648)) (hp : ¬ (0 ≤ t ∧ t ≤ 3)) : gMm w l yX6_billAnew cX6_billAnew 2 (some .int) 2 [.ref 34, .int (iI t)] h S (some (.int (iI (0)))) (su S 0 0 1) := by
  refine gMm_start (by decide +kernel) (by simp [Value.category]) (Nat.le_of_ble_eq_true rfl) (fun m Wp C => ?_)
  have e02 := hs.1
  have hnm := hs.2.1
  have e13 := hs.2.2.1
  have hns1 := hs.2.2.2.1
  have hns2 := hs.2.2.2.2.1
  obtain ⟨hw1, hw7, hw8⟩ := h0
  show gG w m 2 Wp (gwr h S) 0 0 [some (.ref 34), some (.int (iI t))] [] 0
  refine g_aload_n C 0 dX6_billAnew_0 rfl rfl ?_
  refine g_iload_n C 1 dX6_billAnew_1 rfl rfl ?_
  refine m_callS C [_] _ (kX6_86 rfl) rfl (c6_isTenant_f t ht (by omega)) rfl rfl (by decide) (Nat.le_refl _) (Nat.le_refl _) (Nat.le_of_ble_eq_true rfl) dX6_billAnew_2 ?_
  refine g_if_eq C 12 dX6_billAnew_5 (by decide) (by omega) (fun c5 => ?_) (fun c5 => ?_)
  · refine g_iconst C dX6_billAnew_12 ?_
    refine m_call C hS [_] _ (kX6_75 rfl) (c6_refN hS 1 (by omega) (by omega)) rfl rfl (by decide) (Nat.le_refl _) (Nat.le_refl _) (Nat.le_of_ble_eq_true rfl) dX6_billAnew_13 ?_
    refine g_if_eq C 23 dX6_billAnew_16 (by decide) (by omega) (fun c16 => ?_) (fun c16 => ?_)
    · omega
    · refine g_iconst C dX6_billAnew_19 ?_
      refine g_goto C 29 dX6_billAnew_20 (by decide) ?_
      exact g_iret C dX6_billAnew_29 (Nat.le_refl _) (Nat.le_refl _) ⟨rfl, rfl⟩
  · omega

set_option maxRecDepth 100000 in
set_option maxHeartbeats 4000000 in
theorem c6_billAnew_2 (hS : gShM h) (h1 : gW1 S) (h2 : gW2 S) (h0 : gW0 S) {nm ns : Nat} (hs : gWS S nm ns) (t : Int) (ht : (-2147483648 ≤ t ∧ t < 2147483648)) (hp : 0 ≤ t ∧ t ≤ 3) : gMm w l yX6_billAnew cX6_billAnew 2 (some .int) 2 [.ref 34, .int (iI t)] h S (some (.int (iI (S 4 t.toNat)))) (su S 0 0 0) := by
  refine gMm_start (by decide +kernel) (by simp [Value.category]) (Nat.le_of_ble_eq_true rfl) (fun m Wp C => ?_)
  have e02 := hs.1
  have hnm := hs.2.1
  have e13 := hs.2.2.1
  have hns1 := hs.2.2.2.1
  have hns2 := hs.2.2.2.2.1
  obtain ⟨hw1, hw7, hw8⟩ := h0
  show gG w m 2 Wp (gwr h S) 0 0 [some (.ref 34), some (.int (iI t))] [] 0
  refine g_aload_n C 0 dX6_billAnew_0 rfl rfl ?_
  refine g_iload_n C 1 dX6_billAnew_1 rfl rfl ?_
  refine m_callS C [_] _ (kX6_86 rfl) rfl (c6_isTenant_t t ht (by omega)) rfl rfl (by decide) (Nat.le_refl _) (Nat.le_refl _) (Nat.le_of_ble_eq_true rfl) dX6_billAnew_2 ?_
  refine g_if_eq C 12 dX6_billAnew_5 (by decide) (by omega) (fun c5 => ?_) (fun c5 => ?_)
  · omega
  · refine g_iconst C dX6_billAnew_8 ?_
    refine g_goto C 13 dX6_billAnew_9 (by decide) ?_
    refine m_call C hS [_] _ (kX6_75 rfl) (c6_ref0 hS) rfl rfl (by decide) (Nat.le_refl _) (Nat.le_refl _) (Nat.le_of_ble_eq_true rfl) dX6_billAnew_13 ?_
    refine g_if_eq C 23 dX6_billAnew_16 (by decide) (by omega) (fun c16 => ?_) (fun c16 => ?_)
    · refine g_aload_n C 0 dX6_billAnew_23 rfl rfl ?_
      refine m_arr C hS 4 (by omega) (by omega) (fX6_20 rfl) rfl dX6_billAnew_24 ?_
      refine g_iload_n C 1 dX6_billAnew_27 rfl rfl ?_
      refine m_ialdv C hS (by omega) rfl (by omega) t.toNat (by omega) (by omega) (S 4 t.toNat) rfl dX6_billAnew_28 ?_
      exact g_iret C dX6_billAnew_29 (Nat.le_refl _) (Nat.le_refl _) ⟨rfl, rfl⟩
    · omega

set_option maxRecDepth 100000 in
set_option maxHeartbeats 4000000 in
theorem c6_tenant_1 (hS : gShM h) (h1 : gW1 S) (h2 : gW2 S) (h0 : gW0 S) {nm ns : Nat} (hs : gWS S nm ns) (t : Int) (ht : (-2147483648 ≤ t ∧ t < 2147483648)) (a : Int) (ha : (-2147483648 ≤ a ∧ a < 2147483648)) (hp : ¬ (0 ≤ t ∧ t ≤ 3)) : gMm w l yX6_tenant cX6_tenant 3 (some .int) 2 [.ref 34, .int (iI t), .int (iI a)] h S (some (.int (iI (0)))) (su S 0 0 1) := by
  refine gMm_start (by decide +kernel) (by simp [Value.category]) (Nat.le_of_ble_eq_true rfl) (fun m Wp C => ?_)
  have e02 := hs.1
  have hnm := hs.2.1
  have e13 := hs.2.2.1
  have hns1 := hs.2.2.2.1
  have hns2 := hs.2.2.2.2.1
  obtain ⟨hw1, hw7, hw8⟩ := h0
  show gG w m 3 Wp (gwr h S) 0 0 [some (.ref 34), some (.int (iI t)), some (.int (iI a))] [] 0
  refine g_aload_n C 0 dX6_tenant_0 rfl rfl ?_
  refine g_iload_n C 1 dX6_tenant_1 rfl rfl ?_
  refine m_callS C [_] _ (kX6_86 rfl) rfl (c6_isTenant_f t ht (by omega)) rfl rfl (by decide) (Nat.le_refl _) (Nat.le_refl _) (Nat.le_of_ble_eq_true rfl) dX6_tenant_2 ?_
  refine g_if_ne C 12 dX6_tenant_5 (by decide) (by omega) (fun c5 => ?_) (fun c5 => ?_)
  · omega
  · refine g_iconst C dX6_tenant_8 ?_
    refine g_goto C 26 dX6_tenant_9 (by decide) ?_
    refine m_call C hS [_] _ (kX6_75 rfl) (c6_refN hS 1 (by omega) (by omega)) rfl rfl (by decide) (Nat.le_refl _) (Nat.le_refl _) (Nat.le_of_ble_eq_true rfl) dX6_tenant_26 ?_
    refine g_if_eq C 34 dX6_tenant_29 (by decide) (by omega) (fun c29 => ?_) (fun c29 => ?_)
    · omega
    · refine g_iconst C dX6_tenant_32 ?_
      exact g_iret C dX6_tenant_33 (Nat.le_refl _) (Nat.le_refl _) ⟨rfl, rfl⟩

set_option maxRecDepth 100000 in
set_option maxHeartbeats 4000000 in
theorem c6_tenant_2 (hS : gShM h) (h1 : gW1 S) (h2 : gW2 S) (h0 : gW0 S) {nm ns : Nat} (hs : gWS S nm ns) (t : Int) (ht : (-2147483648 ≤ t ∧ t < 2147483648)) (a : Int) (ha : (-2147483648 ≤ a ∧ a < 2147483648)) (hp : 0 ≤ t ∧ t ≤ 3) (hq : ¬ (0 ≤ a ∧ a ≤ 2)) : gMm w l yX6_tenant cX6_tenant 3 (some .int) 2 [.ref 34, .int (iI t), .int (iI a)] h S (some (.int (iI (0)))) (su S 0 0 2) := by
  refine gMm_start (by decide +kernel) (by simp [Value.category]) (Nat.le_of_ble_eq_true rfl) (fun m Wp C => ?_)
  have e02 := hs.1
  have hnm := hs.2.1
  have e13 := hs.2.2.1
  have hns1 := hs.2.2.2.1
  have hns2 := hs.2.2.2.2.1
  obtain ⟨hw1, hw7, hw8⟩ := h0
  show gG w m 3 Wp (gwr h S) 0 0 [some (.ref 34), some (.int (iI t)), some (.int (iI a))] [] 0
  refine g_aload_n C 0 dX6_tenant_0 rfl rfl ?_
  refine g_iload_n C 1 dX6_tenant_1 rfl rfl ?_
  refine m_callS C [_] _ (kX6_86 rfl) rfl (c6_isTenant_t t ht (by omega)) rfl rfl (by decide) (Nat.le_refl _) (Nat.le_refl _) (Nat.le_of_ble_eq_true rfl) dX6_tenant_2 ?_
  refine g_if_ne C 12 dX6_tenant_5 (by decide) (by omega) (fun c5 => ?_) (fun c5 => ?_)
  · refine g_iload_n C 2 dX6_tenant_12 rfl rfl ?_
    refine g_iconst C dX6_tenant_13 ?_
    refine g_iconst C dX6_tenant_14 ?_
    refine m_callS C [_, _, _] _ (kX6_54 rfl) rfl (c6_in_f a 0 2 ha (by omega) (by omega) (by omega)) rfl rfl (by decide) (Nat.le_refl _) (Nat.le_refl _) (Nat.le_of_ble_eq_true rfl) dX6_tenant_15 ?_
    refine g_if_ne C 25 dX6_tenant_18 (by decide) (by omega) (fun c18 => ?_) (fun c18 => ?_)
    · omega
    · refine g_iconst C dX6_tenant_21 ?_
      refine g_goto C 26 dX6_tenant_22 (by decide) ?_
      refine m_call C hS [_] _ (kX6_75 rfl) (c6_refN hS 2 (by omega) (by omega)) rfl rfl (by decide) (Nat.le_refl _) (Nat.le_refl _) (Nat.le_of_ble_eq_true rfl) dX6_tenant_26 ?_
      refine g_if_eq C 34 dX6_tenant_29 (by decide) (by omega) (fun c29 => ?_) (fun c29 => ?_)
      · omega
      · refine g_iconst C dX6_tenant_32 ?_
        exact g_iret C dX6_tenant_33 (Nat.le_refl _) (Nat.le_refl _) ⟨rfl, rfl⟩
  · omega

def sten (S : gS) (t a : Int) : Int := if a = 0 then gbof S t else if a = 1 then S 3 t.toNat else S 4 t.toNat

set_option maxRecDepth 100000 in
set_option maxHeartbeats 4000000 in
theorem c6_tenant_3 (hS : gShM h) (h1 : gW1 S) (h2 : gW2 S) (h0 : gW0 S) {nm ns : Nat} (hs : gWS S nm ns) (t : Int) (ht : (-2147483648 ≤ t ∧ t < 2147483648)) (a : Int) (ha : (-2147483648 ≤ a ∧ a < 2147483648)) (hp : 0 ≤ t ∧ t ≤ 3) (hq : 0 ≤ a ∧ a ≤ 2) : gMm w l yX6_tenant cX6_tenant 3 (some .int) 2 [.ref 34, .int (iI t), .int (iI a)] h S (some (.int (iI (sten S t a)))) (su S 0 0 0) := by
  refine gMm_start (by decide +kernel) (by simp [Value.category]) (Nat.le_of_ble_eq_true rfl) (fun m Wp C => ?_)
  have e02 := hs.1
  have hnm := hs.2.1
  have e13 := hs.2.2.1
  have hns1 := hs.2.2.2.1
  have hns2 := hs.2.2.2.2.1
  obtain ⟨hw1, hw7, hw8⟩ := h0
  have htt : (t.toNat : Int) = t := by omega
  show gG w m 3 Wp (gwr h S) 0 0 [some (.ref 34), some (.int (iI t)), some (.int (iI a))] [] 0
  refine g_aload_n C 0 dX6_tenant_0 rfl rfl ?_
  refine g_iload_n C 1 dX6_tenant_1 rfl rfl ?_
  refine m_callS C [_] _ (kX6_86 rfl) rfl (c6_isTenant_t t ht (by omega)) rfl rfl (by decide) (Nat.le_refl _) (Nat.le_refl _) (Nat.le_of_ble_eq_true rfl) dX6_tenant_2 ?_
  refine g_if_ne C 12 dX6_tenant_5 (by decide) (by omega) (fun c5 => ?_) (fun c5 => ?_)
  · refine g_iload_n C 2 dX6_tenant_12 rfl rfl ?_
    refine g_iconst C dX6_tenant_13 ?_
    refine g_iconst C dX6_tenant_14 ?_
    refine m_callS C [_, _, _] _ (kX6_54 rfl) rfl (c6_in_t a 0 2 ha (by omega) (by omega) (by omega)) rfl rfl (by decide) (Nat.le_refl _) (Nat.le_refl _) (Nat.le_of_ble_eq_true rfl) dX6_tenant_15 ?_
    refine g_if_ne C 25 dX6_tenant_18 (by decide) (by omega) (fun c18 => ?_) (fun c18 => ?_)
    · refine g_iconst C dX6_tenant_25 ?_
      refine m_call C hS [_] _ (kX6_75 rfl) (c6_ref0 hS) rfl rfl (by decide) (Nat.le_refl _) (Nat.le_refl _) (Nat.le_of_ble_eq_true rfl) dX6_tenant_26 ?_
      refine g_if_eq C 34 dX6_tenant_29 (by decide) (by omega) (fun c29 => ?_) (fun c29 => ?_)
      · refine g_iload_n C 2 dX6_tenant_34 rfl rfl ?_
        refine g_if_ne C 46 dX6_tenant_35 (by decide) (by omega) (fun c35 => ?_) (fun c35 => ?_)
        · refine g_iload_n C 2 dX6_tenant_46 rfl rfl ?_
          refine g_iconst C dX6_tenant_47 ?_
          refine g_icmp_ne C 60 dX6_tenant_48 (by decide) (by omega) (by omega) (fun c48 => ?_) (fun c48 => ?_)
          · refine g_aload_n C 0 dX6_tenant_60 rfl rfl ?_
            refine m_arr C hS 4 (by omega) (by omega) (fX6_20 rfl) rfl dX6_tenant_61 ?_
            refine g_iload_n C 1 dX6_tenant_64 rfl rfl ?_
            refine m_ialdv C hS (by omega) rfl (by omega) t.toNat (by omega) (by omega) (S 4 t.toNat) rfl dX6_tenant_65 ?_
            exact g_iret C dX6_tenant_66 (Nat.le_refl _) (Nat.le_refl _) ⟨by first | (rw [sten, if_pos (by omega)] <;> rfl) | (rw [sten, if_neg (by omega), if_pos (by omega)] <;> rfl) | (rw [sten, if_neg (by omega), if_neg (by omega)] <;> rfl), rfl⟩
          · refine g_aload_n C 0 dX6_tenant_51 rfl rfl ?_
            refine m_arr C hS 3 (by omega) (by omega) (fX6_17 rfl) rfl dX6_tenant_52 ?_
            refine g_iload_n C 1 dX6_tenant_55 rfl rfl ?_
            refine m_ialdv C hS (by omega) rfl (by omega) t.toNat (by omega) (by omega) (S 3 t.toNat) rfl dX6_tenant_56 ?_
            refine g_goto C 66 dX6_tenant_57 (by decide) ?_
            exact g_iret C dX6_tenant_66 (Nat.le_refl _) (Nat.le_refl _) ⟨by first | (rw [sten, if_pos (by omega)] <;> rfl) | (rw [sten, if_neg (by omega), if_pos (by omega)] <;> rfl) | (rw [sten, if_neg (by omega), if_neg (by omega)] <;> rfl), rfl⟩
        · refine g_aload_n C 0 dX6_tenant_38 rfl rfl ?_
          refine g_iload_n C 1 dX6_tenant_39 rfl rfl ?_
          refine m_call C hS [_] _ (kX6_101 rfl) (c6_bytesOf (S := su S 0 0 0) hS h2 t (by omega)) rfl rfl (by decide) (Nat.le_refl _) (Nat.le_refl _) (Nat.le_of_ble_eq_true rfl) dX6_tenant_40 ?_
          refine g_goto C 66 dX6_tenant_43 (by decide) ?_
          exact g_iret C dX6_tenant_66 (Nat.le_refl _) (Nat.le_refl _) ⟨by first | (rw [sten, if_pos (by omega)] <;> rfl) | (rw [sten, if_neg (by omega), if_pos (by omega)] <;> rfl) | (rw [sten, if_neg (by omega), if_neg (by omega)] <;> rfl), rfl⟩
      · omega
    · omega
  · omega

set_option maxRecDepth 100000 in
set_option maxHeartbeats 4000000 in
theorem c6_machineOf_1 (hS : gShM h) (h1 : gW1 S) (h2 : gW2 S) (h0 : gW0 S) {nm ns : Nat} (hs : gWS S nm ns) (x : Int) (hx : (-2147483648 ≤ x ∧ x < 2147483648)) (a : Int) (ha : (-2147483648 ≤ a ∧ a < 2147483648)) (hp : ¬ (0 ≤ x ∧ x < nm)) : gMm w l yX6_machineOf cX6_machineOf 5 (some .int) 4 [.ref 34, .int (iI x), .int (iI a)] h S (some (.int (iI (0)))) (su S 0 0 1) := by
  refine gMm_start (by decide +kernel) (by simp [Value.category]) (Nat.le_of_ble_eq_true rfl) (fun m Wp C => ?_)
  have e02 := hs.1
  have hnm := hs.2.1
  have e13 := hs.2.2.1
  have hns1 := hs.2.2.2.1
  have hns2 := hs.2.2.2.2.1
  obtain ⟨hw1, hw7, hw8⟩ := h0
  show gG w m 5 Wp (gwr h S) 0 0 [some (.ref 34), some (.int (iI x)), some (.int (iI a)), none, none] [] 0
  refine g_aload_n C 0 dX6_machineOf_0 rfl rfl ?_
  refine g_aload_n C 0 dX6_machineOf_1 rfl rfl ?_
  refine g_iload_n C 1 dX6_machineOf_2 rfl rfl ?_
  refine m_call C hS [_] _ (kX6_79 rfl) (c6_isMachine_f hS x hx (by omega) (by omega)) rfl rfl (by decide) (Nat.le_refl _) (Nat.le_refl _) (Nat.le_of_ble_eq_true rfl) dX6_machineOf_3 ?_
  refine g_if_ne C 13 dX6_machineOf_6 (by decide) (by omega) (fun c6 => ?_) (fun c6 => ?_)
  · omega
  · refine g_iconst C dX6_machineOf_9 ?_
    refine g_goto C 27 dX6_machineOf_10 (by decide) ?_
    refine m_call C hS [_] _ (kX6_75 rfl) (c6_refN hS 1 (by omega) (by omega)) rfl rfl (by decide) (Nat.le_refl _) (Nat.le_refl _) (Nat.le_of_ble_eq_true rfl) dX6_machineOf_27 ?_
    refine g_if_eq C 35 dX6_machineOf_30 (by decide) (by omega) (fun c30 => ?_) (fun c30 => ?_)
    · omega
    · refine g_iconst C dX6_machineOf_33 ?_
      exact g_iret C dX6_machineOf_34 (Nat.le_refl _) (Nat.le_refl _) ⟨rfl, rfl⟩

set_option maxRecDepth 100000 in
set_option maxHeartbeats 4000000 in
theorem c6_machineOf_2 (hS : gShM h) (h1 : gW1 S) (h2 : gW2 S) (h0 : gW0 S) {nm ns : Nat} (hs : gWS S nm ns) (x : Int) (hx : (-2147483648 ≤ x ∧ x < 2147483648)) (a : Int) (ha : (-2147483648 ≤ a ∧ a < 2147483648)) (hp : 0 ≤ x ∧ x < nm) (hq : ¬ (0 ≤ a ∧ a ≤ 3)) : gMm w l yX6_machineOf cX6_machineOf 5 (some .int) 4 [.ref 34, .int (iI x), .int (iI a)] h S (some (.int (iI (0)))) (su S 0 0 2) := by
  refine gMm_start (by decide +kernel) (by simp [Value.category]) (Nat.le_of_ble_eq_true rfl) (fun m Wp C => ?_)
  have e02 := hs.1
  have hnm := hs.2.1
  have e13 := hs.2.2.1
  have hns1 := hs.2.2.2.1
  have hns2 := hs.2.2.2.2.1
  obtain ⟨hw1, hw7, hw8⟩ := h0
  show gG w m 5 Wp (gwr h S) 0 0 [some (.ref 34), some (.int (iI x)), some (.int (iI a)), none, none] [] 0
  refine g_aload_n C 0 dX6_machineOf_0 rfl rfl ?_
  refine g_aload_n C 0 dX6_machineOf_1 rfl rfl ?_
  refine g_iload_n C 1 dX6_machineOf_2 rfl rfl ?_
  refine m_call C hS [_] _ (kX6_79 rfl) (c6_isMachine_t hS x hx (by omega) (by omega)) rfl rfl (by decide) (Nat.le_refl _) (Nat.le_refl _) (Nat.le_of_ble_eq_true rfl) dX6_machineOf_3 ?_
  refine g_if_ne C 13 dX6_machineOf_6 (by decide) (by omega) (fun c6 => ?_) (fun c6 => ?_)
  · refine g_iload_n C 2 dX6_machineOf_13 rfl rfl ?_
    refine g_iconst C dX6_machineOf_14 ?_
    refine g_iconst C dX6_machineOf_15 ?_
    refine m_callS C [_, _, _] _ (kX6_54 rfl) rfl (c6_in_f a 0 3 ha (by omega) (by omega) (by omega)) rfl rfl (by decide) (Nat.le_refl _) (Nat.le_refl _) (Nat.le_of_ble_eq_true rfl) dX6_machineOf_16 ?_
    refine g_if_ne C 26 dX6_machineOf_19 (by decide) (by omega) (fun c19 => ?_) (fun c19 => ?_)
    · omega
    · refine g_iconst C dX6_machineOf_22 ?_
      refine g_goto C 27 dX6_machineOf_23 (by decide) ?_
      refine m_call C hS [_] _ (kX6_75 rfl) (c6_refN hS 2 (by omega) (by omega)) rfl rfl (by decide) (Nat.le_refl _) (Nat.le_refl _) (Nat.le_of_ble_eq_true rfl) dX6_machineOf_27 ?_
      refine g_if_eq C 35 dX6_machineOf_30 (by decide) (by omega) (fun c30 => ?_) (fun c30 => ?_)
      · omega
      · refine g_iconst C dX6_machineOf_33 ?_
        exact g_iret C dX6_machineOf_34 (Nat.le_refl _) (Nat.le_refl _) ⟨rfl, rfl⟩
  · omega

def gcntF (S : gS) (mi : Int) (j : Nat) : Int := if S 8 j = mi then 1 else 0
def gcnt (S : gS) (mi : Int) : Int := gsum (gcntF S mi) 0 (S 0 13).toNat
def smac (S : gS) (x a : Int) : Int := if a = 0 then gheld S x else if a = 1 then (if S 2 x.toNat = 0 then 1 else 0) else if a = 2 then gheat S x else gcnt S x

set_option maxRecDepth 100000 in
set_option maxHeartbeats 4000000 in
theorem c6_machineOf_3 (hS : gShM h) (h1 : gW1 S) (h2 : gW2 S) (h0 : gW0 S) {nm ns : Nat} (hs : gWS S nm ns) (x : Int) (hx : (-2147483648 ≤ x ∧ x < 2147483648)) (a : Int) (ha : (-2147483648 ≤ a ∧ a < 2147483648)) (hp : 0 ≤ x ∧ x < nm) (hq : 0 ≤ a ∧ a ≤ 3) : gMm w l yX6_machineOf cX6_machineOf 5 (some .int) 4 [.ref 34, .int (iI x), .int (iI a)] h S (some (.int (iI (smac S x a)))) (su S 0 0 0) := by
  refine gMm_start (by decide +kernel) (by simp [Value.category]) (Nat.le_of_ble_eq_true rfl) (fun m Wp C => ?_)
  have e02 := hs.1
  have hnm := hs.2.1
  have e13 := hs.2.2.1
  have hns1 := hs.2.2.2.1
  have hns2 := hs.2.2.2.2.1
  obtain ⟨hw1, hw7, hw8⟩ := h0
  have hdx := (h2 x.toNat).2.1
  have L : ¬ a < 2 → ∀ (n i : Nat) (t : Int), i + n = ns → t = gsum (gcntF S x) 0 i → gG w m 5 Wp (gwr h (su S 0 0 0)) 0 0 [some (.ref 34), some (.int (iI x)), some (.int (iI a)), some (.int (iI t)), some (.int (iI (i : Int)))] [] 72 := by
    intro ha2 n
    induction n with
    | zero =>
      intro i t h9 ht
      have e9 : i = ns := by omega
      subst e9
      refine g_iload C dX6_machineOf_72 rfl ?_
      refine g_aload_n C 0 dX6_machineOf_74 rfl rfl ?_
      refine m_fldv C hS (fX6_29 rfl) rfl (S 0 13) rfl dX6_machineOf_75 ?_
      refine g_icmp_ge C 106 dX6_machineOf_78 (by decide) (by omega) (by omega) (fun c78 => ?_) (fun c78 => ?_)
      · refine g_iload_n C 2 dX6_machineOf_106 rfl rfl ?_
        refine g_iconst C dX6_machineOf_107 ?_
        refine g_icmp_ne C 119 dX6_machineOf_108 (by decide) (by omega) (by omega) (fun c108 => ?_) (fun c108 => ?_)
        · refine g_iload_n C 3 dX6_machineOf_119 rfl rfl ?_
          exact g_iret C dX6_machineOf_120 (Nat.le_refl _) (Nat.le_refl _) ⟨by first | (rw [smac, if_neg (by omega), if_neg (by omega), if_pos (by omega)] <;> rfl) | (rw [smac, if_neg (by omega), if_neg (by omega), if_neg (by omega), ht, gcnt, e13, Int.toNat_natCast] <;> rfl), rfl⟩
        · refine g_aload_n C 0 dX6_machineOf_111 rfl rfl ?_
          refine g_iload_n C 1 dX6_machineOf_112 rfl rfl ?_
          refine m_call C hS [_] _ (kX6_124 rfl) (c6_heatOf (S := su S 0 0 0) hS h1 ⟨by show 0 ≤ S 0 13; omega, by show S 0 13 ≤ 16; omega⟩ x (by omega)) rfl rfl (by decide) (Nat.le_refl _) (Nat.le_refl _) (Nat.le_of_ble_eq_true rfl) dX6_machineOf_113 ?_
          refine g_goto C 120 dX6_machineOf_116 (by decide) ?_
          exact g_iret C dX6_machineOf_120 (Nat.le_refl _) (Nat.le_refl _) ⟨by first | (rw [smac, if_neg (by omega), if_neg (by omega), if_pos (by omega)] <;> rfl) | (rw [smac, if_neg (by omega), if_neg (by omega), if_neg (by omega), ht, gcnt, e13, Int.toNat_natCast] <;> rfl), rfl⟩
      · omega
    | succ n ih =>
      intro i t h9 ht
      have hr := h1 i
      refine g_iload C dX6_machineOf_72 rfl ?_
      refine g_aload_n C 0 dX6_machineOf_74 rfl rfl ?_
      refine m_fldv C hS (fX6_29 rfl) rfl (S 0 13) rfl dX6_machineOf_75 ?_
      refine g_icmp_ge C 106 dX6_machineOf_78 (by decide) (by omega) (by omega) (fun c78 => ?_) (fun c78 => ?_)
      · omega
      · refine g_iload_n C 3 dX6_machineOf_81 rfl rfl ?_
        refine g_aload_n C 0 dX6_machineOf_82 rfl rfl ?_
        refine m_arr C hS 8 (by omega) (by omega) (fX6_36 rfl) rfl dX6_machineOf_83 ?_
        refine g_iload C dX6_machineOf_86 rfl ?_
        refine m_ialdv C hS (by omega) rfl (by omega) i (by omega) (by omega) (S 8 i) rfl dX6_machineOf_88 ?_
        refine g_iload_n C 1 dX6_machineOf_89 rfl rfl ?_
        refine g_icmp_ne C 97 dX6_machineOf_90 (by decide) (by omega) (by omega) (fun c90 => ?_) (fun c90 => ?_)
        · refine g_iconst C dX6_machineOf_97 ?_
          refine g_iadd C dX6_machineOf_98 ?_
          refine s_istore_n (lo' := [_, _, _, _, _]) C 3 dX6_machineOf_99 rfl (by decide) rfl ?_
          refine s_iinc (lo' := [_, _, _, _, _]) C dX6_machineOf_100 rfl (by decide) rfl ?_
          refine g_goto C 72 dX6_machineOf_103 (by decide) ?_
          exact ih (i + 1) _ (by omega) (by rw [gsum, ht, Nat.zero_add, gcntF]; simp [c90])
        · refine g_iconst C dX6_machineOf_93 ?_
          refine g_goto C 98 dX6_machineOf_94 (by decide) ?_
          refine g_iadd C dX6_machineOf_98 ?_
          refine s_istore_n (lo' := [_, _, _, _, _]) C 3 dX6_machineOf_99 rfl (by decide) rfl ?_
          refine s_iinc (lo' := [_, _, _, _, _]) C dX6_machineOf_100 rfl (by decide) rfl ?_
          refine g_goto C 72 dX6_machineOf_103 (by decide) ?_
          exact ih (i + 1) _ (by omega) (by rw [gsum, ht, Nat.zero_add, gcntF]; simp [c90])
  show gG w m 5 Wp (gwr h S) 0 0 [some (.ref 34), some (.int (iI x)), some (.int (iI a)), none, none] [] 0
  refine g_aload_n C 0 dX6_machineOf_0 rfl rfl ?_
  refine g_aload_n C 0 dX6_machineOf_1 rfl rfl ?_
  refine g_iload_n C 1 dX6_machineOf_2 rfl rfl ?_
  refine m_call C hS [_] _ (kX6_79 rfl) (c6_isMachine_t hS x hx (by omega) (by omega)) rfl rfl (by decide) (Nat.le_refl _) (Nat.le_refl _) (Nat.le_of_ble_eq_true rfl) dX6_machineOf_3 ?_
  refine g_if_ne C 13 dX6_machineOf_6 (by decide) (by omega) (fun c6 => ?_) (fun c6 => ?_)
  · refine g_iload_n C 2 dX6_machineOf_13 rfl rfl ?_
    refine g_iconst C dX6_machineOf_14 ?_
    refine g_iconst C dX6_machineOf_15 ?_
    refine m_callS C [_, _, _] _ (kX6_54 rfl) rfl (c6_in_t a 0 3 ha (by omega) (by omega) (by omega)) rfl rfl (by decide) (Nat.le_refl _) (Nat.le_refl _) (Nat.le_of_ble_eq_true rfl) dX6_machineOf_16 ?_
    refine g_if_ne C 26 dX6_machineOf_19 (by decide) (by omega) (fun c19 => ?_) (fun c19 => ?_)
    · refine g_iconst C dX6_machineOf_26 ?_
      refine m_call C hS [_] _ (kX6_75 rfl) (c6_ref0 hS) rfl rfl (by decide) (Nat.le_refl _) (Nat.le_refl _) (Nat.le_of_ble_eq_true rfl) dX6_machineOf_27 ?_
      refine g_if_eq C 35 dX6_machineOf_30 (by decide) (by omega) (fun c30 => ?_) (fun c30 => ?_)
      · refine g_iload_n C 2 dX6_machineOf_35 rfl rfl ?_
        refine g_iconst C dX6_machineOf_36 ?_
        refine g_icmp_ge C 67 dX6_machineOf_37 (by decide) (by omega) (by omega) (fun c37 => ?_) (fun c37 => ?_)
        · refine g_iconst C dX6_machineOf_67 ?_
          refine s_istore_n (lo' := [_, _, _, _, _]) C 3 dX6_machineOf_68 rfl (by decide) rfl ?_
          refine g_iconst C dX6_machineOf_69 ?_
          refine s_istore (lo' := [_, _, _, _, _]) C dX6_machineOf_70 (by decide) rfl ?_
          exact L (by omega) ns 0 0 (by omega) rfl
        · refine g_iload_n C 2 dX6_machineOf_40 rfl rfl ?_
          refine g_if_ne C 52 dX6_machineOf_41 (by decide) (by omega) (fun c41 => ?_) (fun c41 => ?_)
          · refine g_aload_n C 0 dX6_machineOf_52 rfl rfl ?_
            refine m_arr C hS 2 (by omega) (by omega) (fX6_13 rfl) rfl dX6_machineOf_53 ?_
            refine g_iload_n C 1 dX6_machineOf_56 rfl rfl ?_
            refine m_baldv C hS x.toNat (by omega) (by omega) (S 2 x.toNat) rfl dX6_machineOf_57 ?_
            refine g_if_eq C 65 dX6_machineOf_58 (by decide) (by omega) (fun c58 => ?_) (fun c58 => ?_)
            · refine g_iconst C dX6_machineOf_65 ?_
              exact g_iret C dX6_machineOf_66 (Nat.le_refl _) (Nat.le_refl _) ⟨by first | (rw [smac, if_pos (by omega)] <;> rfl) | (rw [smac, if_neg (by omega), if_pos (by omega), if_pos (by assumption)] <;> rfl) | (rw [smac, if_neg (by omega), if_pos (by omega), if_neg (by assumption)] <;> rfl), rfl⟩
            · refine g_iconst C dX6_machineOf_61 ?_
              refine g_goto C 66 dX6_machineOf_62 (by decide) ?_
              exact g_iret C dX6_machineOf_66 (Nat.le_refl _) (Nat.le_refl _) ⟨by first | (rw [smac, if_pos (by omega)] <;> rfl) | (rw [smac, if_neg (by omega), if_pos (by omega), if_pos (by assumption)] <;> rfl) | (rw [smac, if_neg (by omega), if_pos (by omega), if_neg (by assumption)] <;> rfl), rfl⟩
          · refine g_aload_n C 0 dX6_machineOf_44 rfl rfl ?_
            refine g_iload_n C 1 dX6_machineOf_45 rfl rfl ?_
            refine m_call C hS [_] _ (kX6_98 rfl) (c6_held (S := su S 0 0 0) hS h1 ⟨by show 0 ≤ S 0 13; omega, by show S 0 13 ≤ 16; omega⟩ x (by omega)) rfl rfl (by decide) (Nat.le_refl _) (Nat.le_refl _) (Nat.le_of_ble_eq_true rfl) dX6_machineOf_46 ?_
            refine g_goto C 66 dX6_machineOf_49 (by decide) ?_
            exact g_iret C dX6_machineOf_66 (Nat.le_refl _) (Nat.le_refl _) ⟨by first | (rw [smac, if_pos (by omega)] <;> rfl) | (rw [smac, if_neg (by omega), if_pos (by omega), if_pos (by assumption)] <;> rfl) | (rw [smac, if_neg (by omega), if_pos (by omega), if_neg (by assumption)] <;> rfl), rfl⟩
      · omega
    · omega
  · omega

set_option maxRecDepth 100000 in
set_option maxHeartbeats 4000000 in
theorem c6_moves (hS : gShM h) (b : Int) (hb : b = 0 ∨ b = 1) : gMm w l yX6_moves cX6_moves 2 (some .int) 0 [.ref 34, .int (iI b)] h S (some (.int (iI (if b = 0 then S 0 10 else S 0 9)))) (su S 0 0 0) := by
  refine gMm_start (by decide +kernel) (by simp [Value.category]) (Nat.le_of_ble_eq_true rfl) (fun m Wp C => ?_)
  show gG w m 2 Wp (gwr h S) 0 0 [some (.ref 34), some (.int (iI b))] [] 0
  refine g_aload_n C 0 dX6_moves_0 rfl rfl ?_
  refine g_iconst C dX6_moves_1 ?_
  refine m_put C hS (fX6_51 rfl) rfl dX6_moves_2 ?_
  refine g_iload_n C 1 dX6_moves_5 rfl rfl ?_
  refine g_if_eq C 16 dX6_moves_6 (by decide) (by omega) (fun c6 => ?_) (fun c6 => ?_)
  · refine g_aload_n C 0 dX6_moves_16 rfl rfl ?_
    refine m_fldv C hS (fX6_72 rfl) rfl (S 0 10) rfl dX6_moves_17 ?_
    exact g_iret C dX6_moves_20 (Nat.le_refl _) (Nat.le_refl _) ⟨by simp [c6], rfl⟩
  · refine g_aload_n C 0 dX6_moves_9 rfl rfl ?_
    refine m_fldv C hS (fX6_121 rfl) rfl (S 0 9) rfl dX6_moves_10 ?_
    refine g_goto C 20 dX6_moves_13 (by decide) ?_
    exact g_iret C dX6_moves_20 (Nat.le_refl _) (Nat.le_refl _) ⟨by simp [c6], rfl⟩

set_option maxRecDepth 100000 in
set_option maxHeartbeats 4000000 in
theorem c6_shard_1 (hS : gShM h) (h1 : gW1 S) (h2 : gW2 S) (h0 : gW0 S) {nm ns : Nat} (hs : gWS S nm ns) (x : Int) (hx : (-2147483648 ≤ x ∧ x < 2147483648)) (a : Int) (ha : (-2147483648 ≤ a ∧ a < 2147483648)) (hp : ¬ (0 ≤ x ∧ x < ns)) : gMm w l yX6_shard cX6_shard 3 (some .int) 3 [.ref 34, .int (iI x), .int (iI a)] h S (some (.int (iI (0)))) (su S 0 0 1) := by
  refine gMm_start (by decide +kernel) (by simp [Value.category]) (Nat.le_of_ble_eq_true rfl) (fun m Wp C => ?_)
  have e02 := hs.1
  have hnm := hs.2.1
  have e13 := hs.2.2.1
  have hns1 := hs.2.2.2.1
  have hns2 := hs.2.2.2.2.1
  obtain ⟨hw1, hw7, hw8⟩ := h0
  show gG w m 3 Wp (gwr h S) 0 0 [some (.ref 34), some (.int (iI x)), some (.int (iI a))] [] 0
  refine g_aload_n C 0 dX6_shard_0 rfl rfl ?_
  refine g_aload_n C 0 dX6_shard_1 rfl rfl ?_
  refine g_iload_n C 1 dX6_shard_2 rfl rfl ?_
  refine m_call C hS [_] _ (kX6_115 rfl) (c6_isShard_f hS x hx (by omega) (by omega)) rfl rfl (by decide) (Nat.le_refl _) (Nat.le_refl _) (Nat.le_of_ble_eq_true rfl) dX6_shard_3 ?_
  refine g_if_ne C 13 dX6_shard_6 (by decide) (by omega) (fun c6 => ?_) (fun c6 => ?_)
  · omega
  · refine g_iconst C dX6_shard_9 ?_
    refine g_goto C 28 dX6_shard_10 (by decide) ?_
    refine m_call C hS [_] _ (kX6_75 rfl) (c6_refN hS 1 (by omega) (by omega)) rfl rfl (by decide) (Nat.le_refl _) (Nat.le_refl _) (Nat.le_of_ble_eq_true rfl) dX6_shard_28 ?_
    refine g_if_eq C 36 dX6_shard_31 (by decide) (by omega) (fun c31 => ?_) (fun c31 => ?_)
    · omega
    · refine g_iconst C dX6_shard_34 ?_
      exact g_iret C dX6_shard_35 (Nat.le_refl _) (Nat.le_refl _) ⟨rfl, rfl⟩

set_option maxRecDepth 100000 in
set_option maxHeartbeats 4000000 in
theorem c6_shard_2 (hS : gShM h) (h1 : gW1 S) (h2 : gW2 S) (h0 : gW0 S) {nm ns : Nat} (hs : gWS S nm ns) (x : Int) (hx : (-2147483648 ≤ x ∧ x < 2147483648)) (a : Int) (ha : (-2147483648 ≤ a ∧ a < 2147483648)) (hp : 0 ≤ x ∧ x < ns) (hq : ¬ (0 ≤ a ∧ a ≤ 6)) : gMm w l yX6_shard cX6_shard 3 (some .int) 3 [.ref 34, .int (iI x), .int (iI a)] h S (some (.int (iI (0)))) (su S 0 0 2) := by
  refine gMm_start (by decide +kernel) (by simp [Value.category]) (Nat.le_of_ble_eq_true rfl) (fun m Wp C => ?_)
  have e02 := hs.1
  have hnm := hs.2.1
  have e13 := hs.2.2.1
  have hns1 := hs.2.2.2.1
  have hns2 := hs.2.2.2.2.1
  obtain ⟨hw1, hw7, hw8⟩ := h0
  show gG w m 3 Wp (gwr h S) 0 0 [some (.ref 34), some (.int (iI x)), some (.int (iI a))] [] 0
  refine g_aload_n C 0 dX6_shard_0 rfl rfl ?_
  refine g_aload_n C 0 dX6_shard_1 rfl rfl ?_
  refine g_iload_n C 1 dX6_shard_2 rfl rfl ?_
  refine m_call C hS [_] _ (kX6_115 rfl) (c6_isShard_t hS x hx (by omega) (by omega)) rfl rfl (by decide) (Nat.le_refl _) (Nat.le_refl _) (Nat.le_of_ble_eq_true rfl) dX6_shard_3 ?_
  refine g_if_ne C 13 dX6_shard_6 (by decide) (by omega) (fun c6 => ?_) (fun c6 => ?_)
  · refine g_iload_n C 2 dX6_shard_13 rfl rfl ?_
    refine g_iconst C dX6_shard_14 ?_
    refine g_bipush C dX6_shard_15 (by decide) ?_
    refine m_callS C [_, _, _] _ (kX6_54 rfl) rfl (c6_in_f a 0 6 ha (by omega) (by omega) (by omega)) rfl rfl (by decide) (Nat.le_refl _) (Nat.le_refl _) (Nat.le_of_ble_eq_true rfl) dX6_shard_17 ?_
    refine g_if_ne C 27 dX6_shard_20 (by decide) (by omega) (fun c20 => ?_) (fun c20 => ?_)
    · omega
    · refine g_iconst C dX6_shard_23 ?_
      refine g_goto C 28 dX6_shard_24 (by decide) ?_
      refine m_call C hS [_] _ (kX6_75 rfl) (c6_refN hS 2 (by omega) (by omega)) rfl rfl (by decide) (Nat.le_refl _) (Nat.le_refl _) (Nat.le_of_ble_eq_true rfl) dX6_shard_28 ?_
      refine g_if_eq C 36 dX6_shard_31 (by decide) (by omega) (fun c31 => ?_) (fun c31 => ?_)
      · omega
      · refine g_iconst C dX6_shard_34 ?_
        exact g_iret C dX6_shard_35 (Nat.le_refl _) (Nat.le_refl _) ⟨rfl, rfl⟩
  · omega

def ssha (S : gS) (j : Nat) (a : Int) : Int := if a = 0 then S 7 j else if a = 1 then S 7 (j + 1) - 1 else if a = 2 then S 8 j else if a = 3 then S 9 j else if a = 4 then gsize S j else if a = 5 then gcop S j else S 12 j

set_option maxRecDepth 100000 in
set_option maxHeartbeats 4000000 in
theorem c6_shard_3 (hS : gShM h) (h1 : gW1 S) (h2 : gW2 S) (h0 : gW0 S) {nm ns : Nat} (hs : gWS S nm ns) (x : Int) (hx : (-2147483648 ≤ x ∧ x < 2147483648)) (a : Int) (ha : (-2147483648 ≤ a ∧ a < 2147483648)) (j : Nat) (he : x = (j : Int)) (hj : j < ns) (hq : 0 ≤ a ∧ a ≤ 6) : gMm w l yX6_shard cX6_shard 3 (some .int) 3 [.ref 34, .int (iI x), .int (iI a)] h S (some (.int (iI (ssha S j a)))) (su S 0 0 0) := by
  refine gMm_start (by decide +kernel) (by simp [Value.category]) (Nat.le_of_ble_eq_true rfl) (fun m Wp C => ?_)
  have e02 := hs.1
  have hnm := hs.2.1
  have e13 := hs.2.2.1
  have hns1 := hs.2.2.2.1
  have hns2 := hs.2.2.2.2.1
  obtain ⟨hw1, hw7, hw8⟩ := h0
  have hr := hs.2.2.2.2.2.2.2.2 j hj
  have hrr := h1 j
  show gG w m 3 Wp (gwr h S) 0 0 [some (.ref 34), some (.int (iI x)), some (.int (iI a))] [] 0
  refine g_aload_n C 0 dX6_shard_0 rfl rfl ?_
  refine g_aload_n C 0 dX6_shard_1 rfl rfl ?_
  refine g_iload_n C 1 dX6_shard_2 rfl rfl ?_
  refine m_call C hS [_] _ (kX6_115 rfl) (c6_isShard_t hS x hx (by omega) (by omega)) rfl rfl (by decide) (Nat.le_refl _) (Nat.le_refl _) (Nat.le_of_ble_eq_true rfl) dX6_shard_3 ?_
  refine g_if_ne C 13 dX6_shard_6 (by decide) (by omega) (fun c6 => ?_) (fun c6 => ?_)
  · refine g_iload_n C 2 dX6_shard_13 rfl rfl ?_
    refine g_iconst C dX6_shard_14 ?_
    refine g_bipush C dX6_shard_15 (by decide) ?_
    refine m_callS C [_, _, _] _ (kX6_54 rfl) rfl (c6_in_t a 0 6 ha (by omega) (by omega) (by omega)) rfl rfl (by decide) (Nat.le_refl _) (Nat.le_refl _) (Nat.le_of_ble_eq_true rfl) dX6_shard_17 ?_
    refine g_if_ne C 27 dX6_shard_20 (by decide) (by omega) (fun c20 => ?_) (fun c20 => ?_)
    · refine g_iconst C dX6_shard_27 ?_
      refine m_call C hS [_] _ (kX6_75 rfl) (c6_ref0 hS) rfl rfl (by decide) (Nat.le_refl _) (Nat.le_refl _) (Nat.le_of_ble_eq_true rfl) dX6_shard_28 ?_
      refine g_if_eq C 36 dX6_shard_31 (by decide) (by omega) (fun c31 => ?_) (fun c31 => ?_)
      · refine g_iload_n C 2 dX6_shard_36 rfl rfl ?_
        obtain e | e | e | e | e | e | e : a = 0 ∨ a = 1 ∨ a = 2 ∨ a = 3 ∨ a = 4 ∨ a = 5 ∨ a = 6 := by omega
        · subst e
          refine g_tableIn C 76 dX6_shard_37 (by omega) (by omega) (by omega) rfl (by decide) ?_
          refine g_aload_n C 0 dX6_shard_76 rfl rfl ?_
          refine m_arr C hS 7 (by omega) (by omega) (fX6_33 rfl) rfl dX6_shard_77 ?_
          refine g_iload_n C 1 dX6_shard_80 rfl rfl ?_
          refine m_ialdv C hS (by omega) rfl (by omega) j (by omega) (by omega) (S 7 j) rfl dX6_shard_81 ?_
          exact g_iret C dX6_shard_82 (Nat.le_refl _) (Nat.le_refl _) ⟨rfl, rfl⟩
        · subst e
          refine g_tableIn C 83 dX6_shard_37 (by omega) (by omega) (by omega) rfl (by decide) ?_
          refine g_aload_n C 0 dX6_shard_83 rfl rfl ?_
          refine m_arr C hS 7 (by omega) (by omega) (fX6_33 rfl) rfl dX6_shard_84 ?_
          refine g_iload_n C 1 dX6_shard_87 rfl rfl ?_
          refine g_iconst C dX6_shard_88 ?_
          refine g_iadd C dX6_shard_89 ?_
          refine m_ialdv C hS (by omega) rfl (by omega) (j + 1) (by omega) (by omega) (S 7 (j + 1)) rfl dX6_shard_90 ?_
          refine g_iconst C dX6_shard_91 ?_
          refine g_isub C dX6_shard_92 ?_
          exact g_iret C dX6_shard_93 (Nat.le_refl _) (Nat.le_refl _) ⟨rfl, rfl⟩
        · subst e
          refine g_tableIn C 94 dX6_shard_37 (by omega) (by omega) (by omega) rfl (by decide) ?_
          refine g_aload_n C 0 dX6_shard_94 rfl rfl ?_
          refine m_arr C hS 8 (by omega) (by omega) (fX6_36 rfl) rfl dX6_shard_95 ?_
          refine g_iload_n C 1 dX6_shard_98 rfl rfl ?_
          refine m_ialdv C hS (by omega) rfl (by omega) j (by omega) (by omega) (S 8 j) rfl dX6_shard_99 ?_
          exact g_iret C dX6_shard_100 (Nat.le_refl _) (Nat.le_refl _) ⟨rfl, rfl⟩
        · subst e
          refine g_tableIn C 101 dX6_shard_37 (by omega) (by omega) (by omega) rfl (by decide) ?_
          refine g_aload_n C 0 dX6_shard_101 rfl rfl ?_
          refine m_arr C hS 9 (by omega) (by omega) (fX6_39 rfl) rfl dX6_shard_102 ?_
          refine g_iload_n C 1 dX6_shard_105 rfl rfl ?_
          refine m_ialdv C hS (by omega) rfl (by omega) j (by omega) (by omega) (S 9 j) rfl dX6_shard_106 ?_
          exact g_iret C dX6_shard_107 (Nat.le_refl _) (Nat.le_refl _) ⟨rfl, rfl⟩
        · subst e
          refine g_tableIn C 108 dX6_shard_37 (by omega) (by omega) (by omega) rfl (by decide) ?_
          refine g_aload_n C 0 dX6_shard_108 rfl rfl ?_
          refine g_iload_n C 1 dX6_shard_109 rfl rfl ?_
          refine m_call C hS [_] _ (kX6_65 rfl) (c6_sizeOf (S := su S 0 0 0) hS h1 x j he (by omega)) rfl rfl (by decide) (Nat.le_refl _) (Nat.le_refl _) (Nat.le_of_ble_eq_true rfl) dX6_shard_110 ?_
          exact g_iret C dX6_shard_113 (Nat.le_refl _) (Nat.le_refl _) ⟨rfl, rfl⟩
        · subst e
          refine g_tableIn C 114 dX6_shard_37 (by omega) (by omega) (by omega) rfl (by decide) ?_
          refine g_aload_n C 0 dX6_shard_114 rfl rfl ?_
          refine g_iload_n C 1 dX6_shard_115 rfl rfl ?_
          refine m_call C hS [_] _ (kX6_69 rfl) (c6_copied (S := su S 0 0 0) hS h1 x j he (by omega)) rfl rfl (by decide) (Nat.le_refl _) (Nat.le_refl _) (Nat.le_of_ble_eq_true rfl) dX6_shard_116 ?_
          exact g_iret C dX6_shard_119 (Nat.le_refl _) (Nat.le_refl _) ⟨rfl, rfl⟩
        · subst e
          refine g_tableOut C 120 dX6_shard_37 (by omega) (by omega) (by decide) ?_
          refine g_aload_n C 0 dX6_shard_120 rfl rfl ?_
          refine m_arr C hS 12 (by omega) (by omega) (fX6_48 rfl) rfl dX6_shard_121 ?_
          refine g_iload_n C 1 dX6_shard_124 rfl rfl ?_
          refine m_ialdv C hS (by omega) rfl (by omega) j (by omega) (by omega) (S 12 j) rfl dX6_shard_125 ?_
          exact g_iret C dX6_shard_126 (Nat.le_refl _) (Nat.le_refl _) ⟨rfl, rfl⟩
      · omega
    · omega
  · omega

end ME
