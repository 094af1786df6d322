/-! THE CLASS: its public methods, second half (rows laid by wip/whole/gen/x7.py) -/
/-- the row of a split, while it is moved on; and behind it -/
def ysf (s : Nat → Nat) (ns k : Nat) : Nat → Nat := fun i => if k < i ∧ i ≤ ns then s (i - 1) else s i
def ysp (s : Nat → Nat) (j ns : Nat) : Nat → Nat := fun i => if i = j + 1 then s ns else if j + 1 < i ∧ i ≤ ns then s (i - 1) else s i
theorem ysf_0 (s : Nat → Nat) (ns : Nat) : ysf s ns ns = s := by
  funext i; unfold ysf; rw [if_neg (by omega)]
theorem ysf_1 (s : Nat → Nat) {ns k : Nat} (h : 0 < k) (hk : k ≤ ns) : va_up (ysf s ns k) k (s (k - 1)) = ysf s ns (k - 1) := by
  funext i; unfold va_up ysf
  by_cases e : i = k
  · subst e; rw [if_pos rfl, if_pos (by omega)]
  · rw [if_neg e]
    by_cases e2 : k < i ∧ i ≤ ns
    · rw [if_pos e2, if_pos (by omega)]
    · rw [if_neg e2, if_neg (by omega)]
theorem ysf_2 (s : Nat → Nat) {ns j : Nat} : va_up (ysf s ns (j + 1)) (j + 1) (s ns) = ysp s j ns := by
  funext i; unfold va_up ysf ysp; rfl
/-- the row of a join, while it is moved down; and behind it -/
def yjf (s : Nat → Nat) (j k : Nat) : Nat → Nat := fun i => if j + 1 ≤ i ∧ i < k then s (i + 1) else s i
def yjn (s : Nat → Nat) (j ns : Nat) : Nat → Nat := fun i => if i = ns - 1 then s (j + 1) else if j + 1 ≤ i ∧ i < ns - 1 then s (i + 1) else s i
theorem yjf_0 (s : Nat → Nat) (j : Nat) : yjf s j (j + 1) = s := by
  funext i; unfold yjf; rw [if_neg (by omega)]
theorem yjf_1 (s : Nat → Nat) {j k : Nat} (hk : j + 1 ≤ k) : va_up (yjf s j k) k (s (k + 1)) = yjf s j (k + 1) := by
  funext i; unfold va_up yjf
  by_cases e : i = k
  · subst e; rw [if_pos rfl, if_pos (by omega)]
  · rw [if_neg e]
    by_cases e2 : j + 1 ≤ i ∧ i < k
    · rw [if_pos e2, if_pos (by omega)]
    · rw [if_neg e2, if_neg (by omega)]
theorem yjf_2 (s : Nat → Nat) {j ns : Nat} : va_up (yjf s j (ns - 1)) (ns - 1) (s (j + 1)) = yjn s j ns := by
  funext i; unfold va_up yjf yjn; rfl
/-- hours that pass -/
def ypas (Y : gS) (s : Nat → Nat) (nm ns : Nat) : Nat → gS
  | 0 => Y
  | k + 1 => yhour (ypas Y s nm ns k) s nm ns
def ypasB (Y : gS) (s : Nat → Nat) (nm ns : Nat) (B : List gOE) : Nat → List gOE
  | 0 => B
  | k + 1 => yhourB (ypas Y s nm ns k) s ns (ypasB Y s nm ns B k)
theorem yhour_0 (Y : gS) (s : Nat → Nat) (nm ns : Nat) {i : Nat} (h1 : i ≠ 11) (h2 : i ≠ 10) (h3 : i ≠ 8) : yhour Y s nm ns 0 i = Y 0 i := by
  rw [yhour, yhv_0, ydr_0, yW, ybl_fr _ 4 0 (by omega), (ypc_fr _ s ns).2 i h1 h2, su_ne (by omega)]
theorem ypas_0 (Y : gS) (s : Nat → Nat) (nm ns : Nat) {i : Nat} (h1 : i ≠ 11) (h2 : i ≠ 10) (h3 : i ≠ 8) : ∀ k, ypas Y s nm ns k 0 i = Y 0 i
  | 0 => rfl
  | k + 1 => by rw [ypas, yhour_0 _ s nm ns h1 h2 h3, ypas_0 Y s nm ns h1 h2 h3 k]
theorem yhour_8 (Y : gS) (s : Nat → Nat) (nm ns : Nat) : yhour Y s nm ns 0 8 = Y 0 8 + 1 := by
  rw [yhour, yhv_0, ydr_0, yW, ybl_fr _ 4 0 (by omega), (ypc_fr _ s ns).2 8 (by omega) (by omega), su_eq]
theorem ypas_8 (Y : gS) (s : Nat → Nat) (nm ns : Nat) : ∀ k : Nat, ypas Y s nm ns k 0 8 = Y 0 8 + k
  | 0 => by simp [ypas]
  | k + 1 => by rw [ypas, yhour_8, ypas_8 Y s nm ns k]; omega
section XH
variable {w : gW} {l : Launch} {Y : gS} {s : Nat → Nat} {A : List gCE} {B : List gOE}

set_option maxRecDepth 100000 in
set_option maxHeartbeats 4000000 in
theorem p5_split_1 (hfl : l.stackTraces = false) (key : Int) (hkey : (-2147483648 ≤ key ∧ key < 2147483648)) (hp : ¬ (0 ≤ key ∧ key < 1000)) : gXt w l yX5_split cX5_split 6 (some .int) [.ref 1, .int (iI key)] Y s A B "java/lang/IndexOutOfBoundsException" := by
  refine gXt_start (by decide +kernel) (by simp [Value.category]) (Nat.le_of_ble_eq_true rfl) (fun m Wp h C H F => ?_)
  obtain ⟨h0, hh0⟩ : ∃ h0, h0 = h := ⟨_, rfl⟩
  rw [← hh0] at C
  have F : FrX h0 h := by rw [hh0]; exact F
  show gG w m 6 Wp h 0 0 [some (.ref 1), some (.int (iI key)), none, none, none, none] [] 0
  refine g_aload_n C 0 dX5_split_0 rfl rfl ?_
  refine g_iload_n C 1 dX5_split_1 rfl rfl ?_
  refine x_call C H F [_] _ (kX5_104 rfl) (e5_isKey_f key hkey (by omega)) rfl rfl H.2.1.1 (by decide) (by omega) (by omega) (Nat.le_of_ble_eq_true rfl) dX5_split_2 (fun h H F => ?_)
  refine g_if_eq C 12 dX5_split_5 (by decide) (by omega) (fun c5 => ?_) (fun c5 => ?_)
  · exact g_throw C hfl (t_81_145 rfl) dX5_split_12 dX5_split_15 dX5_split_16 dX5_split_18 dX5_split_21 (by decide) (by omega) (by omega) (Nat.le_of_ble_eq_true rfl) (fun n hn => ⟨rfl, H.dead hn, F.tr (FrX.dead H.1 hn)⟩)
  · omega

set_option maxRecDepth 100000 in
set_option maxHeartbeats 4000000 in
theorem p5_split_1b (hfl : l.stackTraces = false) : gXt w l yX5_split cX5_split 6 (some .int) [.ref 1, .int (iI 0)] Y s A B "java/lang/IndexOutOfBoundsException" := by
  refine gXt_start (by decide +kernel) (by simp [Value.category]) (Nat.le_of_ble_eq_true rfl) (fun m Wp h C H F => ?_)
  obtain ⟨h0, hh0⟩ : ∃ h0, h0 = h := ⟨_, rfl⟩
  rw [← hh0] at C
  have F : FrX h0 h := by rw [hh0]; exact F
  have hkey : -2147483648 ≤ (0 : Int) ∧ (0 : Int) < 2147483648 := by omega
  show gG w m 6 Wp h 0 0 [some (.ref 1), some (.int (iI 0)), none, none, none, none] [] 0
  refine g_aload_n C 0 dX5_split_0 rfl rfl ?_
  refine g_iload_n C 1 dX5_split_1 rfl rfl ?_
  refine x_call C H F [_] _ (kX5_104 rfl) (e5_isKey_t 0 hkey (by omega)) rfl rfl H.2.1.1 (by decide) (by omega) (by omega) (Nat.le_of_ble_eq_true rfl) dX5_split_2 (fun h H F => ?_)
  refine g_if_eq C 12 dX5_split_5 (by decide) (by omega) (fun c5 => ?_) (fun c5 => ?_)
  · omega
  · refine g_iload_n C 1 dX5_split_8 rfl rfl ?_
    refine g_if_ne C 22 dX5_split_9 (by decide) (by omega) (fun c9 => ?_) (fun c9 => ?_)
    · omega
    · exact g_throw C hfl (t_81_145 rfl) dX5_split_12 dX5_split_15 dX5_split_16 dX5_split_18 dX5_split_21 (by decide) (by omega) (by omega) (Nat.le_of_ble_eq_true rfl) (fun n hn => ⟨rfl, H.dead hn, F.tr (FrX.dead H.1 hn)⟩)

set_option maxRecDepth 100000 in
set_option maxHeartbeats 4000000 in
theorem p5_split_2 (hfl : l.stackTraces = false) (key : Int) (hkey : (-2147483648 ≤ key ∧ key < 2147483648)) (ns : Nat) (hn : Y 0 7 = ns) (hns : ns ≤ 16) (j : Nat) (hj : j < ns) (hk0 : 0 ≤ key ∧ key < 1000) (hf : ∀ i, i < ns → 0 ≤ Y 10 (s i) ∧ Y 10 (s i) ≤ 1000) (hle : Y 10 (s j) ≤ key) (hgt : ∀ i, j < i → i < ns → key < Y 10 (s i)) (h0 : key ≠ 0) (hN : gNu Y) (hp : ¬ (Y 10 (s j) ≠ key ∧ Y 13 (s j) = 0 ∧ ns < 16)) : gXt w l yX5_split cX5_split 6 (some .int) [.ref 1, .int (iI key)] Y s A B "java/lang/IllegalStateException" := by
  refine gXt_start (by decide +kernel) (by simp [Value.category]) (Nat.le_of_ble_eq_true rfl) (fun m Wp h C H F => ?_)
  obtain ⟨h0, hh0⟩ : ∃ h0, h0 = h := ⟨_, rfl⟩
  rw [← hh0] at C
  have F : FrX h0 h := by rw [hh0]; exact F
  have hkx : key = (key.toNat : Int) := by omega
  have hkl : key.toNat < 1000 := by omega
  have hsj : s j < 16 := (H.2.2.1.2.2.2 j (by omega)).1
  show gG w m 6 Wp h 0 0 [some (.ref 1), some (.int (iI key)), none, none, none, none] [] 0
  refine g_aload_n C 0 dX5_split_0 rfl rfl ?_
  refine g_iload_n C 1 dX5_split_1 rfl rfl ?_
  refine x_call C H F [_] _ (kX5_104 rfl) (e5_isKey_t key hkey (by omega)) rfl rfl H.2.1.1 (by decide) (by omega) (by omega) (Nat.le_of_ble_eq_true rfl) dX5_split_2 (fun h H F => ?_)
  refine g_if_eq C 12 dX5_split_5 (by decide) (by omega) (fun c5 => ?_) (fun c5 => ?_)
  · omega
  · refine g_iload_n C 1 dX5_split_8 rfl rfl ?_
    refine g_if_ne C 22 dX5_split_9 (by decide) (by omega) (fun c9 => ?_) (fun c9 => ?_)
    · refine g_aload_n C 0 dX5_split_22 rfl rfl ?_
      refine g_iload_n C 1 dX5_split_23 rfl rfl ?_
      refine x_call C H F [_] _ (kX5_109 rfl) (e5_numberOfShardWith key hkey ns j hn hns hj hf hle hgt) rfl rfl H.2.1.1 (by decide) (by omega) (by omega) (Nat.le_of_ble_eq_true rfl) dX5_split_24 (fun h H F => ?_)
      refine s_istore_n (lo' := [_, _, _, _, _, _]) C 2 dX5_split_27 rfl (by decide) rfl ?_
      refine g_aload_n C 0 dX5_split_28 rfl rfl ?_
      refine x_rmain C H 17 (fX5_38 rfl) (by omega) dX5_split_29 ?_
      refine g_iload_n C 2 dX5_split_32 rfl rfl ?_
      refine x_shas C H j rfl (by omega) (s j) rfl dX5_split_33 ?_
      refine s_astore_n (lo' := [_, _, _, _, _, _]) C 3 dX5_split_34 rfl (by decide) rfl ?_
      refine g_aload_n C 3 dX5_split_35 rfl rfl ?_
      refine x_gsha C H hsj (by omega) (fX5_147 rfl) rfl (Y 10 (s j)) rfl dX5_split_36 ?_
      refine g_iload_n C 1 dX5_split_39 rfl rfl ?_
      refine g_icmp_eq C 59 dX5_split_40 (by decide) (by have := hf j hj; omega) (by omega) (fun c40 => ?_) (fun c40 => ?_)
      · exact g_throw C hfl (t_59_154 rfl) dX5_split_59 dX5_split_62 dX5_split_63 dX5_split_65 dX5_split_68 (by decide) (by omega) (by omega) (Nat.le_of_ble_eq_true rfl) (fun n hn => ⟨rfl, H.dead hn, F.tr (FrX.dead H.1 hn)⟩)
      · refine g_aload_n C 3 dX5_split_43 rfl rfl ?_
        refine x_call C H F [] _ (kX5_150 rfl) (e3_isMoving hsj hN) rfl rfl (H.2.1.2.2.2.2.2.2.2.2 _ hsj) (by decide) (by omega) (by omega) (Nat.le_of_ble_eq_true rfl) dX5_split_44 (fun h H F => ?_)
        refine g_if_ne C 59 dX5_split_47 (by decide) (bI_r _) (fun c47 => ?_) (fun c47 => ?_)
        · exact g_throw C hfl (t_59_154 rfl) dX5_split_59 dX5_split_62 dX5_split_63 dX5_split_65 dX5_split_68 (by decide) (by omega) (by omega) (Nat.le_of_ble_eq_true rfl) (fun n hn => ⟨rfl, H.dead hn, F.tr (FrX.dead H.1 hn)⟩)
        · refine g_aload_n C 0 dX5_split_50 rfl rfl ?_
          refine x_gmain C H (fX5_45 rfl) rfl ((ns : Int)) hn dX5_split_51 ?_
          refine g_bipush C dX5_split_54 (by decide) ?_
          refine g_icmp_lt C 69 dX5_split_56 (by decide) (by omega) (by omega) (fun c56 => ?_) (fun c56 => ?_)
          · exact absurd ⟨by assumption, Classical.byContradiction fun z => absurd (c47.symm.trans (bI_t z)) (by omega), by omega⟩ hp
          · exact g_throw C hfl (t_59_154 rfl) dX5_split_59 dX5_split_62 dX5_split_63 dX5_split_65 dX5_split_68 (by decide) (by omega) (by omega) (Nat.le_of_ble_eq_true rfl) (fun n hn => ⟨rfl, H.dead hn, F.tr (FrX.dead H.1 hn)⟩)
    · omega

set_option maxRecDepth 100000 in
set_option maxHeartbeats 4000000 in
theorem p5_split_3 (key : Int) (hkey : (-2147483648 ≤ key ∧ key < 2147483648)) (ns : Nat) (hn : Y 0 7 = ns) (hns : ns ≤ 16) (j : Nat) (hj : j < ns) (hk0 : 0 ≤ key ∧ key < 1000) (hf : ∀ i, i < ns → 0 ≤ Y 10 (s i) ∧ Y 10 (s i) ≤ 1000) (hle : Y 10 (s j) ≤ key) (hgt : ∀ i, j < i → i < ns → key < Y 10 (s i)) (h0 : key ≠ 0) (hN : gNu Y) (hp1 : Y 10 (s j) ≠ key) (hp2 : Y 13 (s j) = 0) (hp3 : ns < 16) (hne : s j ≠ s ns) (h11 : -1 ≤ Y 11 (s j) ∧ Y 11 (s j) ≤ 999) (h18 : 0 ≤ Y 18 (s j) ∧ Y 18 (s j) < 2147483648) : gXs w l yX5_split cX5_split 6 (some .int) 0 0 [.ref 1, .int (iI key)] Y s A B (some (.int (iI ((j : Int) + 1)))) ((ycut (su Y 0 7 (ns + 1)) (s j) (s ns) key)) (ysp s j ns) A B := by
  refine gXs_start (by decide +kernel) (by simp [Value.category]) (Nat.le_of_ble_eq_true rfl) (fun m Wp h C H F => ?_)
  obtain ⟨h0, hh0⟩ : ∃ h0, h0 = h := ⟨_, rfl⟩
  rw [← hh0] at C
  have F : FrX h0 h := by rw [hh0]; exact F
  have hkx : key = (key.toNat : Int) := by omega
  have hkl : key.toNat < 1000 := by omega
  have hsj : s j < 16 := (H.2.2.1.2.2.2 j (by omega)).1
  have hsa : ∀ i, i < 16 → s i < 16 := fun i hi => (H.2.2.1.2.2.2 i hi).1
  have h62 : (Y 12 (s j)).toNat ≤ 6 := x_z6 (i := 2) H hsj (by omega)
  have hsn : s ns < 16 := hsa ns (by omega)
  have L : ∀ (n k : Nat) (h : gH), k = j + 1 + n → k ≤ ns → RX Y (ysf s ns k) A B h → FrX h0 h → gG w m 6 Wp h 0 0 [some (.ref 1), some (.int (iI key)), some (.int (iI (j : Int))), some (.ref (18 + s j)), some (.ref (18 + s ns)), some (.int (iI (k : Int)))] [] 86 := by
    intro n
    induction n with
    | zero =>
      intro k h h1 h2 H F
      have e : k = j + 1 := by omega
      subst e
      refine g_iload C dX5_split_86 rfl ?_
      refine g_iload_n C 2 dX5_split_88 rfl rfl ?_
      refine g_iconst C dX5_split_89 ?_
      refine g_iadd C dX5_split_90 ?_
      refine g_icmp_le C 116 dX5_split_91 (by decide) (by omega) (by omega) (fun c91 => ?_) (fun c91 => ?_)
      · refine g_aload_n C 0 dX5_split_116 rfl rfl ?_
        refine x_rmain C H 17 (fX5_38 rfl) (by omega) dX5_split_117 ?_
        refine g_iload_n C 2 dX5_split_120 rfl rfl ?_
        refine g_iconst C dX5_split_121 ?_
        refine g_iadd C dX5_split_122 ?_
        refine g_aload C dX5_split_123 rfl ?_
        refine x_pshas C H F hsn (j + 1) rfl (by omega) dX5_split_125 (fun h H F => ?_)
        rw [ysf_2] at H
        refine g_aload_n C 0 dX5_split_126 rfl rfl ?_
        refine g_dup C dX5_split_127 rfl ?_
        refine x_gmain C H (fX5_45 rfl) rfl ((ns : Int)) hn dX5_split_128 ?_
        refine g_iconst C dX5_split_131 ?_
        refine g_iadd C dX5_split_132 ?_
        refine x_pmain C H F (fX5_45 rfl) rfl dX5_split_133 (fun h H F => ?_)
        refine g_aload_n C 0 dX5_split_136 rfl rfl ?_
        refine g_aload_n C 3 dX5_split_137 rfl rfl ?_
        refine g_aload C dX5_split_138 rfl ?_
        refine g_iload_n C 1 dX5_split_140 rfl rfl ?_
        refine x_call C H F [_, _, _] _ (kX5_156 rfl) (e5_cutInTwo (Y := su Y 0 7 ((ns : Int) + 1)) hsj hsn hne h62 key ⟨hk0.1, by omega⟩ h11 h18) rfl rfl H.2.1.1 (by decide) (by omega) (by omega) (Nat.le_of_ble_eq_true rfl) dX5_split_141 (fun h H F => ?_)
        refine g_iload_n C 2 dX5_split_144 rfl rfl ?_
        refine g_iconst C dX5_split_145 ?_
        refine g_iadd C dX5_split_146 ?_
        exact g_iret C dX5_split_147 (by omega) (by omega) ⟨rfl, H, F⟩
      · omega
    | succ n ih =>
      intro k h h1 h2 H F
      refine g_iload C dX5_split_86 rfl ?_
      refine g_iload_n C 2 dX5_split_88 rfl rfl ?_
      refine g_iconst C dX5_split_89 ?_
      refine g_iadd C dX5_split_90 ?_
      refine g_icmp_le C 116 dX5_split_91 (by decide) (by omega) (by omega) (fun c91 => ?_) (fun c91 => ?_)
      · omega
      · refine g_aload_n C 0 dX5_split_94 rfl rfl ?_
        refine x_rmain C H 17 (fX5_38 rfl) (by omega) dX5_split_95 ?_
        refine g_iload C dX5_split_98 rfl ?_
        refine g_aload_n C 0 dX5_split_100 rfl rfl ?_
        refine x_rmain C H 17 (fX5_38 rfl) (by omega) dX5_split_101 ?_
        refine g_iload C dX5_split_104 rfl ?_
        refine g_iconst C dX5_split_106 ?_
        refine g_isub C dX5_split_107 ?_
        refine x_shas C H (k - 1) (by omega) (by omega) (s (k - 1)) (by unfold ysf; rw [if_neg (by omega)]) dX5_split_108 ?_
        refine x_pshas C H F (hsa (k - 1) (by omega)) k (by omega) (by omega) dX5_split_109 (fun h H F => ?_)
        refine s_iinc (lo' := [_, _, _, _, _, _]) C dX5_split_110 rfl (by decide) rfl ?_
        refine g_goto C 86 dX5_split_113 (by decide) ?_
        rw [ysf_1 s (by omega) h2] at H
        exact g_as (ih (k - 1) _ (by omega) (by omega) H F) rfl (by rw [show ((k - 1 : Nat) : Int) = (k : Int) + -1 by omega]) rfl
  show gG w m 6 Wp h 0 0 [some (.ref 1), some (.int (iI key)), none, none, none, none] [] 0
  refine g_aload_n C 0 dX5_split_0 rfl rfl ?_
  refine g_iload_n C 1 dX5_split_1 rfl rfl ?_
  refine x_call C H F [_] _ (kX5_104 rfl) (e5_isKey_t key hkey (by omega)) rfl rfl H.2.1.1 (by decide) (by omega) (by omega) (Nat.le_of_ble_eq_true rfl) dX5_split_2 (fun h H F => ?_)
  refine g_if_eq C 12 dX5_split_5 (by decide) (by omega) (fun c5 => ?_) (fun c5 => ?_)
  · omega
  · refine g_iload_n C 1 dX5_split_8 rfl rfl ?_
    refine g_if_ne C 22 dX5_split_9 (by decide) (by omega) (fun c9 => ?_) (fun c9 => ?_)
    · refine g_aload_n C 0 dX5_split_22 rfl rfl ?_
      refine g_iload_n C 1 dX5_split_23 rfl rfl ?_
      refine x_call C H F [_] _ (kX5_109 rfl) (e5_numberOfShardWith key hkey ns j hn hns hj hf hle hgt) rfl rfl H.2.1.1 (by decide) (by omega) (by omega) (Nat.le_of_ble_eq_true rfl) dX5_split_24 (fun h H F => ?_)
      refine s_istore_n (lo' := [_, _, _, _, _, _]) C 2 dX5_split_27 rfl (by decide) rfl ?_
      refine g_aload_n C 0 dX5_split_28 rfl rfl ?_
      refine x_rmain C H 17 (fX5_38 rfl) (by omega) dX5_split_29 ?_
      refine g_iload_n C 2 dX5_split_32 rfl rfl ?_
      refine x_shas C H j rfl (by omega) (s j) rfl dX5_split_33 ?_
      refine s_astore_n (lo' := [_, _, _, _, _, _]) C 3 dX5_split_34 rfl (by decide) rfl ?_
      refine g_aload_n C 3 dX5_split_35 rfl rfl ?_
      refine x_gsha C H hsj (by omega) (fX5_147 rfl) rfl (Y 10 (s j)) rfl dX5_split_36 ?_
      refine g_iload_n C 1 dX5_split_39 rfl rfl ?_
      refine g_icmp_eq C 59 dX5_split_40 (by decide) (by have := hf j hj; omega) (by omega) (fun c40 => ?_) (fun c40 => ?_)
      · omega
      · refine g_aload_n C 3 dX5_split_43 rfl rfl ?_
        refine x_call C H F [] _ (kX5_150 rfl) (e3_isMoving_f hsj hN hp2) rfl rfl (H.2.1.2.2.2.2.2.2.2.2 _ hsj) (by decide) (by omega) (by omega) (Nat.le_of_ble_eq_true rfl) dX5_split_44 (fun h H F => ?_)
        refine g_if_ne C 59 dX5_split_47 (by decide) (by omega) (fun c47 => ?_) (fun c47 => ?_)
        · omega
        · refine g_aload_n C 0 dX5_split_50 rfl rfl ?_
          refine x_gmain C H (fX5_45 rfl) rfl ((ns : Int)) hn dX5_split_51 ?_
          refine g_bipush C dX5_split_54 (by decide) ?_
          refine g_icmp_lt C 69 dX5_split_56 (by decide) (by omega) (by omega) (fun c56 => ?_) (fun c56 => ?_)
          · refine g_aload_n C 0 dX5_split_69 rfl rfl ?_
            refine x_rmain C H 17 (fX5_38 rfl) (by omega) dX5_split_70 ?_
            refine g_aload_n C 0 dX5_split_73 rfl rfl ?_
            refine x_gmain C H (fX5_45 rfl) rfl ((ns : Int)) hn dX5_split_74 ?_
            refine x_shas C H ns (by omega) (by omega) (s ns) rfl dX5_split_77 ?_
            refine s_astore (lo' := [_, _, _, _, _, _]) C dX5_split_78 (by decide) rfl ?_
            refine g_aload_n C 0 dX5_split_80 rfl rfl ?_
            refine x_gmain C H (fX5_45 rfl) rfl ((ns : Int)) hn dX5_split_81 ?_
            refine s_istore (lo' := [_, _, _, _, _, _]) C dX5_split_84 (by decide) rfl ?_
            exact L (ns - (j + 1)) ns _ (by omega) (by omega) (by rw [ysf_0]; exact H) F
          · omega
    · omega

set_option maxRecDepth 100000 in
set_option maxHeartbeats 4000000 in
theorem p5_join_1 (hfl : l.stackTraces = false) (x : Int) (hx : (-2147483648 ≤ x ∧ x < 2147483648)) (ns : Nat) (hn : Y 0 7 = ns) (hns : ns ≤ 16) (hp : ¬ (0 ≤ x ∧ x < ns)) : gXt w l yX5_join cX5_join 5 (some .int) [.ref 1, .int (iI x)] Y s A B "java/lang/IndexOutOfBoundsException" := by
  refine gXt_start (by decide +kernel) (by simp [Value.category]) (Nat.le_of_ble_eq_true rfl) (fun m Wp h C H F => ?_)
  obtain ⟨h0, hh0⟩ : ∃ h0, h0 = h := ⟨_, rfl⟩
  rw [← hh0] at C
  have F : FrX h0 h := by rw [hh0]; exact F
  show gG w m 5 Wp h 0 0 [some (.ref 1), some (.int (iI x)), none, none, none] [] 0
  refine g_aload_n C 0 dX5_join_0 rfl rfl ?_
  refine g_iload_n C 1 dX5_join_1 rfl rfl ?_
  refine x_call C H F [_] _ (kX5_160 rfl) (e5_isShard_f x hx (by omega) (by omega)) rfl rfl H.2.1.1 (by decide) (by omega) (by omega) (Nat.le_of_ble_eq_true rfl) dX5_join_2 (fun h H F => ?_)
  refine g_if_ne C 18 dX5_join_5 (by decide) (by omega) (fun c5 => ?_) (fun c5 => ?_)
  · omega
  · exact g_throw C hfl (t_81_163 rfl) dX5_join_8 dX5_join_11 dX5_join_12 dX5_join_14 dX5_join_17 (by decide) (by omega) (by omega) (Nat.le_of_ble_eq_true rfl) (fun n hn => ⟨rfl, H.dead hn, F.tr (FrX.dead H.1 hn)⟩)

set_option maxRecDepth 100000 in
set_option maxHeartbeats 4000000 in
theorem p5_join_2a (hfl : l.stackTraces = false) (ns : Nat) (hn : Y 0 7 = ns) (hns : ns ≤ 16) (j : Nat) (hj : j < ns) (hp : ns = j + 1) : gXt w l yX5_join cX5_join 5 (some .int) [.ref 1, .int (iI (j : Int))] Y s A B "java/lang/IllegalStateException" := by
  refine gXt_start (by decide +kernel) (by simp [Value.category]) (Nat.le_of_ble_eq_true rfl) (fun m Wp h C H F => ?_)
  obtain ⟨h0, hh0⟩ : ∃ h0, h0 = h := ⟨_, rfl⟩
  rw [← hh0] at C
  have F : FrX h0 h := by rw [hh0]; exact F
  have hx : -2147483648 ≤ (j : Int) ∧ (j : Int) < 2147483648 := by omega
  have hx1 : -2147483648 ≤ (j : Int) + 1 ∧ (j : Int) + 1 < 2147483648 := by omega
  show gG w m 5 Wp h 0 0 [some (.ref 1), some (.int (iI (j : Int))), none, none, none] [] 0
  refine g_aload_n C 0 dX5_join_0 rfl rfl ?_
  refine g_iload_n C 1 dX5_join_1 rfl rfl ?_
  refine x_call C H F [_] _ (kX5_160 rfl) (e5_isShard_t ((j : Int)) hx (by omega) (by omega)) rfl rfl H.2.1.1 (by decide) (by omega) (by omega) (Nat.le_of_ble_eq_true rfl) dX5_join_2 (fun h H F => ?_)
  refine g_if_ne C 18 dX5_join_5 (by decide) (by omega) (fun c5 => ?_) (fun c5 => ?_)
  · refine g_aload_n C 0 dX5_join_18 rfl rfl ?_
    refine g_iload_n C 1 dX5_join_19 rfl rfl ?_
    refine g_iconst C dX5_join_20 ?_
    refine g_iadd C dX5_join_21 ?_
    refine x_call C H F [_] _ (kX5_160 rfl) (e5_isShard_f ((j : Int) + 1) hx1 (by omega) (by omega)) rfl rfl H.2.1.1 (by decide) (by omega) (by omega) (Nat.le_of_ble_eq_true rfl) dX5_join_22 (fun h H F => ?_)
    refine g_if_eq C 49 dX5_join_25 (by decide) (by omega) (fun c25 => ?_) (fun c25 => ?_)
    · exact g_throw C hfl (t_59_169 rfl) dX5_join_49 dX5_join_52 dX5_join_53 dX5_join_55 dX5_join_58 (by decide) (by omega) (by omega) (Nat.le_of_ble_eq_true rfl) (fun n hn => ⟨rfl, H.dead hn, F.tr (FrX.dead H.1 hn)⟩)
    · omega
  · omega

set_option maxRecDepth 100000 in
set_option maxHeartbeats 4000000 in
theorem p5_join_2b (hfl : l.stackTraces = false) (ns : Nat) (hn : Y 0 7 = ns) (hns : ns ≤ 16) (j : Nat) (hj : j < ns) (hj1 : j + 1 < ns) (hN : gNu Y) (hp : ¬ ((Y 12 (s j)).toNat = (Y 12 (s (j + 1))).toNat ∧ Y 13 (s j) = 0 ∧ Y 13 (s (j + 1)) = 0)) : gXt w l yX5_join cX5_join 5 (some .int) [.ref 1, .int (iI (j : Int))] Y s A B "java/lang/IllegalStateException" := by
  refine gXt_start (by decide +kernel) (by simp [Value.category]) (Nat.le_of_ble_eq_true rfl) (fun m Wp h C H F => ?_)
  obtain ⟨h0, hh0⟩ : ∃ h0, h0 = h := ⟨_, rfl⟩
  rw [← hh0] at C
  have F : FrX h0 h := by rw [hh0]; exact F
  have hx : -2147483648 ≤ (j : Int) ∧ (j : Int) < 2147483648 := by omega
  have hx1 : -2147483648 ≤ (j : Int) + 1 ∧ (j : Int) + 1 < 2147483648 := by omega
  have hsa : ∀ i, i < 16 → s i < 16 := fun i hi => (H.2.2.1.2.2.2 i hi).1
  have hq1 : s j < 16 := hsa j (by omega)
  have hq2 : s (j + 1) < 16 := hsa (j + 1) (by omega)
  have h61 : (Y 12 (s j)).toNat ≤ 6 := x_z6 (i := 2) H hq1 (by omega)
  have h62 : (Y 12 (s (j + 1))).toNat ≤ 6 := x_z6 (i := 2) H hq2 (by omega)
  have hb0 : bI ((Y 12 (s j)).toNat = (Y 12 (s (j + 1))).toNat ∧ Y 13 (s j) = 0 ∧ Y 13 (s (j + 1)) = 0) = 0 := bI_f hp
  show gG w m 5 Wp h 0 0 [some (.ref 1), some (.int (iI (j : Int))), none, none, none] [] 0
  refine g_aload_n C 0 dX5_join_0 rfl rfl ?_
  refine g_iload_n C 1 dX5_join_1 rfl rfl ?_
  refine x_call C H F [_] _ (kX5_160 rfl) (e5_isShard_t ((j : Int)) hx (by omega) (by omega)) rfl rfl H.2.1.1 (by decide) (by omega) (by omega) (Nat.le_of_ble_eq_true rfl) dX5_join_2 (fun h H F => ?_)
  refine g_if_ne C 18 dX5_join_5 (by decide) (by omega) (fun c5 => ?_) (fun c5 => ?_)
  · refine g_aload_n C 0 dX5_join_18 rfl rfl ?_
    refine g_iload_n C 1 dX5_join_19 rfl rfl ?_
    refine g_iconst C dX5_join_20 ?_
    refine g_iadd C dX5_join_21 ?_
    refine x_call C H F [_] _ (kX5_160 rfl) (e5_isShard_t ((j : Int) + 1) hx1 (by omega) (by omega)) rfl rfl H.2.1.1 (by decide) (by omega) (by omega) (Nat.le_of_ble_eq_true rfl) dX5_join_22 (fun h H F => ?_)
    refine g_if_eq C 49 dX5_join_25 (by decide) (by omega) (fun c25 => ?_) (fun c25 => ?_)
    · omega
    · refine g_aload_n C 0 dX5_join_28 rfl rfl ?_
      refine g_aload_n C 0 dX5_join_29 rfl rfl ?_
      refine x_rmain C H 17 (fX5_38 rfl) (by omega) dX5_join_30 ?_
      refine g_iload_n C 1 dX5_join_33 rfl rfl ?_
      refine x_shas C H j rfl (by omega) (s j) rfl dX5_join_34 ?_
      refine g_aload_n C 0 dX5_join_35 rfl rfl ?_
      refine x_rmain C H 17 (fX5_38 rfl) (by omega) dX5_join_36 ?_
      refine g_iload_n C 1 dX5_join_39 rfl rfl ?_
      refine g_iconst C dX5_join_40 ?_
      refine g_iadd C dX5_join_41 ?_
      refine x_shas C H (j + 1) rfl (by omega) (s (j + 1)) rfl dX5_join_42 ?_
      refine x_call C H F [_, _] _ (kX5_165 rfl) (e5_canBeJoined hq1 hq2 h61 h62 hN) rfl rfl H.2.1.1 (by decide) (by omega) (by omega) (Nat.le_of_ble_eq_true rfl) dX5_join_43 (fun h H F => ?_)
      refine g_if_ne C 59 dX5_join_46 (by decide) (bI_r _) (fun c46 => ?_) (fun c46 => ?_)
      · omega
      · exact g_throw C hfl (t_59_169 rfl) dX5_join_49 dX5_join_52 dX5_join_53 dX5_join_55 dX5_join_58 (by decide) (by omega) (by omega) (Nat.le_of_ble_eq_true rfl) (fun n hn => ⟨rfl, H.dead hn, F.tr (FrX.dead H.1 hn)⟩)
  · omega

set_option maxRecDepth 100000 in
set_option maxHeartbeats 4000000 in
theorem p5_join_3 (ns : Nat) (hn : Y 0 7 = ns) (hns : ns ≤ 16) (j : Nat) (hj : j < ns) (hj1 : j + 1 < ns) (hN : gNu Y) (hp : (Y 12 (s j)).toNat = (Y 12 (s (j + 1))).toNat ∧ Y 13 (s j) = 0 ∧ Y 13 (s (j + 1)) = 0) : gXs w l yX5_join cX5_join 5 (some .int) 0 0 [.ref 1, .int (iI (j : Int))] Y s A B (some (.int (iI ((ns : Int) - 1)))) ((su (su (su (su Y 11 (s j) (Y 11 (s (j + 1)))) 17 (s j) (Y 17 (s j) + Y 17 (s (j + 1)))) 18 (s j) (Y 18 (s j) + Y 18 (s (j + 1)))) 0 7 ((ns : Int) - 1))) (yjn s j ns) A B := by
  refine gXs_start (by decide +kernel) (by simp [Value.category]) (Nat.le_of_ble_eq_true rfl) (fun m Wp h C H F => ?_)
  obtain ⟨h0, hh0⟩ : ∃ h0, h0 = h := ⟨_, rfl⟩
  rw [← hh0] at C
  have F : FrX h0 h := by rw [hh0]; exact F
  have hx : -2147483648 ≤ (j : Int) ∧ (j : Int) < 2147483648 := by omega
  have hx1 : -2147483648 ≤ (j : Int) + 1 ∧ (j : Int) + 1 < 2147483648 := by omega
  have hsa : ∀ i, i < 16 → s i < 16 := fun i hi => (H.2.2.1.2.2.2 i hi).1
  have hq1 : s j < 16 := hsa j (by omega)
  have hq2 : s (j + 1) < 16 := hsa (j + 1) (by omega)
  have h61 : (Y 12 (s j)).toNat ≤ 6 := x_z6 (i := 2) H hq1 (by omega)
  have h62 : (Y 12 (s (j + 1))).toNat ≤ 6 := x_z6 (i := 2) H hq2 (by omega)
  have hb1 : bI ((Y 12 (s j)).toNat = (Y 12 (s (j + 1))).toNat ∧ Y 13 (s j) = 0 ∧ Y 13 (s (j + 1)) = 0) = 1 := bI_t hp
  have L : ∀ (n k : Nat) (h : gH), k + n = ns - 1 → j + 1 ≤ k → RX (su (su (su (su Y 11 (s j) (Y 11 (s (j + 1)))) 17 (s j) (Y 17 (s j) + Y 17 (s (j + 1)))) 18 (s j) (Y 18 (s j) + Y 18 (s (j + 1)))) 0 7 ((ns : Int) - 1)) (yjf s j k) A B h → FrX h0 h → gG w m 5 Wp h 0 0 [some (.ref 1), some (.int (iI (j : Int))), some (.ref (18 + s j)), some (.ref (18 + s (j + 1))), some (.int (iI (k : Int)))] [] 124 := by
    intro n
    induction n with
    | zero =>
      intro k h h1 h2 H F
      have e : k = ns - 1 := by omega
      subst e
      refine g_iload C dX5_join_124 rfl ?_
      refine g_aload_n C 0 dX5_join_126 rfl rfl ?_
      refine x_gmain C H (fX5_45 rfl) rfl ((ns : Int) - 1) rfl dX5_join_127 ?_
      refine g_icmp_ge C 155 dX5_join_130 (by decide) (by omega) (by omega) (fun c130 => ?_) (fun c130 => ?_)
      · refine g_aload_n C 0 dX5_join_155 rfl rfl ?_
        refine x_rmain C H 17 (fX5_38 rfl) (by omega) dX5_join_156 ?_
        refine g_aload_n C 0 dX5_join_159 rfl rfl ?_
        refine x_gmain C H (fX5_45 rfl) rfl ((ns : Int) - 1) rfl dX5_join_160 ?_
        refine g_aload_n C 3 dX5_join_163 rfl rfl ?_
        refine x_pshas C H F hq2 (ns - 1) (by omega) (by omega) dX5_join_164 (fun h H F => ?_)
        refine g_aload_n C 0 dX5_join_165 rfl rfl ?_
        refine x_gmain C H (fX5_45 rfl) rfl ((ns : Int) - 1) rfl dX5_join_166 ?_
        exact g_iret C dX5_join_169 (by omega) (by omega) ⟨rfl, by rw [yjf_2] at H; exact H, F⟩
      · omega
    | succ n ih =>
      intro k h h1 h2 H F
      refine g_iload C dX5_join_124 rfl ?_
      refine g_aload_n C 0 dX5_join_126 rfl rfl ?_
      refine x_gmain C H (fX5_45 rfl) rfl ((ns : Int) - 1) rfl dX5_join_127 ?_
      refine g_icmp_ge C 155 dX5_join_130 (by decide) (by omega) (by omega) (fun c130 => ?_) (fun c130 => ?_)
      · omega
      · refine g_aload_n C 0 dX5_join_133 rfl rfl ?_
        refine x_rmain C H 17 (fX5_38 rfl) (by omega) dX5_join_134 ?_
        refine g_iload C dX5_join_137 rfl ?_
        refine g_aload_n C 0 dX5_join_139 rfl rfl ?_
        refine x_rmain C H 17 (fX5_38 rfl) (by omega) dX5_join_140 ?_
        refine g_iload C dX5_join_143 rfl ?_
        refine g_iconst C dX5_join_145 ?_
        refine g_iadd C dX5_join_146 ?_
        refine x_shas C H (k + 1) (by omega) (by omega) (s (k + 1)) (by unfold yjf; rw [if_neg (by omega)]) dX5_join_147 ?_
        refine x_pshas C H F (hsa (k + 1) (by omega)) k (by omega) (by omega) dX5_join_148 (fun h H F => ?_)
        refine s_iinc (lo' := [_, _, _, _, _]) C dX5_join_149 rfl (by decide) rfl ?_
        refine g_goto C 124 dX5_join_152 (by decide) ?_
        rw [yjf_1 s h2] at H
        exact ih (k + 1) _ (by omega) (by omega) H F
  show gG w m 5 Wp h 0 0 [some (.ref 1), some (.int (iI (j : Int))), none, none, none] [] 0
  refine g_aload_n C 0 dX5_join_0 rfl rfl ?_
  refine g_iload_n C 1 dX5_join_1 rfl rfl ?_
  refine x_call C H F [_] _ (kX5_160 rfl) (e5_isShard_t ((j : Int)) hx (by omega) (by omega)) rfl rfl H.2.1.1 (by decide) (by omega) (by omega) (Nat.le_of_ble_eq_true rfl) dX5_join_2 (fun h H F => ?_)
  refine g_if_ne C 18 dX5_join_5 (by decide) (by omega) (fun c5 => ?_) (fun c5 => ?_)
  · refine g_aload_n C 0 dX5_join_18 rfl rfl ?_
    refine g_iload_n C 1 dX5_join_19 rfl rfl ?_
    refine g_iconst C dX5_join_20 ?_
    refine g_iadd C dX5_join_21 ?_
    refine x_call C H F [_] _ (kX5_160 rfl) (e5_isShard_t ((j : Int) + 1) hx1 (by omega) (by omega)) rfl rfl H.2.1.1 (by decide) (by omega) (by omega) (Nat.le_of_ble_eq_true rfl) dX5_join_22 (fun h H F => ?_)
    refine g_if_eq C 49 dX5_join_25 (by decide) (by omega) (fun c25 => ?_) (fun c25 => ?_)
    · omega
    · refine g_aload_n C 0 dX5_join_28 rfl rfl ?_
      refine g_aload_n C 0 dX5_join_29 rfl rfl ?_
      refine x_rmain C H 17 (fX5_38 rfl) (by omega) dX5_join_30 ?_
      refine g_iload_n C 1 dX5_join_33 rfl rfl ?_
      refine x_shas C H j rfl (by omega) (s j) rfl dX5_join_34 ?_
      refine g_aload_n C 0 dX5_join_35 rfl rfl ?_
      refine x_rmain C H 17 (fX5_38 rfl) (by omega) dX5_join_36 ?_
      refine g_iload_n C 1 dX5_join_39 rfl rfl ?_
      refine g_iconst C dX5_join_40 ?_
      refine g_iadd C dX5_join_41 ?_
      refine x_shas C H (j + 1) rfl (by omega) (s (j + 1)) rfl dX5_join_42 ?_
      refine x_call C H F [_, _] _ (kX5_165 rfl) (e5_canBeJoined hq1 hq2 h61 h62 hN) rfl rfl H.2.1.1 (by decide) (by omega) (by omega) (Nat.le_of_ble_eq_true rfl) dX5_join_43 (fun h H F => ?_)
      refine g_if_ne C 59 dX5_join_46 (by decide) (bI_r _) (fun c46 => ?_) (fun c46 => ?_)
      · refine g_aload_n C 0 dX5_join_59 rfl rfl ?_
        refine x_rmain C H 17 (fX5_38 rfl) (by omega) dX5_join_60 ?_
        refine g_iload_n C 1 dX5_join_63 rfl rfl ?_
        refine x_shas C H j rfl (by omega) (s j) rfl dX5_join_64 ?_
        refine s_astore_n (lo' := [_, _, _, _, _]) C 2 dX5_join_65 rfl (by decide) rfl ?_
        refine g_aload_n C 0 dX5_join_66 rfl rfl ?_
        refine x_rmain C H 17 (fX5_38 rfl) (by omega) dX5_join_67 ?_
        refine g_iload_n C 1 dX5_join_70 rfl rfl ?_
        refine g_iconst C dX5_join_71 ?_
        refine g_iadd C dX5_join_72 ?_
        refine x_shas C H (j + 1) rfl (by omega) (s (j + 1)) rfl dX5_join_73 ?_
        refine s_astore_n (lo' := [_, _, _, _, _]) C 3 dX5_join_74 rfl (by decide) rfl ?_
        refine g_aload_n C 2 dX5_join_75 rfl rfl ?_
        refine g_aload_n C 3 dX5_join_76 rfl rfl ?_
        refine x_gsha C H hq2 (by omega) (fX5_171 rfl) rfl (Y 11 (s (j + 1))) rfl dX5_join_77 ?_
        refine x_psha C H F hq1 (by omega) (fX5_171 rfl) rfl dX5_join_80 (fun h H F => ?_)
        refine g_aload_n C 2 dX5_join_83 rfl rfl ?_
        refine g_dup C dX5_join_84 rfl ?_
        refine x_gsha C H hq1 (by omega) (fX5_174 rfl) rfl (Y 17 (s j)) rfl dX5_join_85 ?_
        refine g_aload_n C 3 dX5_join_88 rfl rfl ?_
        refine x_gsha C H hq2 (by omega) (fX5_174 rfl) rfl (Y 17 (s (j + 1))) rfl dX5_join_89 ?_
        refine g_iadd C dX5_join_92 ?_
        refine x_psha C H F hq1 (by omega) (fX5_174 rfl) rfl dX5_join_93 (fun h H F => ?_)
        refine g_aload_n C 2 dX5_join_96 rfl rfl ?_
        refine g_dup C dX5_join_97 rfl ?_
        refine x_gsha C H hq1 (by omega) (fX5_142 rfl) rfl (Y 18 (s j)) rfl dX5_join_98 ?_
        refine g_aload_n C 3 dX5_join_101 rfl rfl ?_
        refine x_gsha C H hq2 (by omega) (fX5_142 rfl) rfl (Y 18 (s (j + 1))) rfl dX5_join_102 ?_
        refine g_iadd C dX5_join_105 ?_
        refine x_psha C H F hq1 (by omega) (fX5_142 rfl) rfl dX5_join_106 (fun h H F => ?_)
        refine g_aload_n C 0 dX5_join_109 rfl rfl ?_
        refine g_dup C dX5_join_110 rfl ?_
        refine x_gmain C H (fX5_45 rfl) rfl ((ns : Int)) hn dX5_join_111 ?_
        refine g_iconst C dX5_join_114 ?_
        refine g_isub C dX5_join_115 ?_
        refine x_pmain C H F (fX5_45 rfl) rfl dX5_join_116 (fun h H F => ?_)
        refine g_iload_n C 1 dX5_join_119 rfl rfl ?_
        refine g_iconst C dX5_join_120 ?_
        refine g_iadd C dX5_join_121 ?_
        refine s_istore (lo' := [_, _, _, _, _]) C dX5_join_122 (by decide) rfl ?_
        exact L (ns - 1 - (j + 1)) (j + 1) _ (by omega) (by omega) (by rw [yjf_0]; exact H) F
      · omega
  · omega

set_option maxRecDepth 100000 in
set_option maxHeartbeats 4000000 in
theorem p5_move_1 (hfl : l.stackTraces = false) (x : Int) (hx : (-2147483648 ≤ x ∧ x < 2147483648)) (z : Int) (hz : (-2147483648 ≤ z ∧ z < 2147483648)) (ns : Nat) (hn : Y 0 7 = ns) (hns : ns ≤ 16) (hp : ¬ (0 ≤ x ∧ x < ns)) : gXt w l yX5_move cX5_move 5 (some .int) [.ref 1, .int (iI x), .int (iI z)] Y s A B "java/lang/IndexOutOfBoundsException" := by
  refine gXt_start (by decide +kernel) (by simp [Value.category]) (Nat.le_of_ble_eq_true rfl) (fun m Wp h C H F => ?_)
  obtain ⟨h0, hh0⟩ : ∃ h0, h0 = h := ⟨_, rfl⟩
  rw [← hh0] at C
  have F : FrX h0 h := by rw [hh0]; exact F
  show gG w m 5 Wp h 0 0 [some (.ref 1), some (.int (iI x)), some (.int (iI z)), none, none] [] 0
  refine g_aload_n C 0 dX5_move_0 rfl rfl ?_
  refine g_iload_n C 1 dX5_move_1 rfl rfl ?_
  refine x_call C H F [_] _ (kX5_160 rfl) (e5_isShard_f x hx (by omega) (by omega)) rfl rfl H.2.1.1 (by decide) (by omega) (by omega) (Nat.le_of_ble_eq_true rfl) dX5_move_2 (fun h H F => ?_)
  refine g_if_eq C 16 dX5_move_5 (by decide) (by omega) (fun c5 => ?_) (fun c5 => ?_)
  · exact g_throw C hfl (t_81_175 rfl) dX5_move_16 dX5_move_19 dX5_move_20 dX5_move_22 dX5_move_25 (by decide) (by omega) (by omega) (Nat.le_of_ble_eq_true rfl) (fun n hn => ⟨rfl, H.dead hn, F.tr (FrX.dead H.1 hn)⟩)
  · omega

set_option maxRecDepth 100000 in
set_option maxHeartbeats 4000000 in
theorem p5_move_1b (hfl : l.stackTraces = false) (x : Int) (hx : (-2147483648 ≤ x ∧ x < 2147483648)) (z : Int) (hz : (-2147483648 ≤ z ∧ z < 2147483648)) (ns : Nat) (hn : Y 0 7 = ns) (hns : ns ≤ 16) (nm : Nat) (hm : Y 0 5 = nm) (hnm : nm ≤ 6) (hp : 0 ≤ x ∧ x < ns) (hq : ¬ (0 ≤ z ∧ z < nm)) : gXt w l yX5_move cX5_move 5 (some .int) [.ref 1, .int (iI x), .int (iI z)] Y s A B "java/lang/IndexOutOfBoundsException" := by
  refine gXt_start (by decide +kernel) (by simp [Value.category]) (Nat.le_of_ble_eq_true rfl) (fun m Wp h C H F => ?_)
  obtain ⟨h0, hh0⟩ : ∃ h0, h0 = h := ⟨_, rfl⟩
  rw [← hh0] at C
  have F : FrX h0 h := by rw [hh0]; exact F
  show gG w m 5 Wp h 0 0 [some (.ref 1), some (.int (iI x)), some (.int (iI z)), none, none] [] 0
  refine g_aload_n C 0 dX5_move_0 rfl rfl ?_
  refine g_iload_n C 1 dX5_move_1 rfl rfl ?_
  refine x_call C H F [_] _ (kX5_160 rfl) (e5_isShard_t x hx (by omega) (by omega)) rfl rfl H.2.1.1 (by decide) (by omega) (by omega) (Nat.le_of_ble_eq_true rfl) dX5_move_2 (fun h H F => ?_)
  refine g_if_eq C 16 dX5_move_5 (by decide) (by omega) (fun c5 => ?_) (fun c5 => ?_)
  · omega
  · refine g_aload_n C 0 dX5_move_8 rfl rfl ?_
    refine g_iload_n C 2 dX5_move_9 rfl rfl ?_
    refine x_call C H F [_] _ (kX5_77 rfl) (e5_isMachine_f z hz (by omega) (by omega)) rfl rfl H.2.1.1 (by decide) (by omega) (by omega) (Nat.le_of_ble_eq_true rfl) dX5_move_10 (fun h H F => ?_)
    refine g_if_ne C 26 dX5_move_13 (by decide) (by omega) (fun c13 => ?_) (fun c13 => ?_)
    · omega
    · exact g_throw C hfl (t_81_175 rfl) dX5_move_16 dX5_move_19 dX5_move_20 dX5_move_22 dX5_move_25 (by decide) (by omega) (by omega) (Nat.le_of_ble_eq_true rfl) (fun n hn => ⟨rfl, H.dead hn, F.tr (FrX.dead H.1 hn)⟩)

set_option maxRecDepth 100000 in
set_option maxHeartbeats 4000000 in
theorem p5_move_2 (hfl : l.stackTraces = false) (ns : Nat) (hn : Y 0 7 = ns) (hns : ns ≤ 16) (j : Nat) (hj : j < ns) (nm : Nat) (hm : Y 0 5 = nm) (hnm : nm ≤ 6) (mi : Nat) (hmi : mi < nm) (hu1 : Y 3 (Y 12 (s j)).toNat = 0 ∨ Y 3 (Y 12 (s j)).toNat = 1) (hu2 : Y 3 (mi + 1) = 0 ∨ Y 3 (mi + 1) = 1) (hN : gNu Y) (hp : ¬ ((Y 12 (s j)).toNat ≠ mi + 1 ∧ Y 13 (s j) = 0 ∧ Y 3 (Y 12 (s j)).toNat = 1 ∧ Y 3 (mi + 1) = 1)) : gXt w l yX5_move cX5_move 5 (some .int) [.ref 1, .int (iI (j : Int)), .int (iI (mi : Int))] Y s A B "java/lang/IllegalStateException" := by
  refine gXt_start (by decide +kernel) (by simp [Value.category]) (Nat.le_of_ble_eq_true rfl) (fun m Wp h C H F => ?_)
  obtain ⟨h0, hh0⟩ : ∃ h0, h0 = h := ⟨_, rfl⟩
  rw [← hh0] at C
  have F : FrX h0 h := by rw [hh0]; exact F
  have hx : -2147483648 ≤ (j : Int) ∧ (j : Int) < 2147483648 := by omega
  have hz : -2147483648 ≤ (mi : Int) ∧ (mi : Int) < 2147483648 := by omega
  have hq1 : s j < 16 := (H.2.2.1.2.2.2 j (by omega)).1
  have h61 : (Y 12 (s j)).toNat ≤ 6 := x_z6 (i := 2) H hq1 (by omega)
  have hm6 : mi + 1 ≤ 6 := by omega
  show gG w m 5 Wp h 0 0 [some (.ref 1), some (.int (iI (j : Int))), some (.int (iI (mi : Int))), none, none] [] 0
  refine g_aload_n C 0 dX5_move_0 rfl rfl ?_
  refine g_iload_n C 1 dX5_move_1 rfl rfl ?_
  refine x_call C H F [_] _ (kX5_160 rfl) (e5_isShard_t ((j : Int)) hx (by omega) (by omega)) rfl rfl H.2.1.1 (by decide) (by omega) (by omega) (Nat.le_of_ble_eq_true rfl) dX5_move_2 (fun h H F => ?_)
  refine g_if_eq C 16 dX5_move_5 (by decide) (by omega) (fun c5 => ?_) (fun c5 => ?_)
  · omega
  · refine g_aload_n C 0 dX5_move_8 rfl rfl ?_
    refine g_iload_n C 2 dX5_move_9 rfl rfl ?_
    refine x_call C H F [_] _ (kX5_77 rfl) (e5_isMachine_t (mi : Int) hz (by omega) (by omega)) rfl rfl H.2.1.1 (by decide) (by omega) (by omega) (Nat.le_of_ble_eq_true rfl) dX5_move_10 (fun h H F => ?_)
    refine g_if_ne C 26 dX5_move_13 (by decide) (by omega) (fun c13 => ?_) (fun c13 => ?_)
    · refine g_aload_n C 0 dX5_move_26 rfl rfl ?_
      refine x_rmain C H 17 (fX5_38 rfl) (by omega) dX5_move_27 ?_
      refine g_iload_n C 1 dX5_move_30 rfl rfl ?_
      refine x_shas C H j rfl (by omega) (s j) rfl dX5_move_31 ?_
      refine s_astore_n (lo' := [_, _, _, _, _]) C 3 dX5_move_32 rfl (by decide) rfl ?_
      refine g_aload_n C 0 dX5_move_33 rfl rfl ?_
      refine x_rmain C H 10 (fX5_32 rfl) (by omega) dX5_move_34 ?_
      refine g_iload_n C 2 dX5_move_37 rfl rfl ?_
      refine x_macs C H mi rfl (by omega) dX5_move_38 ?_
      refine s_astore (lo' := [_, _, _, _, _]) C dX5_move_39 (by decide) rfl ?_
      refine g_aload_n C 3 dX5_move_41 rfl rfl ?_
      refine x_ghome C H hq1 (by omega) (fX5_117 rfl) rfl ((Y 12 (s j)).toNat) rfl dX5_move_42 ?_
      refine g_aload C dX5_move_45 rfl ?_
      refine x_acmp_eq C h61 hm6 75 dX5_move_47 (by decide) (fun c47 => ?_) (fun c47 => ?_)
      · exact g_throw C hfl (t_59_177 rfl) dX5_move_75 dX5_move_78 dX5_move_79 dX5_move_81 dX5_move_84 (by decide) (by omega) (by omega) (Nat.le_of_ble_eq_true rfl) (fun n hn => ⟨rfl, H.dead hn, F.tr (FrX.dead H.1 hn)⟩)
      · refine g_aload_n C 3 dX5_move_50 rfl rfl ?_
        refine x_call C H F [] _ (kX5_150 rfl) (e3_isMoving hq1 hN) rfl rfl (H.2.1.2.2.2.2.2.2.2.2 _ hq1) (by decide) (by omega) (by omega) (Nat.le_of_ble_eq_true rfl) dX5_move_51 (fun h H F => ?_)
        refine g_if_ne C 75 dX5_move_54 (by decide) (bI_r _) (fun c54 => ?_) (fun c54 => ?_)
        · exact g_throw C hfl (t_59_177 rfl) dX5_move_75 dX5_move_78 dX5_move_79 dX5_move_81 dX5_move_84 (by decide) (by omega) (by omega) (Nat.le_of_ble_eq_true rfl) (fun n hn => ⟨rfl, H.dead hn, F.tr (FrX.dead H.1 hn)⟩)
        · refine g_aload_n C 3 dX5_move_57 rfl rfl ?_
          refine x_ghome C H hq1 (by omega) (fX5_117 rfl) rfl ((Y 12 (s j)).toNat) rfl dX5_move_58 ?_
          refine x_gmac C H h61 (by omega) (fX5_67 rfl) (Y 3 (Y 12 (s j)).toNat) rfl dX5_move_61 ?_
          refine g_if_eq C 75 dX5_move_64 (by decide) (gd01 hu1) (fun c64 => ?_) (fun c64 => ?_)
          · exact g_throw C hfl (t_59_177 rfl) dX5_move_75 dX5_move_78 dX5_move_79 dX5_move_81 dX5_move_84 (by decide) (by omega) (by omega) (Nat.le_of_ble_eq_true rfl) (fun n hn => ⟨rfl, H.dead hn, F.tr (FrX.dead H.1 hn)⟩)
          · refine g_aload C dX5_move_67 rfl ?_
            refine x_gmac C H hm6 (by omega) (fX5_67 rfl) (Y 3 (mi + 1)) rfl dX5_move_69 ?_
            refine g_if_ne C 85 dX5_move_72 (by decide) (gd01 hu2) (fun c72 => ?_) (fun c72 => ?_)
            · exact absurd ⟨c47, Classical.byContradiction fun z => absurd (c54.symm.trans (bI_t z)) (by omega), by omega, by omega⟩ hp
            · exact g_throw C hfl (t_59_177 rfl) dX5_move_75 dX5_move_78 dX5_move_79 dX5_move_81 dX5_move_84 (by decide) (by omega) (by omega) (Nat.le_of_ble_eq_true rfl) (fun n hn => ⟨rfl, H.dead hn, F.tr (FrX.dead H.1 hn)⟩)
    · omega

set_option maxRecDepth 100000 in
set_option maxHeartbeats 4000000 in
theorem p5_move_3 (ns : Nat) (hn : Y 0 7 = ns) (hns : ns ≤ 16) (j : Nat) (hj : j < ns) (nm : Nat) (hm : Y 0 5 = nm) (hnm : nm ≤ 6) (mi : Nat) (hmi : mi < nm) (hu1 : Y 3 (Y 12 (s j)).toNat = 0 ∨ Y 3 (Y 12 (s j)).toNat = 1) (hu2 : Y 3 (mi + 1) = 0 ∨ Y 3 (mi + 1) = 1) (hN : gNu Y) (hp1 : (Y 12 (s j)).toNat ≠ mi + 1) (hp2 : Y 13 (s j) = 0) (hp3 : Y 3 (Y 12 (s j)).toNat = 1) (hp4 : Y 3 (mi + 1) = 1) : gXs w l yX5_move cX5_move 5 (some .int) 0 0 [.ref 1, .int (iI (j : Int)), .int (iI (mi : Int))] Y s A B (some (.int (iI (Y 17 (s j))))) (yaim Y (s j) (mi + 1)) s A B := by
  refine gXs_start (by decide +kernel) (by simp [Value.category]) (Nat.le_of_ble_eq_true rfl) (fun m Wp h C H F => ?_)
  obtain ⟨h0, hh0⟩ : ∃ h0, h0 = h := ⟨_, rfl⟩
  rw [← hh0] at C
  have F : FrX h0 h := by rw [hh0]; exact F
  have hx : -2147483648 ≤ (j : Int) ∧ (j : Int) < 2147483648 := by omega
  have hz : -2147483648 ≤ (mi : Int) ∧ (mi : Int) < 2147483648 := by omega
  have hq1 : s j < 16 := (H.2.2.1.2.2.2 j (by omega)).1
  have h61 : (Y 12 (s j)).toNat ≤ 6 := x_z6 (i := 2) H hq1 (by omega)
  have hm6 : mi + 1 ≤ 6 := by omega
  show gG w m 5 Wp h 0 0 [some (.ref 1), some (.int (iI (j : Int))), some (.int (iI (mi : Int))), none, none] [] 0
  refine g_aload_n C 0 dX5_move_0 rfl rfl ?_
  refine g_iload_n C 1 dX5_move_1 rfl rfl ?_
  refine x_call C H F [_] _ (kX5_160 rfl) (e5_isShard_t ((j : Int)) hx (by omega) (by omega)) rfl rfl H.2.1.1 (by decide) (by omega) (by omega) (Nat.le_of_ble_eq_true rfl) dX5_move_2 (fun h H F => ?_)
  refine g_if_eq C 16 dX5_move_5 (by decide) (by omega) (fun c5 => ?_) (fun c5 => ?_)
  · omega
  · refine g_aload_n C 0 dX5_move_8 rfl rfl ?_
    refine g_iload_n C 2 dX5_move_9 rfl rfl ?_
    refine x_call C H F [_] _ (kX5_77 rfl) (e5_isMachine_t (mi : Int) hz (by omega) (by omega)) rfl rfl H.2.1.1 (by decide) (by omega) (by omega) (Nat.le_of_ble_eq_true rfl) dX5_move_10 (fun h H F => ?_)
    refine g_if_ne C 26 dX5_move_13 (by decide) (by omega) (fun c13 => ?_) (fun c13 => ?_)
    · refine g_aload_n C 0 dX5_move_26 rfl rfl ?_
      refine x_rmain C H 17 (fX5_38 rfl) (by omega) dX5_move_27 ?_
      refine g_iload_n C 1 dX5_move_30 rfl rfl ?_
      refine x_shas C H j rfl (by omega) (s j) rfl dX5_move_31 ?_
      refine s_astore_n (lo' := [_, _, _, _, _]) C 3 dX5_move_32 rfl (by decide) rfl ?_
      refine g_aload_n C 0 dX5_move_33 rfl rfl ?_
      refine x_rmain C H 10 (fX5_32 rfl) (by omega) dX5_move_34 ?_
      refine g_iload_n C 2 dX5_move_37 rfl rfl ?_
      refine x_macs C H mi rfl (by omega) dX5_move_38 ?_
      refine s_astore (lo' := [_, _, _, _, _]) C dX5_move_39 (by decide) rfl ?_
      refine g_aload_n C 3 dX5_move_41 rfl rfl ?_
      refine x_ghome C H hq1 (by omega) (fX5_117 rfl) rfl ((Y 12 (s j)).toNat) rfl dX5_move_42 ?_
      refine g_aload C dX5_move_45 rfl ?_
      refine x_acmp_eq C h61 hm6 75 dX5_move_47 (by decide) (fun c47 => ?_) (fun c47 => ?_)
      · exact absurd c47 hp1
      · refine g_aload_n C 3 dX5_move_50 rfl rfl ?_
        refine x_call C H F [] _ (kX5_150 rfl) (e3_isMoving_f hq1 hN hp2) rfl rfl (H.2.1.2.2.2.2.2.2.2.2 _ hq1) (by decide) (by omega) (by omega) (Nat.le_of_ble_eq_true rfl) dX5_move_51 (fun h H F => ?_)
        refine g_if_ne C 75 dX5_move_54 (by decide) (by omega) (fun c54 => ?_) (fun c54 => ?_)
        · omega
        · refine g_aload_n C 3 dX5_move_57 rfl rfl ?_
          refine x_ghome C H hq1 (by omega) (fX5_117 rfl) rfl ((Y 12 (s j)).toNat) rfl dX5_move_58 ?_
          refine x_gmac C H h61 (by omega) (fX5_67 rfl) (Y 3 (Y 12 (s j)).toNat) rfl dX5_move_61 ?_
          refine g_if_eq C 75 dX5_move_64 (by decide) (gd01 hu1) (fun c64 => ?_) (fun c64 => ?_)
          · omega
          · refine g_aload C dX5_move_67 rfl ?_
            refine x_gmac C H hm6 (by omega) (fX5_67 rfl) (Y 3 (mi + 1)) rfl dX5_move_69 ?_
            refine g_if_ne C 85 dX5_move_72 (by decide) (gd01 hu2) (fun c72 => ?_) (fun c72 => ?_)
            · refine g_aload_n C 3 dX5_move_85 rfl rfl ?_
              refine g_aload C dX5_move_86 rfl ?_
              refine x_call C H F [_] _ (kX5_179 rfl) (e3_aimAt hq1 hm6) rfl rfl (H.2.1.2.2.2.2.2.2.2.2 _ hq1) (by decide) (by omega) (by omega) (Nat.le_of_ble_eq_true rfl) dX5_move_88 (fun h H F => ?_)
              refine g_aload_n C 3 dX5_move_91 rfl rfl ?_
              refine x_gsha C H hq1 (by omega) (fX5_174 rfl) rfl (Y 17 (s j)) rfl dX5_move_92 ?_
              exact g_iret C dX5_move_95 (by omega) (by omega) ⟨rfl, H, F⟩
            · omega
    · omega

set_option maxRecDepth 100000 in
set_option maxHeartbeats 4000000 in
theorem p5_callOff_1 (hfl : l.stackTraces = false) (x : Int) (hx : (-2147483648 ≤ x ∧ x < 2147483648)) (ns : Nat) (hn : Y 0 7 = ns) (hns : ns ≤ 16) (hp : ¬ (0 ≤ x ∧ x < ns)) : gXt w l yX5_callOff cX5_callOff 3 (some .int) [.ref 1, .int (iI x)] Y s A B "java/lang/IndexOutOfBoundsException" := by
  refine gXt_start (by decide +kernel) (by simp [Value.category]) (Nat.le_of_ble_eq_true rfl) (fun m Wp h C H F => ?_)
  obtain ⟨h0, hh0⟩ : ∃ h0, h0 = h := ⟨_, rfl⟩
  rw [← hh0] at C
  have F : FrX h0 h := by rw [hh0]; exact F
  show gG w m 3 Wp h 0 0 [some (.ref 1), some (.int (iI x)), none] [] 0
  refine g_aload_n C 0 dX5_callOff_0 rfl rfl ?_
  refine g_iload_n C 1 dX5_callOff_1 rfl rfl ?_
  refine x_call C H F [_] _ (kX5_160 rfl) (e5_isShard_f x hx (by omega) (by omega)) rfl rfl H.2.1.1 (by decide) (by omega) (by omega) (Nat.le_of_ble_eq_true rfl) dX5_callOff_2 (fun h H F => ?_)
  refine g_if_ne C 18 dX5_callOff_5 (by decide) (by omega) (fun c5 => ?_) (fun c5 => ?_)
  · omega
  · exact g_throw C hfl (t_81_163 rfl) dX5_callOff_8 dX5_callOff_11 dX5_callOff_12 dX5_callOff_14 dX5_callOff_17 (by decide) (by omega) (by omega) (Nat.le_of_ble_eq_true rfl) (fun n hn => ⟨rfl, H.dead hn, F.tr (FrX.dead H.1 hn)⟩)

set_option maxRecDepth 100000 in
set_option maxHeartbeats 4000000 in
theorem p5_callOff_2 (hfl : l.stackTraces = false) (ns : Nat) (hn : Y 0 7 = ns) (hns : ns ≤ 16) (j : Nat) (hj : j < ns) (hN : gNu Y) (hp : Y 13 (s j) = 0) : gXt w l yX5_callOff cX5_callOff 3 (some .int) [.ref 1, .int (iI (j : Int))] Y s A B "java/lang/IllegalStateException" := by
  refine gXt_start (by decide +kernel) (by simp [Value.category]) (Nat.le_of_ble_eq_true rfl) (fun m Wp h C H F => ?_)
  obtain ⟨h0, hh0⟩ : ∃ h0, h0 = h := ⟨_, rfl⟩
  rw [← hh0] at C
  have F : FrX h0 h := by rw [hh0]; exact F
  have hx : -2147483648 ≤ (j : Int) ∧ (j : Int) < 2147483648 := by omega
  have hq1 : s j < 16 := (H.2.2.1.2.2.2 j (by omega)).1
  show gG w m 3 Wp h 0 0 [some (.ref 1), some (.int (iI (j : Int))), none] [] 0
  refine g_aload_n C 0 dX5_callOff_0 rfl rfl ?_
  refine g_iload_n C 1 dX5_callOff_1 rfl rfl ?_
  refine x_call C H F [_] _ (kX5_160 rfl) (e5_isShard_t ((j : Int)) hx (by omega) (by omega)) rfl rfl H.2.1.1 (by decide) (by omega) (by omega) (Nat.le_of_ble_eq_true rfl) dX5_callOff_2 (fun h H F => ?_)
  refine g_if_ne C 18 dX5_callOff_5 (by decide) (by omega) (fun c5 => ?_) (fun c5 => ?_)
  · refine g_aload_n C 0 dX5_callOff_18 rfl rfl ?_
    refine x_rmain C H 17 (fX5_38 rfl) (by omega) dX5_callOff_19 ?_
    refine g_iload_n C 1 dX5_callOff_22 rfl rfl ?_
    refine x_shas C H j rfl (by omega) (s j) rfl dX5_callOff_23 ?_
    refine x_call C H F [] _ (kX5_150 rfl) (e3_isMoving_f hq1 hN hp) rfl rfl (H.2.1.2.2.2.2.2.2.2.2 _ hq1) (by decide) (by omega) (by omega) (Nat.le_of_ble_eq_true rfl) dX5_callOff_24 (fun h H F => ?_)
    refine g_if_ne C 40 dX5_callOff_27 (by decide) (by omega) (fun c27 => ?_) (fun c27 => ?_)
    · omega
    · exact g_throw C hfl (t_59_182 rfl) dX5_callOff_30 dX5_callOff_33 dX5_callOff_34 dX5_callOff_36 dX5_callOff_39 (by decide) (by omega) (by omega) (Nat.le_of_ble_eq_true rfl) (fun n hn => ⟨rfl, H.dead hn, F.tr (FrX.dead H.1 hn)⟩)
  · omega

set_option maxRecDepth 100000 in
set_option maxHeartbeats 4000000 in
theorem p5_callOff_3 (ns : Nat) (hn : Y 0 7 = ns) (hns : ns ≤ 16) (j : Nat) (hj : j < ns) (hN : gNu Y) (hp : Y 13 (s j) ≠ 0) : gXs w l yX5_callOff cX5_callOff 3 (some .int) 0 0 [.ref 1, .int (iI (j : Int))] Y s A B (some (.int (iI (Y 16 (s j))))) (yfail Y (s j)) s A B := by
  refine gXs_start (by decide +kernel) (by simp [Value.category]) (Nat.le_of_ble_eq_true rfl) (fun m Wp h C H F => ?_)
  obtain ⟨h0, hh0⟩ : ∃ h0, h0 = h := ⟨_, rfl⟩
  rw [← hh0] at C
  have F : FrX h0 h := by rw [hh0]; exact F
  have hx : -2147483648 ≤ (j : Int) ∧ (j : Int) < 2147483648 := by omega
  have hq1 : s j < 16 := (H.2.2.1.2.2.2 j (by omega)).1
  show gG w m 3 Wp h 0 0 [some (.ref 1), some (.int (iI (j : Int))), none] [] 0
  refine g_aload_n C 0 dX5_callOff_0 rfl rfl ?_
  refine g_iload_n C 1 dX5_callOff_1 rfl rfl ?_
  refine x_call C H F [_] _ (kX5_160 rfl) (e5_isShard_t ((j : Int)) hx (by omega) (by omega)) rfl rfl H.2.1.1 (by decide) (by omega) (by omega) (Nat.le_of_ble_eq_true rfl) dX5_callOff_2 (fun h H F => ?_)
  refine g_if_ne C 18 dX5_callOff_5 (by decide) (by omega) (fun c5 => ?_) (fun c5 => ?_)
  · refine g_aload_n C 0 dX5_callOff_18 rfl rfl ?_
    refine x_rmain C H 17 (fX5_38 rfl) (by omega) dX5_callOff_19 ?_
    refine g_iload_n C 1 dX5_callOff_22 rfl rfl ?_
    refine x_shas C H j rfl (by omega) (s j) rfl dX5_callOff_23 ?_
    refine x_call C H F [] _ (kX5_150 rfl) (e3_isMoving_t hq1 hN hp) rfl rfl (H.2.1.2.2.2.2.2.2.2.2 _ hq1) (by decide) (by omega) (by omega) (Nat.le_of_ble_eq_true rfl) dX5_callOff_24 (fun h H F => ?_)
    refine g_if_ne C 40 dX5_callOff_27 (by decide) (by omega) (fun c27 => ?_) (fun c27 => ?_)
    · refine g_aload_n C 0 dX5_callOff_40 rfl rfl ?_
      refine x_rmain C H 17 (fX5_38 rfl) (by omega) dX5_callOff_41 ?_
      refine g_iload_n C 1 dX5_callOff_44 rfl rfl ?_
      refine x_shas C H j rfl (by omega) (s j) rfl dX5_callOff_45 ?_
      refine x_gsha C H hq1 (by omega) (fX5_184 rfl) rfl (Y 16 (s j)) rfl dX5_callOff_46 ?_
      refine s_istore_n (lo' := [_, _, _]) C 2 dX5_callOff_49 rfl (by decide) rfl ?_
      refine g_aload_n C 0 dX5_callOff_50 rfl rfl ?_
      refine g_aload_n C 0 dX5_callOff_51 rfl rfl ?_
      refine x_rmain C H 17 (fX5_38 rfl) (by omega) dX5_callOff_52 ?_
      refine g_iload_n C 1 dX5_callOff_55 rfl rfl ?_
      refine x_shas C H j rfl (by omega) (s j) rfl dX5_callOff_56 ?_
      refine x_call C H F [_] _ (kX5_187 rfl) (e5_failMove hq1) rfl rfl H.2.1.1 (by decide) (by omega) (by omega) (Nat.le_of_ble_eq_true rfl) dX5_callOff_57 (fun h H F => ?_)
      refine g_iload_n C 2 dX5_callOff_60 rfl rfl ?_
      exact g_iret C dX5_callOff_61 (by omega) (by omega) ⟨rfl, H, F⟩
    · omega
  · omega

set_option maxRecDepth 100000 in
set_option maxHeartbeats 4000000 in
theorem p5_pass_1 (hfl : l.stackTraces = false) (x : Int) (hx : (-2147483648 ≤ x ∧ x < 2147483648)) (hp : ¬ (1 ≤ x ∧ x ≤ 200)) : gXt w l yX5_pass cX5_pass 3 (some .int) [.ref 1, .int (iI x)] Y s A B "java/lang/IllegalArgumentException" := by
  refine gXt_start (by decide +kernel) (by simp [Value.category]) (Nat.le_of_ble_eq_true rfl) (fun m Wp h C H F => ?_)
  obtain ⟨h0, hh0⟩ : ∃ h0, h0 = h := ⟨_, rfl⟩
  rw [← hh0] at C
  have F : FrX h0 h := by rw [hh0]; exact F
  show gG w m 3 Wp h 0 0 [some (.ref 1), some (.int (iI x)), none] [] 0
  refine g_iload_n C 1 dX5_pass_0 rfl rfl ?_
  refine g_iconst C dX5_pass_1 ?_
  refine g_icmp_lt C 12 dX5_pass_2 (by decide) (by omega) (by omega) (fun c2 => ?_) (fun c2 => ?_)
  · exact g_throw C hfl (t_49_191 rfl) dX5_pass_12 dX5_pass_15 dX5_pass_16 dX5_pass_18 dX5_pass_21 (by decide) (by omega) (by omega) (Nat.le_of_ble_eq_true rfl) (fun n hn => ⟨rfl, H.dead hn, F.tr (FrX.dead H.1 hn)⟩)
  · refine g_iload_n C 1 dX5_pass_5 rfl rfl ?_
    refine g_sipush C dX5_pass_6 (by decide) ?_
    refine g_icmp_le C 22 dX5_pass_9 (by decide) (by omega) (by omega) (fun c9 => ?_) (fun c9 => ?_)
    · omega
    · exact g_throw C hfl (t_49_191 rfl) dX5_pass_12 dX5_pass_15 dX5_pass_16 dX5_pass_18 dX5_pass_21 (by decide) (by omega) (by omega) (Nat.le_of_ble_eq_true rfl) (fun n hn => ⟨rfl, H.dead hn, F.tr (FrX.dead H.1 hn)⟩)

set_option maxRecDepth 100000 in
set_option maxHeartbeats 4000000 in
theorem p5_pass_2 (hfl : l.stackTraces = false) (x : Int) (hx : (-2147483648 ≤ x ∧ x < 2147483648)) (h8 : 0 ≤ Y 0 8 ∧ Y 0 8 ≤ 2000) (hp : 1 ≤ x ∧ x ≤ 200) (hq : 2000 < Y 0 8 + x) : gXt w l yX5_pass cX5_pass 3 (some .int) [.ref 1, .int (iI x)] Y s A B "java/lang/IllegalStateException" := by
  refine gXt_start (by decide +kernel) (by simp [Value.category]) (Nat.le_of_ble_eq_true rfl) (fun m Wp h C H F => ?_)
  obtain ⟨h0, hh0⟩ : ∃ h0, h0 = h := ⟨_, rfl⟩
  rw [← hh0] at C
  have F : FrX h0 h := by rw [hh0]; exact F
  show gG w m 3 Wp h 0 0 [some (.ref 1), some (.int (iI x)), none] [] 0
  refine g_iload_n C 1 dX5_pass_0 rfl rfl ?_
  refine g_iconst C dX5_pass_1 ?_
  refine g_icmp_lt C 12 dX5_pass_2 (by decide) (by omega) (by omega) (fun c2 => ?_) (fun c2 => ?_)
  · omega
  · refine g_iload_n C 1 dX5_pass_5 rfl rfl ?_
    refine g_sipush C dX5_pass_6 (by decide) ?_
    refine g_icmp_le C 22 dX5_pass_9 (by decide) (by omega) (by omega) (fun c9 => ?_) (fun c9 => ?_)
    · refine g_aload_n C 0 dX5_pass_22 rfl rfl ?_
      refine x_gmain C H (fX5_193 rfl) rfl (Y 0 8) rfl dX5_pass_23 ?_
      refine g_iload_n C 1 dX5_pass_26 rfl rfl ?_
      refine g_iadd C dX5_pass_27 ?_
      refine g_sipush C dX5_pass_28 (by decide) ?_
      refine g_icmp_le C 44 dX5_pass_31 (by decide) (by omega) (by omega) (fun c31 => ?_) (fun c31 => ?_)
      · omega
      · exact g_throw C hfl (t_59_196 rfl) dX5_pass_34 dX5_pass_37 dX5_pass_38 dX5_pass_40 dX5_pass_43 (by decide) (by omega) (by omega) (Nat.le_of_ble_eq_true rfl) (fun n hn => ⟨rfl, H.dead hn, F.tr (FrX.dead H.1 hn)⟩)
    · omega

set_option maxRecDepth 100000 in
set_option maxHeartbeats 4000000 in
theorem p5_pass_3 (nm : Nat) (hm : Y 0 5 = nm) (hnm : nm ≤ 6) (ns : Nat) (hn : Y 0 7 = ns) (hns : ns ≤ 16) (h8 : 0 ≤ Y 0 8 ∧ Y 0 8 ≤ 2000) (n : Nat) (hp : 1 ≤ n ∧ n ≤ 200) (hq : Y 0 8 + n ≤ 2000) (hP : ∀ i, i < n → gNu (ypas Y s nm ns i) ∧ yPh (ypas Y s nm ns i) s nm ns) : gXs w l yX5_pass cX5_pass 3 (some .int) (16 * n) (64 * n) [.ref 1, .int (iI (n : Int))] Y s A B (some (.int (iI (Y 0 8 + n)))) (ypas Y s nm ns n) s A (ypasB Y s nm ns B n) := by
  refine gXs_start (by decide +kernel) (by simp [Value.category]) (Nat.le_of_ble_eq_true rfl) (fun m Wp h C H F => ?_)
  obtain ⟨h0, hh0⟩ : ∃ h0, h0 = h := ⟨_, rfl⟩
  rw [← hh0] at C
  have F : FrX h0 h := by rw [hh0]; exact F
  have L : ∀ (k i : Nat) (h : gH), i + k = n → RX (ypas Y s nm ns i) s A (ypasB Y s nm ns B i) h → FrX h0 h → gG w m 3 Wp h (16 * i) (64 * i) [some (.ref 1), some (.int (iI (n : Int))), some (.int (iI (i : Int)))] [] 46 := by
    intro k
    induction k with
    | zero =>
      intro i h h1 H F
      have e : i = n := by omega
      subst e
      refine g_iload_n C 2 dX5_pass_46 rfl rfl ?_
      refine g_iload_n C 1 dX5_pass_47 rfl rfl ?_
      refine g_icmp_ge C 61 dX5_pass_48 (by decide) (by omega) (by omega) (fun c48 => ?_) (fun c48 => ?_)
      · refine g_aload_n C 0 dX5_pass_61 rfl rfl ?_
        refine x_gmain C H (fX5_193 rfl) rfl (Y 0 8 + i) (ypas_8 Y s nm ns i) dX5_pass_62 ?_
        exact g_iret C dX5_pass_65 (by omega) (by omega) ⟨rfl, H, F⟩
      · omega
    | succ k ih =>
      intro i h h1 H F
      refine g_iload_n C 2 dX5_pass_46 rfl rfl ?_
      refine g_iload_n C 1 dX5_pass_47 rfl rfl ?_
      refine g_icmp_ge C 61 dX5_pass_48 (by decide) (by omega) (by omega) (fun c48 => ?_) (fun c48 => ?_)
      · omega
      · refine g_aload_n C 0 dX5_pass_51 rfl rfl ?_
        refine x_call C H F [] _ (kX5_198 rfl) (e5_hour nm ns ((ypas_0 Y s nm ns (by omega) (by omega) (by omega) i).trans hm) hnm ((ypas_0 Y s nm ns (by omega) (by omega) (by omega) i).trans hn) hns (hP i (by omega)).1 (hP i (by omega)).2) rfl rfl H.2.1.1 (by decide) (by omega) (by omega) (Nat.le_of_ble_eq_true rfl) dX5_pass_52 (fun h H F => ?_)
        refine s_iinc (lo' := [_, _, _]) C dX5_pass_55 rfl (by decide) rfl ?_
        refine g_goto C 46 dX5_pass_58 (by decide) ?_
        exact ih (i + 1) _ (by omega) H F
  show gG w m 3 Wp h 0 0 [some (.ref 1), some (.int (iI (n : Int))), none] [] 0
  refine g_iload_n C 1 dX5_pass_0 rfl rfl ?_
  refine g_iconst C dX5_pass_1 ?_
  refine g_icmp_lt C 12 dX5_pass_2 (by decide) (by omega) (by omega) (fun c2 => ?_) (fun c2 => ?_)
  · omega
  · refine g_iload_n C 1 dX5_pass_5 rfl rfl ?_
    refine g_sipush C dX5_pass_6 (by decide) ?_
    refine g_icmp_le C 22 dX5_pass_9 (by decide) (by omega) (by omega) (fun c9 => ?_) (fun c9 => ?_)
    · refine g_aload_n C 0 dX5_pass_22 rfl rfl ?_
      refine x_gmain C H (fX5_193 rfl) rfl (Y 0 8) rfl dX5_pass_23 ?_
      refine g_iload_n C 1 dX5_pass_26 rfl rfl ?_
      refine g_iadd C dX5_pass_27 ?_
      refine g_sipush C dX5_pass_28 (by decide) ?_
      refine g_icmp_le C 44 dX5_pass_31 (by decide) (by omega) (by omega) (fun c31 => ?_) (fun c31 => ?_)
      · refine g_iconst C dX5_pass_44 ?_
        refine s_istore_n (lo' := [_, _, _]) C 2 dX5_pass_45 rfl (by decide) rfl ?_
        exact L n 0 _ (by omega) H F
      · omega
    · omega

end XH
