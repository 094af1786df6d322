/-! THE REFERENCE: sizes, sums, rows of shards (rows laid by wip/whole/gen/m2.py) -/
theorem gsum_le {f : Nat → Int} {B : Int} (hf : ∀ i, 0 ≤ f i ∧ f i ≤ B) (a : Nat) : ∀ n : Nat, 0 ≤ gsum f a n ∧ gsum f a n ≤ n * B
  | 0 => by simp [gsum]
  | n + 1 => by
    have h1 := gsum_le hf a n
    have h2 := hf (a + n)
    rw [gsum, Int.natCast_succ, Int.add_mul]
    omega
theorem gsum_congr {f g : Nat → Int} (a : Nat) : ∀ (n : Nat), (∀ i, a ≤ i → i < a + n → f i = g i) → gsum f a n = gsum g a n
  | 0, _ => rfl
  | n + 1, h => by rw [gsum, gsum, gsum_congr a n (fun i h1 h2 => h i h1 (by omega)), h (a + n) (by omega) (by omega)]
def gsize (S : gS) (j : Nat) : Int := gsum (S 6) (S 7 j).toNat ((S 7 (j + 1)).toNat - (S 7 j).toNat)
def gcop (S : gS) (j : Nat) : Int := if S 9 j = -1 then 0 else gsum (S 6) (S 7 j).toNat ((S 10 j).toNat - (S 7 j).toNat)
def gheldF (S : gS) (mi : Int) (j : Nat) : Int := (if S 8 j = mi then gsize S j else 0) + (if S 9 j = mi then gcop S j else 0)
def gheld (S : gS) (mi : Int) : Int := gsum (gheldF S mi) 0 (S 0 13).toNat
def gbofF (S : gS) (t : Int) (k : Nat) : Int := if S 5 k = t then S 6 k else 0
def gbof (S : gS) (t : Int) : Int := gsum (gbofF S t) 0 1000
def gheatF (S : gS) (mi : Int) (j : Nat) : Int := if S 8 j = mi then S 12 j else 0
def gheat (S : gS) (mi : Int) : Int := gsum (gheatF S mi) 0 (S 0 13).toNat
/-- the row a of the shards is the row b -/
def slay (S : gS) (a b : Nat) : gS := fun g => if 7 ≤ g ∧ g ≤ 12 then va_up (S g) a (S g b) else S g
theorem slay_eq (S : gS) (a b : Nat) : su (su (su (su (su (su S 7 a (S 7 b)) 8 a (S 8 b)) 9 a (S 9 b)) 10 a (S 10 b)) 11 a (S 11 b)) 12 a (S 12 b) = slay S a b := by
  funext g
  unfold su slay
  by_cases h12 : g = 12
  · subst h12; simp
  by_cases h11 : g = 11
  · subst h11; simp
  by_cases h10 : g = 10
  · subst h10; simp
  by_cases h9 : g = 9
  · subst h9; simp
  by_cases h8 : g = 8
  · subst h8; simp
  by_cases h7 : g = 7
  · subst h7; simp
  rw [if_neg h12, if_neg h11, if_neg h10, if_neg h9, if_neg h8, if_neg h7, if_neg (by omega)]
/-- ranges: the shards' rows; the others -/
def gW1 (S : gS) : Prop := ∀ i, (0 ≤ S 7 i ∧ S 7 i ≤ 1000) ∧ (-1 ≤ S 8 i ∧ S 8 i ≤ 5) ∧ (-1 ≤ S 9 i ∧ S 9 i ≤ 5) ∧ (0 ≤ S 10 i ∧ S 10 i ≤ 1000)
def gW2 (S : gS) : Prop := ∀ i, (0 ≤ S 1 i ∧ S 1 i ≤ 10000) ∧ (S 2 i = 0 ∨ S 2 i = 1) ∧ (0 ≤ S 3 i ∧ S 3 i ≤ 20000) ∧ (0 ≤ S 5 i ∧ S 5 i ≤ 3) ∧ (0 ≤ S 6 i ∧ S 6 i ≤ 100)
theorem gsize_le {S : gS} (h1 : gW1 S) (h2 : gW2 S) (j : Nat) : 0 ≤ gsize S j ∧ gsize S j ≤ 100000 := by
  have h := gsum_le (f := S 6) (B := 100) (fun i => (h2 i).2.2.2.2) (S 7 j).toNat ((S 7 (j + 1)).toNat - (S 7 j).toNat)
  have h3 := (h1 (j + 1)).1
  unfold gsize
  omega
theorem gcop_le {S : gS} (h1 : gW1 S) (h2 : gW2 S) (j : Nat) : 0 ≤ gcop S j ∧ gcop S j ≤ 100000 := by
  have h := gsum_le (f := S 6) (B := 100) (fun i => (h2 i).2.2.2.2) (S 7 j).toNat ((S 10 j).toNat - (S 7 j).toNat)
  have h3 := (h1 j).2.2.2
  unfold gcop
  split <;> omega
theorem gheld_le {S : gS} (h1 : gW1 S) (h2 : gW2 S) (hn : S 0 13 ≤ 16) (mi : Int) : 0 ≤ gheld S mi ∧ gheld S mi ≤ 3200000 := by
  have h := gsum_le (f := gheldF S mi) (B := 200000) (fun i => by
    have a := gsize_le h1 h2 i
    have b := gcop_le h1 h2 i
    unfold gheldF
    split <;> split <;> omega) 0 (S 0 13).toNat
  unfold gheld
  omega
theorem gbof_le {S : gS} (h2 : gW2 S) (t : Int) : 0 ≤ gbof S t ∧ gbof S t ≤ 100000 := by
  have h := gsum_le (f := gbofF S t) (B := 100) (fun i => by
    have := (h2 i).2.2.2.2
    unfold gbofF
    split <;> omega) 0 1000
  unfold gbof
  omega
section MB
variable {w : gW} {l : Launch} {h : gH} {S : gS}

theorem c6_sumI (hS : gShM h) (a z : Int) (ha : 0 ≤ a ∧ a ≤ 1000) (hz : 0 ≤ z ∧ z ≤ 1000) : gMm w l yX6_sum cX6_sum 5 (some .int) 0 [.ref 34, .int (iI a), .int (iI z)] h S (some (.int (iI (gsum (S 6) a.toNat (z.toNat - a.toNat))))) S := by
  have h1 := c6_sum (w := w) (l := l) (S := S) hS a.toNat z.toNat (by omega) (by omega)
  rwa [Int.toNat_of_nonneg ha.1, Int.toNat_of_nonneg hz.1] at h1

set_option maxRecDepth 100000 in
set_option maxHeartbeats 4000000 in
theorem c6_sizeOf (hS : gShM h) (h1 : gW1 S) (x : Int) (j : Nat) (hx : x = (j : Int)) (hj : j ≤ 16) : gMm w l yX6_sizeOf cX6_sizeOf 2 (some .int) 1 [.ref 34, .int (iI x)] h S (some (.int (iI (gsize S j)))) (S) := by
  refine gMm_start (by decide +kernel) (by simp [Value.category]) (Nat.le_of_ble_eq_true rfl) (fun m Wp C => ?_)
  subst hx
  show gG w m 2 Wp (gwr h S) 0 0 [some (.ref 34), some (.int (iI (j : Int)))] [] 0
  refine g_aload_n C 0 dX6_sizeOf_0 rfl rfl ?_
  refine g_aload_n C 0 dX6_sizeOf_1 rfl rfl ?_
  refine m_arr C hS 7 (by omega) (by omega) (fX6_33 rfl) rfl dX6_sizeOf_2 ?_
  refine g_iload_n C 1 dX6_sizeOf_5 rfl rfl ?_
  refine m_iald C hS (by omega) rfl (by omega) j (by omega) (by omega) dX6_sizeOf_6 ?_
  refine g_aload_n C 0 dX6_sizeOf_7 rfl rfl ?_
  refine m_arr C hS 7 (by omega) (by omega) (fX6_33 rfl) rfl dX6_sizeOf_8 ?_
  refine g_iload_n C 1 dX6_sizeOf_11 rfl rfl ?_
  refine g_iconst C dX6_sizeOf_12 ?_
  refine g_iadd C dX6_sizeOf_13 ?_
  refine m_iald C hS (by omega) rfl (by omega) (j + 1) (by omega) (by omega) dX6_sizeOf_14 ?_
  refine m_call C hS [_, _] _ (kX6_61 rfl) (c6_sumI hS (S 7 j) (S 7 (j + 1)) (h1 j).1 (h1 (j + 1)).1) rfl rfl (by decide) (Nat.le_refl _) (Nat.le_refl _) (Nat.le_of_ble_eq_true rfl) dX6_sizeOf_15 ?_
  exact g_iret C dX6_sizeOf_18 (Nat.le_refl _) (Nat.le_refl _) ⟨rfl, rfl⟩

set_option maxRecDepth 100000 in
set_option maxHeartbeats 4000000 in
theorem c6_copied (hS : gShM h) (h1 : gW1 S) (x : Int) (j : Nat) (hx : x = (j : Int)) (hj : j ≤ 16) : gMm w l yX6_copied cX6_copied 2 (some .int) 1 [.ref 34, .int (iI x)] h S (some (.int (iI (gcop S j)))) (S) := by
  refine gMm_start (by decide +kernel) (by simp [Value.category]) (Nat.le_of_ble_eq_true rfl) (fun m Wp C => ?_)
  subst hx
  have hr := h1 j
  show gG w m 2 Wp (gwr h S) 0 0 [some (.ref 34), some (.int (iI (j : Int)))] [] 0
  refine g_aload_n C 0 dX6_copied_0 rfl rfl ?_
  refine m_arr C hS 9 (by omega) (by omega) (fX6_39 rfl) rfl dX6_copied_1 ?_
  refine g_iload_n C 1 dX6_copied_4 rfl rfl ?_
  refine m_iald C hS (by omega) rfl (by omega) j (by omega) (by omega) dX6_copied_5 ?_
  refine g_iconst C dX6_copied_6 ?_
  refine g_icmp_ne C 14 dX6_copied_7 (by decide) (by omega) (by omega) (fun c7 => ?_) (fun c7 => ?_)
  · rw [show gcop S j = _ from if_neg (by omega)] at C
    refine g_aload_n C 0 dX6_copied_14 rfl rfl ?_
    refine g_aload_n C 0 dX6_copied_15 rfl rfl ?_
    refine m_arr C hS 7 (by omega) (by omega) (fX6_33 rfl) rfl dX6_copied_16 ?_
    refine g_iload_n C 1 dX6_copied_19 rfl rfl ?_
    refine m_iald C hS (by omega) rfl (by omega) j (by omega) (by omega) dX6_copied_20 ?_
    refine g_aload_n C 0 dX6_copied_21 rfl rfl ?_
    refine m_arr C hS 10 (by omega) (by omega) (fX6_42 rfl) rfl dX6_copied_22 ?_
    refine g_iload_n C 1 dX6_copied_25 rfl rfl ?_
    refine m_iald C hS (by omega) rfl (by omega) j (by omega) (by omega) dX6_copied_26 ?_
    refine m_call C hS [_, _] _ (kX6_61 rfl) (c6_sumI hS (S 7 j) (S 10 j) (h1 j).1 (h1 j).2.2.2) rfl rfl (by decide) (Nat.le_refl _) (Nat.le_refl _) (Nat.le_of_ble_eq_true rfl) dX6_copied_27 ?_
    exact g_iret C dX6_copied_30 (Nat.le_refl _) (Nat.le_refl _) ⟨rfl, rfl⟩
  · rw [show gcop S j = 0 from if_pos (by omega)] at C
    refine g_iconst C dX6_copied_10 ?_
    refine g_goto C 30 dX6_copied_11 (by decide) ?_
    exact g_iret C dX6_copied_30 (Nat.le_refl _) (Nat.le_refl _) ⟨rfl, rfl⟩

set_option maxRecDepth 100000 in
set_option maxHeartbeats 4000000 in
theorem c6_held (hS : gShM h) (h1 : gW1 S) (hn : 0 ≤ S 0 13 ∧ S 0 13 ≤ 16) (x : Int) (hx : (-2147483648 ≤ x ∧ x < 2147483648)) : gMm w l yX6_held cX6_held 4 (some .int) 2 [.ref 34, .int (iI x)] h S (some (.int (iI (gheld S x)))) (S) := by
  refine gMm_start (by decide +kernel) (by simp [Value.category]) (Nat.le_of_ble_eq_true rfl) (fun m Wp C => ?_)
  have L : ∀ (n i : Nat) (t : Int), i + n = (S 0 13).toNat → t = gsum (gheldF S x) 0 i → gG w m 4 Wp (gwr h S) 0 0 [some (.ref 34), some (.int (iI x)), some (.int (iI t)), some (.int (iI (i : Int)))] [] 4 := by
    intro n
    induction n with
    | zero =>
      intro i t h9 ht
      refine g_iload_n C 3 dX6_held_4 rfl rfl ?_
      refine g_aload_n C 0 dX6_held_5 rfl rfl ?_
      refine m_fld C hS (fX6_29 rfl) rfl dX6_held_6 ?_
      refine g_icmp_ge C 60 dX6_held_9 (by decide) (by omega) (by omega) (fun c9 => ?_) (fun c9 => ?_)
      · refine g_iload_n C 2 dX6_held_60 rfl rfl ?_
        exact g_iret C dX6_held_61 (Nat.le_refl _) (Nat.le_refl _) ⟨by rw [ht, show i = (S 0 13).toNat by omega]; rfl, rfl⟩
      · omega
    | succ n ih =>
      intro i t h9 ht
      have hr := h1 i
      refine g_iload_n C 3 dX6_held_4 rfl rfl ?_
      refine g_aload_n C 0 dX6_held_5 rfl rfl ?_
      refine m_fld C hS (fX6_29 rfl) rfl dX6_held_6 ?_
      refine g_icmp_ge C 60 dX6_held_9 (by decide) (by omega) (by omega) (fun c9 => ?_) (fun c9 => ?_)
      · omega
      · refine g_iload_n C 2 dX6_held_12 rfl rfl ?_
        refine g_aload_n C 0 dX6_held_13 rfl rfl ?_
        refine m_arr C hS 8 (by omega) (by omega) (fX6_36 rfl) rfl dX6_held_14 ?_
        refine g_iload_n C 3 dX6_held_17 rfl rfl ?_
        refine m_iald C hS (by omega) rfl (by omega) i (by omega) (by omega) dX6_held_18 ?_
        refine g_iload_n C 1 dX6_held_19 rfl rfl ?_
        refine g_icmp_ne C 31 dX6_held_20 (by decide) (by omega) (by omega) (fun c20 => ?_) (fun c20 => ?_)
        · refine g_iconst C dX6_held_31 ?_
          refine g_aload_n C 0 dX6_held_32 rfl rfl ?_
          refine m_arr C hS 9 (by omega) (by omega) (fX6_39 rfl) rfl dX6_held_33 ?_
          refine g_iload_n C 3 dX6_held_36 rfl rfl ?_
          refine m_iald C hS (by omega) rfl (by omega) i (by omega) (by omega) dX6_held_37 ?_
          refine g_iload_n C 1 dX6_held_38 rfl rfl ?_
          refine g_icmp_ne C 50 dX6_held_39 (by decide) (by omega) (by omega) (fun c39 => ?_) (fun c39 => ?_)
          · refine g_iconst C dX6_held_50 ?_
            refine g_iadd C dX6_held_51 ?_
            refine g_iadd C dX6_held_52 ?_
            refine s_istore_n (lo' := [_, _, _, _]) C 2 dX6_held_53 rfl (by decide) rfl ?_
            refine s_iinc (lo' := [_, _, _, _]) C dX6_held_54 rfl (by decide) rfl ?_
            refine g_goto C 4 dX6_held_57 (by decide) ?_
            exact ih (i + 1) _ (by omega) (by rw [gsum, ht, Nat.zero_add, gheldF]; simp [c20, c39])
          · refine g_aload_n C 0 dX6_held_42 rfl rfl ?_
            refine g_iload_n C 3 dX6_held_43 rfl rfl ?_
            refine m_call C hS [_] _ (kX6_69 rfl) (c6_copied hS h1 i i rfl (by omega)) rfl rfl (by decide) (Nat.le_refl _) (Nat.le_refl _) (Nat.le_of_ble_eq_true rfl) dX6_held_44 ?_
            refine g_goto C 51 dX6_held_47 (by decide) ?_
            refine g_iadd C dX6_held_51 ?_
            refine g_iadd C dX6_held_52 ?_
            refine s_istore_n (lo' := [_, _, _, _]) C 2 dX6_held_53 rfl (by decide) rfl ?_
            refine s_iinc (lo' := [_, _, _, _]) C dX6_held_54 rfl (by decide) rfl ?_
            refine g_goto C 4 dX6_held_57 (by decide) ?_
            exact ih (i + 1) _ (by omega) (by rw [gsum, ht, Nat.zero_add, gheldF]; simp [c20, c39])
        · refine g_aload_n C 0 dX6_held_23 rfl rfl ?_
          refine g_iload_n C 3 dX6_held_24 rfl rfl ?_
          refine m_call C hS [_] _ (kX6_65 rfl) (c6_sizeOf hS h1 i i rfl (by omega)) rfl rfl (by decide) (Nat.le_refl _) (Nat.le_refl _) (Nat.le_of_ble_eq_true rfl) dX6_held_25 ?_
          refine g_goto C 32 dX6_held_28 (by decide) ?_
          refine g_aload_n C 0 dX6_held_32 rfl rfl ?_
          refine m_arr C hS 9 (by omega) (by omega) (fX6_39 rfl) rfl dX6_held_33 ?_
          refine g_iload_n C 3 dX6_held_36 rfl rfl ?_
          refine m_iald C hS (by omega) rfl (by omega) i (by omega) (by omega) dX6_held_37 ?_
          refine g_iload_n C 1 dX6_held_38 rfl rfl ?_
          refine g_icmp_ne C 50 dX6_held_39 (by decide) (by omega) (by omega) (fun c39 => ?_) (fun c39 => ?_)
          · refine g_iconst C dX6_held_50 ?_
            refine g_iadd C dX6_held_51 ?_
            refine g_iadd C dX6_held_52 ?_
            refine s_istore_n (lo' := [_, _, _, _]) C 2 dX6_held_53 rfl (by decide) rfl ?_
            refine s_iinc (lo' := [_, _, _, _]) C dX6_held_54 rfl (by decide) rfl ?_
            refine g_goto C 4 dX6_held_57 (by decide) ?_
            exact ih (i + 1) _ (by omega) (by rw [gsum, ht, Nat.zero_add, gheldF]; simp [c20, c39])
          · refine g_aload_n C 0 dX6_held_42 rfl rfl ?_
            refine g_iload_n C 3 dX6_held_43 rfl rfl ?_
            refine m_call C hS [_] _ (kX6_69 rfl) (c6_copied hS h1 i i rfl (by omega)) rfl rfl (by decide) (Nat.le_refl _) (Nat.le_refl _) (Nat.le_of_ble_eq_true rfl) dX6_held_44 ?_
            refine g_goto C 51 dX6_held_47 (by decide) ?_
            refine g_iadd C dX6_held_51 ?_
            refine g_iadd C dX6_held_52 ?_
            refine s_istore_n (lo' := [_, _, _, _]) C 2 dX6_held_53 rfl (by decide) rfl ?_
            refine s_iinc (lo' := [_, _, _, _]) C dX6_held_54 rfl (by decide) rfl ?_
            refine g_goto C 4 dX6_held_57 (by decide) ?_
            exact ih (i + 1) _ (by omega) (by rw [gsum, ht, Nat.zero_add, gheldF]; simp [c20, c39])
  show gG w m 4 Wp (gwr h S) 0 0 [some (.ref 34), some (.int (iI x)), none, none] [] 0
  refine g_iconst C dX6_held_0 ?_
  refine s_istore_n (lo' := [_, _, _, _]) C 2 dX6_held_1 rfl (by decide) rfl ?_
  refine g_iconst C dX6_held_2 ?_
  refine s_istore_n (lo' := [_, _, _, _]) C 3 dX6_held_3 rfl (by decide) rfl ?_
  exact L (S 0 13).toNat 0 0 (by omega) rfl

set_option maxRecDepth 100000 in
set_option maxHeartbeats 4000000 in
theorem c6_bytesOf (hS : gShM h) (h2 : gW2 S) (x : Int) (hx : (-2147483648 ≤ x ∧ x < 2147483648)) : gMm w l yX6_bytesOf cX6_bytesOf 4 (some .int) 0 [.ref 34, .int (iI x)] h S (some (.int (iI (gbof S x)))) (S) := by
  refine gMm_start (by decide +kernel) (by simp [Value.category]) (Nat.le_of_ble_eq_true rfl) (fun m Wp C => ?_)
  have L : ∀ (n i : Nat) (t : Int), i + n = 1000 → t = gsum (gbofF S x) 0 i → gG w m 4 Wp (gwr h S) 0 0 [some (.ref 34), some (.int (iI x)), some (.int (iI t)), some (.int (iI (i : Int)))] [] 4 := by
    intro n
    induction n with
    | zero =>
      intro i t h9 ht
      refine g_iload_n C 3 dX6_bytesOf_4 rfl rfl ?_
      refine g_sipush C dX6_bytesOf_5 (by decide) ?_
      refine g_icmp_ge C 40 dX6_bytesOf_8 (by decide) (by omega) (by omega) (fun c8 => ?_) (fun c8 => ?_)
      · refine g_iload_n C 2 dX6_bytesOf_40 rfl rfl ?_
        exact g_iret C dX6_bytesOf_41 (Nat.le_refl _) (Nat.le_refl _) ⟨by rw [ht, show i = 1000 by omega]; rfl, rfl⟩
      · omega
    | succ n ih =>
      intro i t h9 ht
      have hr := h2 i
      refine g_iload_n C 3 dX6_bytesOf_4 rfl rfl ?_
      refine g_sipush C dX6_bytesOf_5 (by decide) ?_
      refine g_icmp_ge C 40 dX6_bytesOf_8 (by decide) (by omega) (by omega) (fun c8 => ?_) (fun c8 => ?_)
      · omega
      · refine g_iload_n C 2 dX6_bytesOf_11 rfl rfl ?_
        refine g_aload_n C 0 dX6_bytesOf_12 rfl rfl ?_
        refine m_arr C hS 5 (by omega) (by omega) (fX6_23 rfl) rfl dX6_bytesOf_13 ?_
        refine g_iload_n C 3 dX6_bytesOf_16 rfl rfl ?_
        refine m_iald C hS (by omega) rfl (by omega) i (by omega) (by omega) dX6_bytesOf_17 ?_
        refine g_iload_n C 1 dX6_bytesOf_18 rfl rfl ?_
        refine g_icmp_ne C 31 dX6_bytesOf_19 (by decide) (by omega) (by omega) (fun c19 => ?_) (fun c19 => ?_)
        · refine g_iconst C dX6_bytesOf_31 ?_
          refine g_iadd C dX6_bytesOf_32 ?_
          refine s_istore_n (lo' := [_, _, _, _]) C 2 dX6_bytesOf_33 rfl (by decide) rfl ?_
          refine s_iinc (lo' := [_, _, _, _]) C dX6_bytesOf_34 rfl (by decide) rfl ?_
          refine g_goto C 4 dX6_bytesOf_37 (by decide) ?_
          exact ih (i + 1) _ (by omega) (by rw [gsum, ht, Nat.zero_add, gbofF]; simp [c19])
        · refine g_aload_n C 0 dX6_bytesOf_22 rfl rfl ?_
          refine m_arr C hS 6 (by omega) (by omega) (fX6_26 rfl) rfl dX6_bytesOf_23 ?_
          refine g_iload_n C 3 dX6_bytesOf_26 rfl rfl ?_
          refine m_iald C hS (by omega) rfl (by omega) i (by omega) (by omega) dX6_bytesOf_27 ?_
          refine g_goto C 32 dX6_bytesOf_28 (by decide) ?_
          refine g_iadd C dX6_bytesOf_32 ?_
          refine s_istore_n (lo' := [_, _, _, _]) C 2 dX6_bytesOf_33 rfl (by decide) rfl ?_
          refine s_iinc (lo' := [_, _, _, _]) C dX6_bytesOf_34 rfl (by decide) rfl ?_
          refine g_goto C 4 dX6_bytesOf_37 (by decide) ?_
          exact ih (i + 1) _ (by omega) (by rw [gsum, ht, Nat.zero_add, gbofF]; simp [c19])
  show gG w m 4 Wp (gwr h S) 0 0 [some (.ref 34), some (.int (iI x)), none, none] [] 0
  refine g_iconst C dX6_bytesOf_0 ?_
  refine s_istore_n (lo' := [_, _, _, _]) C 2 dX6_bytesOf_1 rfl (by decide) rfl ?_
  refine g_iconst C dX6_bytesOf_2 ?_
  refine s_istore_n (lo' := [_, _, _, _]) C 3 dX6_bytesOf_3 rfl (by decide) rfl ?_
  exact L 1000 0 0 (by omega) rfl

set_option maxRecDepth 100000 in
set_option maxHeartbeats 4000000 in
theorem c6_heatOf (hS : gShM h) (h1 : gW1 S) (hn : 0 ≤ S 0 13 ∧ S 0 13 ≤ 16) (x : Int) (hx : (-2147483648 ≤ x ∧ x < 2147483648)) : gMm w l yX6_heatOf cX6_heatOf 4 (some .int) 0 [.ref 34, .int (iI x)] h S (some (.int (iI (gheat S x)))) (S) := by
  refine gMm_start (by decide +kernel) (by simp [Value.category]) (Nat.le_of_ble_eq_true rfl) (fun m Wp C => ?_)
  have L : ∀ (n i : Nat) (t : Int), i + n = (S 0 13).toNat → t = gsum (gheatF S x) 0 i → gG w m 4 Wp (gwr h S) 0 0 [some (.ref 34), some (.int (iI x)), some (.int (iI t)), some (.int (iI (i : Int)))] [] 4 := by
    intro n
    induction n with
    | zero =>
      intro i t h9 ht
      refine g_iload_n C 3 dX6_heatOf_4 rfl rfl ?_
      refine g_aload_n C 0 dX6_heatOf_5 rfl rfl ?_
      refine m_fld C hS (fX6_29 rfl) rfl dX6_heatOf_6 ?_
      refine g_icmp_ge C 41 dX6_heatOf_9 (by decide) (by omega) (by omega) (fun c9 => ?_) (fun c9 => ?_)
      · refine g_iload_n C 2 dX6_heatOf_41 rfl rfl ?_
        exact g_iret C dX6_heatOf_42 (Nat.le_refl _) (Nat.le_refl _) ⟨by rw [ht, show i = (S 0 13).toNat by omega]; rfl, rfl⟩
      · omega
    | succ n ih =>
      intro i t h9 ht
      have hr := h1 i
      refine g_iload_n C 3 dX6_heatOf_4 rfl rfl ?_
      refine g_aload_n C 0 dX6_heatOf_5 rfl rfl ?_
      refine m_fld C hS (fX6_29 rfl) rfl dX6_heatOf_6 ?_
      refine g_icmp_ge C 41 dX6_heatOf_9 (by decide) (by omega) (by omega) (fun c9 => ?_) (fun c9 => ?_)
      · omega
      · refine g_iload_n C 2 dX6_heatOf_12 rfl rfl ?_
        refine g_aload_n C 0 dX6_heatOf_13 rfl rfl ?_
        refine m_arr C hS 8 (by omega) (by omega) (fX6_36 rfl) rfl dX6_heatOf_14 ?_
        refine g_iload_n C 3 dX6_heatOf_17 rfl rfl ?_
        refine m_iald C hS (by omega) rfl (by omega) i (by omega) (by omega) dX6_heatOf_18 ?_
        refine g_iload_n C 1 dX6_heatOf_19 rfl rfl ?_
        refine g_icmp_ne C 32 dX6_heatOf_20 (by decide) (by omega) (by omega) (fun c20 => ?_) (fun c20 => ?_)
        · refine g_iconst C dX6_heatOf_32 ?_
          refine g_iadd C dX6_heatOf_33 ?_
          refine s_istore_n (lo' := [_, _, _, _]) C 2 dX6_heatOf_34 rfl (by decide) rfl ?_
          refine s_iinc (lo' := [_, _, _, _]) C dX6_heatOf_35 rfl (by decide) rfl ?_
          refine g_goto C 4 dX6_heatOf_38 (by decide) ?_
          exact ih (i + 1) _ (by omega) (by rw [gsum, ht, Nat.zero_add, gheatF]; simp [c20])
        · refine g_aload_n C 0 dX6_heatOf_23 rfl rfl ?_
          refine m_arr C hS 12 (by omega) (by omega) (fX6_48 rfl) rfl dX6_heatOf_24 ?_
          refine g_iload_n C 3 dX6_heatOf_27 rfl rfl ?_
          refine m_iald C hS (by omega) rfl (by omega) i (by omega) (by omega) dX6_heatOf_28 ?_
          refine g_goto C 33 dX6_heatOf_29 (by decide) ?_
          refine g_iadd C dX6_heatOf_33 ?_
          refine s_istore_n (lo' := [_, _, _, _]) C 2 dX6_heatOf_34 rfl (by decide) rfl ?_
          refine s_iinc (lo' := [_, _, _, _]) C dX6_heatOf_35 rfl (by decide) rfl ?_
          refine g_goto C 4 dX6_heatOf_38 (by decide) ?_
          exact ih (i + 1) _ (by omega) (by rw [gsum, ht, Nat.zero_add, gheatF]; simp [c20])
  show gG w m 4 Wp (gwr h S) 0 0 [some (.ref 34), some (.int (iI x)), none, none] [] 0
  refine g_iconst C dX6_heatOf_0 ?_
  refine s_istore_n (lo' := [_, _, _, _]) C 2 dX6_heatOf_1 rfl (by decide) rfl ?_
  refine g_iconst C dX6_heatOf_2 ?_
  refine s_istore_n (lo' := [_, _, _, _]) C 3 dX6_heatOf_3 rfl (by decide) rfl ?_
  exact L (S 0 13).toNat 0 0 (by omega) rfl

set_option maxRecDepth 100000 in
set_option maxHeartbeats 4000000 in
theorem c6_rollBack (hS : gShM h) (x : Int) (j : Nat) (hx : x = (j : Int)) (hj : j ≤ 16) : gMm w l yX6_rollBack cX6_rollBack 2 none 0 [.ref 34, .int (iI x)] h S (none) (su (su S 9 j (-1)) 0 10 (S 0 10 + 1)) := by
  refine gMm_start (by decide +kernel) (by simp [Value.category]) (Nat.le_of_ble_eq_true rfl) (fun m Wp C => ?_)
  subst hx
  show gG w m 2 Wp (gwr h S) 0 0 [some (.ref 34), some (.int (iI (j : Int)))] [] 0
  refine g_aload_n C 0 dX6_rollBack_0 rfl rfl ?_
  refine m_arr C hS 9 (by omega) (by omega) (fX6_39 rfl) rfl dX6_rollBack_1 ?_
  refine g_iload_n C 1 dX6_rollBack_4 rfl rfl ?_
  refine g_iconst C dX6_rollBack_5 ?_
  refine m_iast C hS (by omega) rfl (by omega) j (by omega) (by omega) dX6_rollBack_6 ?_
  refine g_aload_n C 0 dX6_rollBack_7 rfl rfl ?_
  refine g_dup C dX6_rollBack_8 rfl ?_
  refine m_fld C hS (fX6_72 rfl) rfl dX6_rollBack_9 ?_
  refine g_iconst C dX6_rollBack_12 ?_
  refine g_iadd C dX6_rollBack_13 ?_
  refine m_put C hS (fX6_72 rfl) rfl dX6_rollBack_14 ?_
  exact g_vret C dX6_rollBack_17 (Nat.le_refl _) (Nat.le_refl _) ⟨rfl, rfl⟩

set_option maxRecDepth 100000 in
set_option maxHeartbeats 4000000 in
theorem c6_isCopied (hS : gShM h) (h1 : gW1 S) (v : Int) (hv : (-2147483648 ≤ v ∧ v < 2147483648)) (x : Int) (j : Nat) (hx : x = (j : Int)) (hj : j ≤ 16) : gMm w l yX6_isCopied cX6_isCopied 3 (some .boolean) 0 [.ref 34, .int (iI x), .int (iI v)] h S (some (.int (iI (bI (S 9 j ≠ -1 ∧ v < S 10 j))))) (S) := by
  refine gMm_start (by decide +kernel) (by simp [Value.category]) (Nat.le_of_ble_eq_true rfl) (fun m Wp C => ?_)
  subst hx
  have hr := h1 j
  show gG w m 3 Wp (gwr h S) 0 0 [some (.ref 34), some (.int (iI (j : Int))), some (.int (iI v))] [] 0
  refine g_aload_n C 0 dX6_isCopied_0 rfl rfl ?_
  refine m_arr C hS 9 (by omega) (by omega) (fX6_39 rfl) rfl dX6_isCopied_1 ?_
  refine g_iload_n C 1 dX6_isCopied_4 rfl rfl ?_
  refine m_iald C hS (by omega) rfl (by omega) j (by omega) (by omega) dX6_isCopied_5 ?_
  refine g_iconst C dX6_isCopied_6 ?_
  refine g_icmp_eq C 24 dX6_isCopied_7 (by decide) (by omega) (by omega) (fun c7 => ?_) (fun c7 => ?_)
  · rw [bI_f (show ¬ (S 9 j ≠ -1 ∧ v < S 10 j) by omega)] at C
    refine g_iconst C dX6_isCopied_24 ?_
    exact g_zret C dX6_isCopied_25 (by omega) (Nat.le_refl _) (Nat.le_refl _) ⟨rfl, rfl⟩
  · refine g_iload_n C 2 dX6_isCopied_10 rfl rfl ?_
    refine g_aload_n C 0 dX6_isCopied_11 rfl rfl ?_
    refine m_arr C hS 10 (by omega) (by omega) (fX6_42 rfl) rfl dX6_isCopied_12 ?_
    refine g_iload_n C 1 dX6_isCopied_15 rfl rfl ?_
    refine m_iald C hS (by omega) rfl (by omega) j (by omega) (by omega) dX6_isCopied_16 ?_
    refine g_icmp_ge C 24 dX6_isCopied_17 (by decide) (by omega) (by omega) (fun c17 => ?_) (fun c17 => ?_)
    · rw [bI_f (show ¬ (S 9 j ≠ -1 ∧ v < S 10 j) by omega)] at C
      refine g_iconst C dX6_isCopied_24 ?_
      exact g_zret C dX6_isCopied_25 (by omega) (Nat.le_refl _) (Nat.le_refl _) ⟨rfl, rfl⟩
    · rw [bI_t (show S 9 j ≠ -1 ∧ v < S 10 j by omega)] at C
      refine g_iconst C dX6_isCopied_20 ?_
      refine g_goto C 25 dX6_isCopied_21 (by decide) ?_
      exact g_zret C dX6_isCopied_25 (by omega) (Nat.le_refl _) (Nat.le_refl _) ⟨rfl, rfl⟩

set_option maxRecDepth 100000 in
set_option maxHeartbeats 4000000 in
theorem c6_lay (hS : gShM h) (x : Int) (j : Nat) (hx : x = (j : Int)) (hj : j ≤ 17) (v : Int) (f : Nat) (hv : v = (f : Int)) (hf : f ≤ 17) : gMm w l yX6_lay cX6_lay 3 none 0 [.ref 34, .int (iI x), .int (iI v)] h S (none) (slay S j f) := by
  refine gMm_start (by decide +kernel) (by simp [Value.category]) (Nat.le_of_ble_eq_true rfl) (fun m Wp C => ?_)
  subst hx
  subst hv
  show gG w m 3 Wp (gwr h S) 0 0 [some (.ref 34), some (.int (iI (j : Int))), some (.int (iI (f : Int)))] [] 0
  refine g_aload_n C 0 dX6_lay_0 rfl rfl ?_
  refine m_arr C hS 7 (by omega) (by omega) (fX6_33 rfl) rfl dX6_lay_1 ?_
  refine g_iload_n C 1 dX6_lay_4 rfl rfl ?_
  refine g_aload_n C 0 dX6_lay_5 rfl rfl ?_
  refine m_arr C hS 7 (by omega) (by omega) (fX6_33 rfl) rfl dX6_lay_6 ?_
  refine g_iload_n C 2 dX6_lay_9 rfl rfl ?_
  refine m_iald C hS (by omega) rfl (by omega) f (by omega) (by omega) dX6_lay_10 ?_
  refine m_iast C hS (by omega) rfl (by omega) j (by omega) (by omega) dX6_lay_11 ?_
  refine g_aload_n C 0 dX6_lay_12 rfl rfl ?_
  refine m_arr C hS 8 (by omega) (by omega) (fX6_36 rfl) rfl dX6_lay_13 ?_
  refine g_iload_n C 1 dX6_lay_16 rfl rfl ?_
  refine g_aload_n C 0 dX6_lay_17 rfl rfl ?_
  refine m_arr C hS 8 (by omega) (by omega) (fX6_36 rfl) rfl dX6_lay_18 ?_
  refine g_iload_n C 2 dX6_lay_21 rfl rfl ?_
  refine m_iald C hS (by omega) rfl (by omega) f (by omega) (by omega) dX6_lay_22 ?_
  refine m_iast C hS (by omega) rfl (by omega) j (by omega) (by omega) dX6_lay_23 ?_
  refine g_aload_n C 0 dX6_lay_24 rfl rfl ?_
  refine m_arr C hS 9 (by omega) (by omega) (fX6_39 rfl) rfl dX6_lay_25 ?_
  refine g_iload_n C 1 dX6_lay_28 rfl rfl ?_
  refine g_aload_n C 0 dX6_lay_29 rfl rfl ?_
  refine m_arr C hS 9 (by omega) (by omega) (fX6_39 rfl) rfl dX6_lay_30 ?_
  refine g_iload_n C 2 dX6_lay_33 rfl rfl ?_
  refine m_iald C hS (by omega) rfl (by omega) f (by omega) (by omega) dX6_lay_34 ?_
  refine m_iast C hS (by omega) rfl (by omega) j (by omega) (by omega) dX6_lay_35 ?_
  refine g_aload_n C 0 dX6_lay_36 rfl rfl ?_
  refine m_arr C hS 10 (by omega) (by omega) (fX6_42 rfl) rfl dX6_lay_37 ?_
  refine g_iload_n C 1 dX6_lay_40 rfl rfl ?_
  refine g_aload_n C 0 dX6_lay_41 rfl rfl ?_
  refine m_arr C hS 10 (by omega) (by omega) (fX6_42 rfl) rfl dX6_lay_42 ?_
  refine g_iload_n C 2 dX6_lay_45 rfl rfl ?_
  refine m_iald C hS (by omega) rfl (by omega) f (by omega) (by omega) dX6_lay_46 ?_
  refine m_iast C hS (by omega) rfl (by omega) j (by omega) (by omega) dX6_lay_47 ?_
  refine g_aload_n C 0 dX6_lay_48 rfl rfl ?_
  refine m_arr C hS 11 (by omega) (by omega) (fX6_45 rfl) rfl dX6_lay_49 ?_
  refine g_iload_n C 1 dX6_lay_52 rfl rfl ?_
  refine g_aload_n C 0 dX6_lay_53 rfl rfl ?_
  refine m_arr C hS 11 (by omega) (by omega) (fX6_45 rfl) rfl dX6_lay_54 ?_
  refine g_iload_n C 2 dX6_lay_57 rfl rfl ?_
  refine m_iald C hS (by omega) rfl (by omega) f (by omega) (by omega) dX6_lay_58 ?_
  refine m_iast C hS (by omega) rfl (by omega) j (by omega) (by omega) dX6_lay_59 ?_
  refine g_aload_n C 0 dX6_lay_60 rfl rfl ?_
  refine m_arr C hS 12 (by omega) (by omega) (fX6_48 rfl) rfl dX6_lay_61 ?_
  refine g_iload_n C 1 dX6_lay_64 rfl rfl ?_
  refine g_aload_n C 0 dX6_lay_65 rfl rfl ?_
  refine m_arr C hS 12 (by omega) (by omega) (fX6_48 rfl) rfl dX6_lay_66 ?_
  refine g_iload_n C 2 dX6_lay_69 rfl rfl ?_
  refine m_iald C hS (by omega) rfl (by omega) f (by omega) (by omega) dX6_lay_70 ?_
  refine m_iast C hS (by omega) rfl (by omega) j (by omega) (by omega) dX6_lay_71 ?_
  exact g_vret C dX6_lay_72 (Nat.le_refl _) (Nat.le_refl _) ⟨rfl, by rw [← slay_eq]; rfl⟩

set_option maxRecDepth 100000 in
set_option maxHeartbeats 4000000 in
theorem c6_begins (hS : gShM h) (v : Int) (x : Int) (j : Nat) (hx : x = (j : Int)) (hj : j ≤ 16) : gMm w l yX6_begins cX6_begins 3 none 0 [.ref 34, .int (iI x), .int (iI v)] h S (none) (su (su (su S 9 j v) 10 j (S 7 j)) 11 j 0) := by
  refine gMm_start (by decide +kernel) (by simp [Value.category]) (Nat.le_of_ble_eq_true rfl) (fun m Wp C => ?_)
  subst hx
  show gG w m 3 Wp (gwr h S) 0 0 [some (.ref 34), some (.int (iI (j : Int))), some (.int (iI v))] [] 0
  refine g_aload_n C 0 dX6_begins_0 rfl rfl ?_
  refine m_arr C hS 9 (by omega) (by omega) (fX6_39 rfl) rfl dX6_begins_1 ?_
  refine g_iload_n C 1 dX6_begins_4 rfl rfl ?_
  refine g_iload_n C 2 dX6_begins_5 rfl rfl ?_
  refine m_iast C hS (by omega) rfl (by omega) j (by omega) (by omega) dX6_begins_6 ?_
  refine g_aload_n C 0 dX6_begins_7 rfl rfl ?_
  refine m_arr C hS 10 (by omega) (by omega) (fX6_42 rfl) rfl dX6_begins_8 ?_
  refine g_iload_n C 1 dX6_begins_11 rfl rfl ?_
  refine g_aload_n C 0 dX6_begins_12 rfl rfl ?_
  refine m_arr C hS 7 (by omega) (by omega) (fX6_33 rfl) rfl dX6_begins_13 ?_
  refine g_iload_n C 1 dX6_begins_16 rfl rfl ?_
  refine m_iald C hS (by omega) rfl (by omega) j (by omega) (by omega) dX6_begins_17 ?_
  refine m_iast C hS (by omega) rfl (by omega) j (by omega) (by omega) dX6_begins_18 ?_
  refine g_aload_n C 0 dX6_begins_19 rfl rfl ?_
  refine m_arr C hS 11 (by omega) (by omega) (fX6_45 rfl) rfl dX6_begins_20 ?_
  refine g_iload_n C 1 dX6_begins_23 rfl rfl ?_
  refine g_iconst C dX6_begins_24 ?_
  refine m_iast C hS (by omega) rfl (by omega) j (by omega) (by omega) dX6_begins_25 ?_
  exact g_vret C dX6_begins_26 (Nat.le_refl _) (Nat.le_refl _) ⟨rfl, rfl⟩

end MB
