/-! THE CLASS: moves, rows of shards, heat (rows laid by wip/whole/gen/x2.py) -/
section XC
variable {w : gW} {l : Launch} {Y : gS} {s : Nat → Nat} {A : List gCE} {B : List gOE}
theorem e2_hasRoomFor_t {z : Nat} (hz : z ≤ 6) (v : Int) (h1 : -2147483648 ≤ (Y 4 z + v) ∧ (Y 4 z + v) < 2147483648) (h2 : -2147483648 ≤ Y 2 z ∧ Y 2 z < 2147483648) (hp : Y 4 z + v ≤ Y 2 z) : gXc w l yX2_hasRoomFor cX2_hasRoomFor 2 (some .boolean) 0 0 0 [.ref (gma z), .int (iI v)] Y s A B (some (.int (iI 1))) Y s A B := by
  have := e2_hasRoomFor (w := w) (l := l) (s := s) (A := A) (B := B) hz v h1 h2
  rwa [bI_t hp] at this
theorem e2_hasRoomFor_f {z : Nat} (hz : z ≤ 6) (v : Int) (h1 : -2147483648 ≤ (Y 4 z + v) ∧ (Y 4 z + v) < 2147483648) (h2 : -2147483648 ≤ Y 2 z ∧ Y 2 z < 2147483648) (hp : ¬ (Y 4 z + v ≤ Y 2 z)) : gXc w l yX2_hasRoomFor cX2_hasRoomFor 2 (some .boolean) 0 0 0 [.ref (gma z), .int (iI v)] Y s A B (some (.int (iI 0))) Y s A B := by
  have := e2_hasRoomFor (w := w) (l := l) (s := s) (A := A) (B := B) hz v h1 h2
  rwa [bI_f hp] at this

set_option maxRecDepth 100000 in
set_option maxHeartbeats 4000000 in
theorem e5_changeCopy_t {q : Nat} (hq : q < 16) (h6 : (Y 13 q).toNat ≤ 6) (v : Int) (h1 : (-2147483648 ≤ (Y 4 (Y 13 q).toNat + v) ∧ (Y 4 (Y 13 q).toNat + v) < 2147483648)) (h2 : (-2147483648 ≤ Y 2 (Y 13 q).toNat ∧ Y 2 (Y 13 q).toNat < 2147483648)) (hp : (Y 4 (Y 13 q).toNat + v ≤ Y 2 (Y 13 q).toNat)) : gXc w l yX5_changeCopy cX5_changeCopy 3 none 2 0 0 [.ref 1, .ref (18 + q), .int (iI v)] Y s A B (none) (su (su Y 4 (Y 13 q).toNat (Y 4 (Y 13 q).toNat + v)) 16 q (Y 16 q + v)) s A B := by
  refine gXc_start (by decide +kernel) (by simp [Value.category]) (Nat.le_of_ble_eq_true rfl) (fun m Wp h C H F => ?_)
  show gG w m 3 Wp h 0 0 [some (.ref 1), some (.ref (18 + q)), some (.int (iI v))] [] 0
  refine g_aload_n C 1 dX5_changeCopy_0 rfl rfl ?_
  refine x_ghome C H hq (by omega) (fX5_201 rfl) rfl ((Y 13 (q)).toNat) rfl dX5_changeCopy_1 ?_
  refine g_iload_n C 2 dX5_changeCopy_4 rfl rfl ?_
  refine x_call C H F [_] _ (kX5_120 rfl) (e2_hasRoomFor_t h6 v h1 h2 hp) rfl rfl (H.2.1.2.1 _ h6) (by decide) (Nat.le_refl _) (Nat.le_refl _) (Nat.le_of_ble_eq_true rfl) dX5_changeCopy_5 (fun h H F => ?_)
  refine g_if_eq C 37 dX5_changeCopy_8 (by decide) (by omega) (fun c8 => ?_) (fun c8 => ?_)
  · omega
  · refine g_aload_n C 1 dX5_changeCopy_11 rfl rfl ?_
    refine x_ghome C H hq (by omega) (fX5_201 rfl) rfl ((Y 13 q).toNat) rfl dX5_changeCopy_12 ?_
    refine g_dup C dX5_changeCopy_15 rfl ?_
    refine x_gmac C H h6 (by omega) (fX5_206 rfl) (Y 4 (Y 13 q).toNat) rfl dX5_changeCopy_16 ?_
    refine g_iload_n C 2 dX5_changeCopy_19 rfl rfl ?_
    refine g_iadd C dX5_changeCopy_20 ?_
    refine x_pmac C H F h6 (by omega) (fX5_206 rfl) dX5_changeCopy_21 (fun h H F => ?_)
    refine g_aload_n C 1 dX5_changeCopy_24 rfl rfl ?_
    refine g_dup C dX5_changeCopy_25 rfl ?_
    refine x_gsha C H hq (by omega) (fX5_184 rfl) rfl (Y 16 q) rfl dX5_changeCopy_26 ?_
    refine g_iload_n C 2 dX5_changeCopy_29 rfl rfl ?_
    refine g_iadd C dX5_changeCopy_30 ?_
    refine x_psha C H F hq (by omega) (fX5_184 rfl) rfl dX5_changeCopy_31 (fun h H F => ?_)
    refine g_goto C 42 dX5_changeCopy_34 (by decide) ?_
    exact g_vret C dX5_changeCopy_42 (Nat.le_refl _) (Nat.le_refl _) ⟨rfl, H, F⟩

set_option maxRecDepth 100000 in
set_option maxHeartbeats 4000000 in
theorem e5_changeCopy_f {q : Nat} (hq : q < 16) (h6 : (Y 13 q).toNat ≤ 6) (v : Int) (h1 : (-2147483648 ≤ (Y 4 (Y 13 q).toNat + v) ∧ (Y 4 (Y 13 q).toNat + v) < 2147483648)) (h2 : (-2147483648 ≤ Y 2 (Y 13 q).toNat ∧ Y 2 (Y 13 q).toNat < 2147483648)) (hp : ¬ (Y 4 (Y 13 q).toNat + v ≤ Y 2 (Y 13 q).toNat)) : gXc w l yX5_changeCopy cX5_changeCopy 3 none 2 0 0 [.ref 1, .ref (18 + q), .int (iI v)] Y s A B (none) (yfail Y q) s A B := by
  refine gXc_start (by decide +kernel) (by simp [Value.category]) (Nat.le_of_ble_eq_true rfl) (fun m Wp h C H F => ?_)
  show gG w m 3 Wp h 0 0 [some (.ref 1), some (.ref (18 + q)), some (.int (iI v))] [] 0
  refine g_aload_n C 1 dX5_changeCopy_0 rfl rfl ?_
  refine x_ghome C H hq (by omega) (fX5_201 rfl) rfl ((Y 13 (q)).toNat) rfl dX5_changeCopy_1 ?_
  refine g_iload_n C 2 dX5_changeCopy_4 rfl rfl ?_
  refine x_call C H F [_] _ (kX5_120 rfl) (e2_hasRoomFor_f h6 v h1 h2 hp) rfl rfl (H.2.1.2.1 _ h6) (by decide) (Nat.le_refl _) (Nat.le_refl _) (Nat.le_of_ble_eq_true rfl) dX5_changeCopy_5 (fun h H F => ?_)
  refine g_if_eq C 37 dX5_changeCopy_8 (by decide) (by omega) (fun c8 => ?_) (fun c8 => ?_)
  · refine g_aload_n C 0 dX5_changeCopy_37 rfl rfl ?_
    refine g_aload_n C 1 dX5_changeCopy_38 rfl rfl ?_
    refine x_call C H F [_] _ (kX5_187 rfl) (e5_failMove hq) rfl rfl H.2.1.1 (by decide) (Nat.le_refl _) (Nat.le_refl _) (Nat.le_of_ble_eq_true rfl) dX5_changeCopy_39 (fun h H F => ?_)
    exact g_vret C dX5_changeCopy_42 (Nat.le_refl _) (Nat.le_refl _) ⟨rfl, H, F⟩
  · omega

def yset (Y : gS) (s : Nat → Nat) (z : Nat) : Nat → gS
  | 0 => Y
  | k + 1 => su (yset Y s z k) 12 (s k) z
theorem yset_0 (Y : gS) (s : Nat → Nat) (z : Nat) : ∀ k, yset Y s z k 0 = Y 0
  | 0 => rfl
  | k + 1 => yset_0 Y s z k

set_option maxRecDepth 100000 in
set_option maxHeartbeats 4000000 in
theorem e5_settle {z : Nat} (hz : z ≤ 6) (ns : Nat) (hn : Y 0 7 = ns) (hns : ns ≤ 16) : gXc w l yX5_settleAllShardsOn cX5_settleAllShardsOn 3 none 0 0 0 [.ref 1, .ref (gma z)] Y s A B (none) (yset Y s z ns) s A B := by
  refine gXc_start (by decide +kernel) (by simp [Value.category]) (Nat.le_of_ble_eq_true rfl) (fun m Wp h C H F => ?_)
  obtain ⟨h0, hh0⟩ : ∃ h0, h0 = h := ⟨_, rfl⟩
  rw [← hh0] at C
  have F : FrX h0 h := by rw [hh0]; exact F
  have L : ∀ (n i : Nat) (h : gH), i + n = ns → RX (yset Y s z i) s A B h → FrX h0 h → gG w m 3 Wp h 0 0 [some (.ref 1), some (.ref (gma z)), some (.int (iI (i : Int)))] [] 2 := by
    intro n
    induction n with
    | zero =>
      intro i h h1 H F
      have e : i = ns := by omega
      subst e
      refine g_iload_n C 2 dX5_settleAllShardsOn_2 rfl rfl ?_
      refine g_aload_n C 0 dX5_settleAllShardsOn_3 rfl rfl ?_
      refine x_gmain C H (fX5_45 rfl) rfl (Y 0 7) (by rw [yset_0]) dX5_settleAllShardsOn_4 ?_
      refine g_icmp_ge C 26 dX5_settleAllShardsOn_7 (by decide) (by omega) (by omega) (fun c7 => ?_) (fun c7 => ?_)
      · exact g_vret C dX5_settleAllShardsOn_26 (Nat.le_refl _) (Nat.le_refl _) ⟨rfl, H, F⟩
      · omega
    | succ n ih =>
      intro i h h1 H F
      refine g_iload_n C 2 dX5_settleAllShardsOn_2 rfl rfl ?_
      refine g_aload_n C 0 dX5_settleAllShardsOn_3 rfl rfl ?_
      refine x_gmain C H (fX5_45 rfl) rfl (Y 0 7) (by rw [yset_0]) dX5_settleAllShardsOn_4 ?_
      refine g_icmp_ge C 26 dX5_settleAllShardsOn_7 (by decide) (by omega) (by omega) (fun c7 => ?_) (fun c7 => ?_)
      · omega
      · refine g_aload_n C 0 dX5_settleAllShardsOn_10 rfl rfl ?_
        refine x_rmain C H 17 (fX5_38 rfl) (by omega) dX5_settleAllShardsOn_11 ?_
        refine g_iload_n C 2 dX5_settleAllShardsOn_14 rfl rfl ?_
        refine x_shas C H i (by omega) (by omega) _ rfl dX5_settleAllShardsOn_15 ?_
        refine g_aload_n C 1 dX5_settleAllShardsOn_16 rfl rfl ?_
        refine x_phome C H F (H.2.2.1.2.2.2 i (by omega)).1 (by omega) hz (fX5_117 rfl) rfl dX5_settleAllShardsOn_17 (fun h H F => ?_)
        refine s_iinc (lo' := [_, _, _]) C dX5_settleAllShardsOn_20 rfl (by decide) rfl ?_
        refine g_goto C 2 dX5_settleAllShardsOn_23 (by decide) ?_
        exact ih (i + 1) _ (by omega) H F
  show gG w m 3 Wp h 0 0 [some (.ref 1), some (.ref (gma z)), none] [] 0
  refine g_iconst C dX5_settleAllShardsOn_0 ?_
  refine s_istore_n (lo' := [_, _, _]) C 2 dX5_settleAllShardsOn_1 rfl (by decide) rfl ?_
  exact L ns 0 _ (by omega) H F

def ycut (Y : gS) (q1 q2 : Nat) (key : Int) : gS := su (su (su (su (su (su (su (su Y 10 q2 key) 11 q2 (Y 11 q1)) 12 q2 (Y 12 q1).toNat) 17 q2 (gsum (Y 8) key.toNat (Y 11 q1 + 1 - key).toNat)) 18 q2 (Y 18 q1 - Y 18 q1 / 2)) 11 q1 (key - 1)) 17 q1 (Y 17 q1 - gsum (Y 8) key.toNat (Y 11 q1 + 1 - key).toNat)) 18 q1 (Y 18 q1 / 2)

set_option maxRecDepth 100000 in
set_option maxHeartbeats 4000000 in
theorem e5_cutInTwo {q1 q2 : Nat} (hq1 : q1 < 16) (hq2 : q2 < 16) (hne : q1 ≠ q2) (h6 : (Y 12 q1).toNat ≤ 6) (key : Int) (hk : 0 ≤ key ∧ key ≤ 1000) (hl : -1 ≤ Y 11 q1 ∧ Y 11 q1 ≤ 999) (hh : 0 ≤ Y 18 q1 ∧ Y 18 q1 < 2147483648) : gXc w l yX5_cutInTwo cX5_cutInTwo 4 none 1 0 0 [.ref 1, .ref (18 + q1), .ref (18 + q2), .int (iI key)] Y s A B (none) (ycut Y q1 q2 key) s A B := by
  refine gXc_start (by decide +kernel) (by simp [Value.category]) (Nat.le_of_ble_eq_true rfl) (fun m Wp h C H F => ?_)
  show gG w m 4 Wp h 0 0 [some (.ref 1), some (.ref (18 + q1)), some (.ref (18 + q2)), some (.int (iI key))] [] 0
  refine g_aload_n C 2 dX5_cutInTwo_0 rfl rfl ?_
  refine g_iload_n C 3 dX5_cutInTwo_1 rfl rfl ?_
  refine x_psha C H F hq2 (by omega) (fX5_147 rfl) rfl dX5_cutInTwo_2 (fun h H F => ?_)
  refine g_aload_n C 2 dX5_cutInTwo_5 rfl rfl ?_
  refine g_aload_n C 1 dX5_cutInTwo_6 rfl rfl ?_
  refine x_gsha C H hq1 (by omega) (fX5_171 rfl) rfl (Y 11 q1) (by simp [su_f, hne]) dX5_cutInTwo_7 ?_
  refine x_psha C H F hq2 (by omega) (fX5_171 rfl) rfl dX5_cutInTwo_10 (fun h H F => ?_)
  refine g_aload_n C 2 dX5_cutInTwo_13 rfl rfl ?_
  refine g_aload_n C 1 dX5_cutInTwo_14 rfl rfl ?_
  refine x_ghome C H hq1 (by omega) (fX5_117 rfl) rfl ((Y 12 q1).toNat) rfl dX5_cutInTwo_15 ?_
  refine x_phome C H F hq2 (by omega) h6 (fX5_117 rfl) rfl dX5_cutInTwo_18 (fun h H F => ?_)
  refine g_aload_n C 2 dX5_cutInTwo_21 rfl rfl ?_
  refine g_aload_n C 0 dX5_cutInTwo_22 rfl rfl ?_
  refine g_aload_n C 2 dX5_cutInTwo_23 rfl rfl ?_
  refine x_gsha C H hq2 (by omega) (fX5_147 rfl) rfl (key) (by simp [su_f, hne]) dX5_cutInTwo_24 ?_
  refine g_aload_n C 2 dX5_cutInTwo_27 rfl rfl ?_
  refine x_gsha C H hq2 (by omega) (fX5_171 rfl) rfl (Y 11 q1) (by simp [su_f, hne]) dX5_cutInTwo_28 ?_
  refine x_call C H F [_, _] _ (kX5_274 rfl) (e5_bytesBetween key (Y 11 q1) hk hl) rfl rfl H.2.1.1 (by decide) (Nat.le_refl _) (Nat.le_refl _) (Nat.le_of_ble_eq_true rfl) dX5_cutInTwo_31 (fun h H F => ?_)
  refine x_psha C H F hq2 (by omega) (fX5_174 rfl) rfl dX5_cutInTwo_34 (fun h H F => ?_)
  refine g_aload_n C 2 dX5_cutInTwo_37 rfl rfl ?_
  refine g_aload_n C 1 dX5_cutInTwo_38 rfl rfl ?_
  refine x_gsha C H hq1 (by omega) (fX5_142 rfl) rfl (Y 18 q1) (by simp [su_f, hne]) dX5_cutInTwo_39 ?_
  refine g_aload_n C 1 dX5_cutInTwo_42 rfl rfl ?_
  refine x_gsha C H hq1 (by omega) (fX5_142 rfl) rfl (Y 18 q1) (by simp [su_f, hne]) dX5_cutInTwo_43 ?_
  refine g_iconst C dX5_cutInTwo_46 ?_
  refine g_half C dX5_cutInTwo_47 hh.1 hh.2 ?_
  refine g_isub C dX5_cutInTwo_48 ?_
  refine x_psha C H F hq2 (by omega) (fX5_142 rfl) rfl dX5_cutInTwo_49 (fun h H F => ?_)
  refine g_aload_n C 1 dX5_cutInTwo_52 rfl rfl ?_
  refine g_iload_n C 3 dX5_cutInTwo_53 rfl rfl ?_
  refine g_iconst C dX5_cutInTwo_54 ?_
  refine g_isub C dX5_cutInTwo_55 ?_
  refine x_psha C H F hq1 (by omega) (fX5_171 rfl) rfl dX5_cutInTwo_56 (fun h H F => ?_)
  refine g_aload_n C 1 dX5_cutInTwo_59 rfl rfl ?_
  refine g_dup C dX5_cutInTwo_60 rfl ?_
  refine x_gsha C H hq1 (by omega) (fX5_174 rfl) rfl (Y 17 q1) (by simp [su_f, hne]) dX5_cutInTwo_61 ?_
  refine g_aload_n C 2 dX5_cutInTwo_64 rfl rfl ?_
  refine x_gsha C H hq2 (by omega) (fX5_174 rfl) rfl (gsum (Y 8) key.toNat (Y 11 q1 + 1 - key).toNat) (by simp [su_f, hne]; rfl) dX5_cutInTwo_65 ?_
  refine g_isub C dX5_cutInTwo_68 ?_
  refine x_psha C H F hq1 (by omega) (fX5_174 rfl) rfl dX5_cutInTwo_69 (fun h H F => ?_)
  refine g_aload_n C 1 dX5_cutInTwo_72 rfl rfl ?_
  refine g_dup C dX5_cutInTwo_73 rfl ?_
  refine x_gsha C H hq1 (by omega) (fX5_142 rfl) rfl (Y 18 q1) (by simp [su_f, hne]) dX5_cutInTwo_74 ?_
  refine g_iconst C dX5_cutInTwo_77 ?_
  refine g_half C dX5_cutInTwo_78 hh.1 hh.2 ?_
  refine x_psha C H F hq1 (by omega) (fX5_142 rfl) rfl dX5_cutInTwo_79 (fun h H F => ?_)
  exact g_vret C dX5_cutInTwo_82 (Nat.le_refl _) (Nat.le_refl _) ⟨rfl, H, F⟩

set_option maxRecDepth 100000 in
set_option maxHeartbeats 4000000 in
theorem e5_canBeJoined {q1 q2 : Nat} (hq1 : q1 < 16) (hq2 : q2 < 16) (h61 : (Y 12 q1).toNat ≤ 6) (h62 : (Y 12 q2).toNat ≤ 6) (hN : gNu Y) : gXc w l yX5_canBeJoined cX5_canBeJoined 3 (some .boolean) 1 0 0 [.ref 1, .ref (18 + q1), .ref (18 + q2)] Y s A B (some (.int (iI (bI ((Y 12 q1).toNat = (Y 12 q2).toNat ∧ Y 13 q1 = 0 ∧ Y 13 q2 = 0))))) (Y) s A B := by
  refine gXc_start (by decide +kernel) (by simp [Value.category]) (Nat.le_of_ble_eq_true rfl) (fun m Wp h C H F => ?_)
  by_cases e1 : Y 13 q1 = 0
  · by_cases e2 : Y 13 q2 = 0
    · show gG w m 3 Wp h 0 0 [some (.ref 1), some (.ref (18 + q1)), some (.ref (18 + q2))] [] 0
      refine g_aload_n C 1 dX5_canBeJoined_0 rfl rfl ?_
      refine x_ghome C H hq1 (by omega) (fX5_117 rfl) rfl ((Y 12 (q1)).toNat) rfl dX5_canBeJoined_1 ?_
      refine g_aload_n C 2 dX5_canBeJoined_4 rfl rfl ?_
      refine x_ghome C H hq2 (by omega) (fX5_117 rfl) rfl ((Y 12 (q2)).toNat) rfl dX5_canBeJoined_5 ?_
      refine x_acmp_ne C h61 h62 29 dX5_canBeJoined_8 (by decide) (fun c8 => ?_) (fun c8 => ?_)
      · rw [bI_f (fun z => c8 z.1)] at C
        refine g_iconst C dX5_canBeJoined_29 ?_
        exact g_zret C dX5_canBeJoined_30 (by omega) (Nat.le_refl _) (Nat.le_refl _) ⟨rfl, H, F⟩
      · refine g_aload_n C 1 dX5_canBeJoined_11 rfl rfl ?_
        refine x_call C H F [] _ (kX5_150 rfl) (e3_isMoving_f hq1 hN e1) rfl rfl (H.2.1.2.2.2.2.2.2.2.2 _ hq1) (by decide) (Nat.le_refl _) (Nat.le_refl _) (Nat.le_of_ble_eq_true rfl) dX5_canBeJoined_12 (fun h H F => ?_)
        refine g_if_ne C 29 dX5_canBeJoined_15 (by decide) (by omega) (fun c15 => ?_) (fun c15 => ?_)
        · omega
        · refine g_aload_n C 2 dX5_canBeJoined_18 rfl rfl ?_
          refine x_call C H F [] _ (kX5_150 rfl) (e3_isMoving_f hq2 hN e2) rfl rfl (H.2.1.2.2.2.2.2.2.2.2 _ hq2) (by decide) (Nat.le_refl _) (Nat.le_refl _) (Nat.le_of_ble_eq_true rfl) dX5_canBeJoined_19 (fun h H F => ?_)
          refine g_if_ne C 29 dX5_canBeJoined_22 (by decide) (by omega) (fun c22 => ?_) (fun c22 => ?_)
          · omega
          · rw [bI_t ⟨c8, e1, e2⟩] at C
            refine g_iconst C dX5_canBeJoined_25 ?_
            refine g_goto C 30 dX5_canBeJoined_26 (by decide) ?_
            exact g_zret C dX5_canBeJoined_30 (by omega) (Nat.le_refl _) (Nat.le_refl _) ⟨rfl, H, F⟩
    · show gG w m 3 Wp h 0 0 [some (.ref 1), some (.ref (18 + q1)), some (.ref (18 + q2))] [] 0
      refine g_aload_n C 1 dX5_canBeJoined_0 rfl rfl ?_
      refine x_ghome C H hq1 (by omega) (fX5_117 rfl) rfl ((Y 12 (q1)).toNat) rfl dX5_canBeJoined_1 ?_
      refine g_aload_n C 2 dX5_canBeJoined_4 rfl rfl ?_
      refine x_ghome C H hq2 (by omega) (fX5_117 rfl) rfl ((Y 12 (q2)).toNat) rfl dX5_canBeJoined_5 ?_
      refine x_acmp_ne C h61 h62 29 dX5_canBeJoined_8 (by decide) (fun c8 => ?_) (fun c8 => ?_)
      · rw [bI_f (fun z => e2 z.2.2)] at C
        refine g_iconst C dX5_canBeJoined_29 ?_
        exact g_zret C dX5_canBeJoined_30 (by omega) (Nat.le_refl _) (Nat.le_refl _) ⟨rfl, H, F⟩
      · refine g_aload_n C 1 dX5_canBeJoined_11 rfl rfl ?_
        refine x_call C H F [] _ (kX5_150 rfl) (e3_isMoving_f hq1 hN e1) rfl rfl (H.2.1.2.2.2.2.2.2.2.2 _ hq1) (by decide) (Nat.le_refl _) (Nat.le_refl _) (Nat.le_of_ble_eq_true rfl) dX5_canBeJoined_12 (fun h H F => ?_)
        refine g_if_ne C 29 dX5_canBeJoined_15 (by decide) (by omega) (fun c15 => ?_) (fun c15 => ?_)
        · omega
        · refine g_aload_n C 2 dX5_canBeJoined_18 rfl rfl ?_
          refine x_call C H F [] _ (kX5_150 rfl) (e3_isMoving_t hq2 hN e2) rfl rfl (H.2.1.2.2.2.2.2.2.2.2 _ hq2) (by decide) (Nat.le_refl _) (Nat.le_refl _) (Nat.le_of_ble_eq_true rfl) dX5_canBeJoined_19 (fun h H F => ?_)
          refine g_if_ne C 29 dX5_canBeJoined_22 (by decide) (by omega) (fun c22 => ?_) (fun c22 => ?_)
          · rw [bI_f (fun z => e2 z.2.2)] at C
            refine g_iconst C dX5_canBeJoined_29 ?_
            exact g_zret C dX5_canBeJoined_30 (by omega) (Nat.le_refl _) (Nat.le_refl _) ⟨rfl, H, F⟩
          · omega
  · show gG w m 3 Wp h 0 0 [some (.ref 1), some (.ref (18 + q1)), some (.ref (18 + q2))] [] 0
    refine g_aload_n C 1 dX5_canBeJoined_0 rfl rfl ?_
    refine x_ghome C H hq1 (by omega) (fX5_117 rfl) rfl ((Y 12 (q1)).toNat) rfl dX5_canBeJoined_1 ?_
    refine g_aload_n C 2 dX5_canBeJoined_4 rfl rfl ?_
    refine x_ghome C H hq2 (by omega) (fX5_117 rfl) rfl ((Y 12 (q2)).toNat) rfl dX5_canBeJoined_5 ?_
    refine x_acmp_ne C h61 h62 29 dX5_canBeJoined_8 (by decide) (fun c8 => ?_) (fun c8 => ?_)
    · rw [bI_f (fun z => e1 z.2.1)] at C
      refine g_iconst C dX5_canBeJoined_29 ?_
      exact g_zret C dX5_canBeJoined_30 (by omega) (Nat.le_refl _) (Nat.le_refl _) ⟨rfl, H, F⟩
    · refine g_aload_n C 1 dX5_canBeJoined_11 rfl rfl ?_
      refine x_call C H F [] _ (kX5_150 rfl) (e3_isMoving_t hq1 hN e1) rfl rfl (H.2.1.2.2.2.2.2.2.2.2 _ hq1) (by decide) (Nat.le_refl _) (Nat.le_refl _) (Nat.le_of_ble_eq_true rfl) dX5_canBeJoined_12 (fun h H F => ?_)
      refine g_if_ne C 29 dX5_canBeJoined_15 (by decide) (by omega) (fun c15 => ?_) (fun c15 => ?_)
      · rw [bI_f (fun z => e1 z.2.1)] at C
        refine g_iconst C dX5_canBeJoined_29 ?_
        exact g_zret C dX5_canBeJoined_30 (by omega) (Nat.le_refl _) (Nat.le_refl _) ⟨rfl, H, F⟩
      · omega

def yfmo (Y : gS) (s : Nat → Nat) (z : Nat) : Nat → gS
  | 0 => Y
  | k + 1 => if yfmo Y s z k 13 (s k) ≠ 0 ∧ ((yfmo Y s z k 12 (s k)).toNat = z ∨ (yfmo Y s z k 13 (s k)).toNat = z) then yfail (yfmo Y s z k) (s k) else yfmo Y s z k
theorem yfail_1 (Y : gS) (q : Nat) : yfail Y q 1 = Y 1 ∧ yfail Y q 0 7 = Y 0 7 := ⟨rfl, rfl⟩
theorem yfmo_k (Y : gS) (s : Nat → Nat) (z : Nat) : ∀ k, yfmo Y s z k 1 = Y 1 ∧ yfmo Y s z k 0 7 = Y 0 7
  | 0 => ⟨rfl, rfl⟩
  | k + 1 => by
    have h := yfmo_k Y s z k
    unfold yfmo
    split
    · exact h
    · exact h

set_option maxRecDepth 100000 in
set_option maxHeartbeats 4000000 in
theorem e5_failMovesOf {z : Nat} (hz : z ≤ 6) (hz0 : 0 < z) (ns : Nat) (hn : Y 0 7 = ns) (hns : ns ≤ 16) (hN : gNu Y) : gXc w l yX5_failMovesOf cX5_failMovesOf 4 none 2 0 0 [.ref 1, .ref (gma z)] Y s A B (none) (yfmo Y s z ns) s A B := by
  refine gXc_start (by decide +kernel) (by simp [Value.category]) (Nat.le_of_ble_eq_true rfl) (fun m Wp h C H F => ?_)
  obtain ⟨h0, hh0⟩ : ∃ h0, h0 = h := ⟨_, rfl⟩
  rw [← hh0] at C
  have F : FrX h0 h := by rw [hh0]; exact F
  have L : ∀ (n i : Nat) (h : gH) (x3 : Option Value), i + n = ns → RX (yfmo Y s z i) s A B h → FrX h0 h → gG w m 4 Wp h 0 0 [some (.ref 1), some (.ref (gma z)), some (.int (iI (i : Int))), x3] [] 2 := by
    intro n
    induction n with
    | zero =>
      intro i h x3 h1 H F
      have e : i = ns := by omega
      subst e
      have hk := yfmo_k Y s z i
      have hNk : gNu (yfmo Y s z i) := fun y hy => by rw [hk.1]; exact hN y hy
      refine g_iload_n C 2 dX5_failMovesOf_2 rfl rfl ?_
      refine g_aload_n C 0 dX5_failMovesOf_3 rfl rfl ?_
      refine x_gmain C H (fX5_45 rfl) rfl (Y 0 7) hk.2 dX5_failMovesOf_4 ?_
      refine g_icmp_ge C 51 dX5_failMovesOf_7 (by decide) (by omega) (by omega) (fun c7 => ?_) (fun c7 => ?_)
      · exact g_vret C dX5_failMovesOf_51 (Nat.le_refl _) (Nat.le_refl _) ⟨rfl, H, F⟩
      · omega
    | succ n ih =>
      intro i h x3 h1 H F
      have hk := yfmo_k Y s z i
      have hNk : gNu (yfmo Y s z i) := fun y hy => by rw [hk.1]; exact hN y hy
      have hsi := (H.2.2.1.2.2.2 i (by omega)).1
      have hz2 := (H.2.2.2.1.2.2.2.2.2.2 (s i) hsi 2 (Or.inl rfl)).1
      have hz3 := (H.2.2.2.1.2.2.2.2.2.2 (s i) hsi 3 (Or.inr rfl)).1
      by_cases em : yfmo Y s z i 13 (s i) = 0
      · refine g_iload_n C 2 dX5_failMovesOf_2 rfl rfl ?_
        refine g_aload_n C 0 dX5_failMovesOf_3 rfl rfl ?_
        refine x_gmain C H (fX5_45 rfl) rfl (Y 0 7) hk.2 dX5_failMovesOf_4 ?_
        refine g_icmp_ge C 51 dX5_failMovesOf_7 (by decide) (by omega) (by omega) (fun c7 => ?_) (fun c7 => ?_)
        · omega
        · refine g_aload_n C 0 dX5_failMovesOf_10 rfl rfl ?_
          refine x_rmain C H 17 (fX5_38 rfl) (by omega) dX5_failMovesOf_11 ?_
          refine g_iload_n C 2 dX5_failMovesOf_14 rfl rfl ?_
          refine x_shas C H i (by omega) (by omega) _ rfl dX5_failMovesOf_15 ?_
          refine s_astore_n (lo' := [_, _, _, _]) C 3 dX5_failMovesOf_16 rfl (by decide) rfl ?_
          refine g_aload_n C 3 dX5_failMovesOf_17 rfl rfl ?_
          refine x_call C H F [] _ (kX5_150 rfl) (e3_isMoving_f hsi hNk em) rfl rfl (H.2.1.2.2.2.2.2.2.2.2 _ hsi) (by decide) (Nat.le_refl _) (Nat.le_refl _) (Nat.le_of_ble_eq_true rfl) dX5_failMovesOf_18 (fun h H F => ?_)
          refine g_if_eq C 45 dX5_failMovesOf_21 (by decide) (by omega) (fun c21 => ?_) (fun c21 => ?_)
          · refine s_iinc (lo' := [_, _, _, _]) C dX5_failMovesOf_45 rfl (by decide) rfl ?_
            refine g_goto C 2 dX5_failMovesOf_48 (by decide) ?_
            exact ih (i + 1) _ _ (by omega) (by rw [yfmo, if_neg (fun z => z.1 em)]; exact H) F
          · omega
      · refine g_iload_n C 2 dX5_failMovesOf_2 rfl rfl ?_
        refine g_aload_n C 0 dX5_failMovesOf_3 rfl rfl ?_
        refine x_gmain C H (fX5_45 rfl) rfl (Y 0 7) hk.2 dX5_failMovesOf_4 ?_
        refine g_icmp_ge C 51 dX5_failMovesOf_7 (by decide) (by omega) (by omega) (fun c7 => ?_) (fun c7 => ?_)
        · omega
        · refine g_aload_n C 0 dX5_failMovesOf_10 rfl rfl ?_
          refine x_rmain C H 17 (fX5_38 rfl) (by omega) dX5_failMovesOf_11 ?_
          refine g_iload_n C 2 dX5_failMovesOf_14 rfl rfl ?_
          refine x_shas C H i (by omega) (by omega) _ rfl dX5_failMovesOf_15 ?_
          refine s_astore_n (lo' := [_, _, _, _]) C 3 dX5_failMovesOf_16 rfl (by decide) rfl ?_
          refine g_aload_n C 3 dX5_failMovesOf_17 rfl rfl ?_
          refine x_call C H F [] _ (kX5_150 rfl) (e3_isMoving_t hsi hNk em) rfl rfl (H.2.1.2.2.2.2.2.2.2.2 _ hsi) (by decide) (Nat.le_refl _) (Nat.le_refl _) (Nat.le_of_ble_eq_true rfl) dX5_failMovesOf_18 (fun h H F => ?_)
          refine g_if_eq C 45 dX5_failMovesOf_21 (by decide) (by omega) (fun c21 => ?_) (fun c21 => ?_)
          · omega
          · refine g_aload_n C 3 dX5_failMovesOf_24 rfl rfl ?_
            refine x_ghome C H hsi (by omega) (fX5_117 rfl) rfl ((yfmo Y s z i 12 (s i)).toNat) rfl dX5_failMovesOf_25 ?_
            refine g_aload_n C 1 dX5_failMovesOf_28 rfl rfl ?_
            refine x_acmp_eq C (x_z6 (i := 2) H hsi (by omega)) hz 40 dX5_failMovesOf_29 (by decide) (fun c29 => ?_) (fun c29 => ?_)
            · refine g_aload_n C 0 dX5_failMovesOf_40 rfl rfl ?_
              refine g_aload_n C 3 dX5_failMovesOf_41 rfl rfl ?_
              refine x_call C H F [_] _ (kX5_187 rfl) (e5_failMove hsi) rfl rfl H.2.1.1 (by decide) (Nat.le_refl _) (Nat.le_refl _) (Nat.le_of_ble_eq_true rfl) dX5_failMovesOf_42 (fun h H F => ?_)
              refine s_iinc (lo' := [_, _, _, _]) C dX5_failMovesOf_45 rfl (by decide) rfl ?_
              refine g_goto C 2 dX5_failMovesOf_48 (by decide) ?_
              exact ih (i + 1) _ _ (by omega) (by rw [yfmo, if_pos ⟨em, by omega⟩]; exact H) F
            · refine g_aload_n C 3 dX5_failMovesOf_32 rfl rfl ?_
              refine x_ghome C H hsi (by omega) (fX5_201 rfl) rfl ((yfmo Y s z i 13 (s i)).toNat) rfl dX5_failMovesOf_33 ?_
              refine g_aload_n C 1 dX5_failMovesOf_36 rfl rfl ?_
              refine x_acmp_ne C (x_z6 (i := 3) H hsi (by omega)) hz 45 dX5_failMovesOf_37 (by decide) (fun c37 => ?_) (fun c37 => ?_)
              · refine s_iinc (lo' := [_, _, _, _]) C dX5_failMovesOf_45 rfl (by decide) rfl ?_
                refine g_goto C 2 dX5_failMovesOf_48 (by decide) ?_
                exact ih (i + 1) _ _ (by omega) (by rw [yfmo, if_neg (fun z => by omega)]; exact H) F
              · refine g_aload_n C 0 dX5_failMovesOf_40 rfl rfl ?_
                refine g_aload_n C 3 dX5_failMovesOf_41 rfl rfl ?_
                refine x_call C H F [_] _ (kX5_187 rfl) (e5_failMove hsi) rfl rfl H.2.1.1 (by decide) (Nat.le_refl _) (Nat.le_refl _) (Nat.le_of_ble_eq_true rfl) dX5_failMovesOf_42 (fun h H F => ?_)
                refine s_iinc (lo' := [_, _, _, _]) C dX5_failMovesOf_45 rfl (by decide) rfl ?_
                refine g_goto C 2 dX5_failMovesOf_48 (by decide) ?_
                exact ih (i + 1) _ _ (by omega) (by rw [yfmo, if_pos ⟨em, by omega⟩]; exact H) F
  show gG w m 4 Wp h 0 0 [some (.ref 1), some (.ref (gma z)), none, none] [] 0
  refine g_iconst C dX5_failMovesOf_0 ?_
  refine s_istore_n (lo' := [_, _, _, _]) C 2 dX5_failMovesOf_1 rfl (by decide) rfl ?_
  exact L ns 0 _ _ (by omega) H F

def ymv (Y : gS) (s : Nat → Nat) (z : Nat) : Nat → Int
  | 0 => 0
  | k + 1 => if ymv Y s z k ≠ 0 ∨ ((Y 12 (s k)).toNat = z ∧ Y 13 (s k) ≠ 0) then 1 else 0
theorem ymv_1 (Y : gS) (s : Nat → Nat) (z : Nat) {i : Nat} (h : ymv Y s z i = 1) : ∀ n, ymv Y s z (i + n) = 1
  | 0 => h
  | n + 1 => by
    have := ymv_1 Y s z h n
    show (if ymv Y s z (i + n) ≠ 0 ∨ _ then (1 : Int) else 0) = 1
    rw [if_pos (Or.inl (by omega))]

set_option maxRecDepth 100000 in
set_option maxHeartbeats 4000000 in
theorem e5_movesAwayFrom {z : Nat} (hz : z ≤ 6) (ns : Nat) (hn : Y 0 7 = ns) (hns : ns ≤ 16) (hN : gNu Y) : gXc w l yX5_movesAwayFrom cX5_movesAwayFrom 3 (some .boolean) 1 0 0 [.ref 1, .ref (gma z)] Y s A B (some (.int (iI (ymv Y s z ns)))) (Y) s A B := by
  refine gXc_start (by decide +kernel) (by simp [Value.category]) (Nat.le_of_ble_eq_true rfl) (fun m Wp h C H F => ?_)
  obtain ⟨h0, hh0⟩ : ∃ h0, h0 = h := ⟨_, rfl⟩
  rw [← hh0] at C
  have F : FrX h0 h := by rw [hh0]; exact F
  have L : ∀ (n i : Nat) (h : gH), i + n = ns → ymv Y s z i = 0 → RX Y s A B h → FrX h0 h → gG w m 3 Wp h 0 0 [some (.ref 1), some (.ref (gma z)), some (.int (iI (i : Int)))] [] 2 := by
    intro n
    induction n with
    | zero =>
      intro i h h1 hm H F
      have e : i = ns := by omega
      subst e
      refine g_iload_n C 2 dX5_movesAwayFrom_2 rfl rfl ?_
      refine g_aload_n C 0 dX5_movesAwayFrom_3 rfl rfl ?_
      refine x_gmain C H (fX5_45 rfl) rfl (Y 0 7) rfl dX5_movesAwayFrom_4 ?_
      refine g_icmp_ge C 43 dX5_movesAwayFrom_7 (by decide) (by omega) (by omega) (fun c7 => ?_) (fun c7 => ?_)
      · refine g_iconst C dX5_movesAwayFrom_43 ?_
        exact g_zret C dX5_movesAwayFrom_44 (Or.inl rfl) (Nat.le_refl _) (Nat.le_refl _) ⟨by rw [hm], H, F⟩
      · omega
    | succ n ih =>
      intro i h h1 hm H F
      have hsi := (H.2.2.1.2.2.2 i (by omega)).1
      by_cases em : Y 13 (s i) = 0
      · refine g_iload_n C 2 dX5_movesAwayFrom_2 rfl rfl ?_
        refine g_aload_n C 0 dX5_movesAwayFrom_3 rfl rfl ?_
        refine x_gmain C H (fX5_45 rfl) rfl (Y 0 7) rfl dX5_movesAwayFrom_4 ?_
        refine g_icmp_ge C 43 dX5_movesAwayFrom_7 (by decide) (by omega) (by omega) (fun c7 => ?_) (fun c7 => ?_)
        · omega
        · refine g_aload_n C 0 dX5_movesAwayFrom_10 rfl rfl ?_
          refine x_rmain C H 17 (fX5_38 rfl) (by omega) dX5_movesAwayFrom_11 ?_
          refine g_iload_n C 2 dX5_movesAwayFrom_14 rfl rfl ?_
          refine x_shas C H i (by omega) (by omega) _ rfl dX5_movesAwayFrom_15 ?_
          refine x_ghome C H hsi (by omega) (fX5_117 rfl) rfl ((Y 12 ((s i))).toNat) rfl dX5_movesAwayFrom_16 ?_
          refine g_aload_n C 1 dX5_movesAwayFrom_19 rfl rfl ?_
          refine x_acmp_ne C (x_z6 (i := 2) H hsi (by omega)) hz 37 dX5_movesAwayFrom_20 (by decide) (fun c20 => ?_) (fun c20 => ?_)
          · refine s_iinc (lo' := [_, _, _]) C dX5_movesAwayFrom_37 rfl (by decide) rfl ?_
            refine g_goto C 2 dX5_movesAwayFrom_40 (by decide) ?_
            exact ih (i + 1) _ (by omega) (by rw [ymv, if_neg (fun q => q.elim (fun a => a hm) (fun a => a.2 em))]) H F
          · refine g_aload_n C 0 dX5_movesAwayFrom_23 rfl rfl ?_
            refine x_rmain C H 17 (fX5_38 rfl) (by omega) dX5_movesAwayFrom_24 ?_
            refine g_iload_n C 2 dX5_movesAwayFrom_27 rfl rfl ?_
            refine x_shas C H i (by omega) (by omega) _ rfl dX5_movesAwayFrom_28 ?_
            refine x_call C H F [] _ (kX5_150 rfl) (e3_isMoving_f hsi hN em) rfl rfl (H.2.1.2.2.2.2.2.2.2.2 _ hsi) (by decide) (Nat.le_refl _) (Nat.le_refl _) (Nat.le_of_ble_eq_true rfl) dX5_movesAwayFrom_29 (fun h H F => ?_)
            refine g_if_eq C 37 dX5_movesAwayFrom_32 (by decide) (by omega) (fun c32 => ?_) (fun c32 => ?_)
            · refine s_iinc (lo' := [_, _, _]) C dX5_movesAwayFrom_37 rfl (by decide) rfl ?_
              refine g_goto C 2 dX5_movesAwayFrom_40 (by decide) ?_
              exact ih (i + 1) _ (by omega) (by rw [ymv, if_neg (fun q => q.elim (fun a => a hm) (fun a => a.2 em))]) H F
            · omega
      · refine g_iload_n C 2 dX5_movesAwayFrom_2 rfl rfl ?_
        refine g_aload_n C 0 dX5_movesAwayFrom_3 rfl rfl ?_
        refine x_gmain C H (fX5_45 rfl) rfl (Y 0 7) rfl dX5_movesAwayFrom_4 ?_
        refine g_icmp_ge C 43 dX5_movesAwayFrom_7 (by decide) (by omega) (by omega) (fun c7 => ?_) (fun c7 => ?_)
        · omega
        · refine g_aload_n C 0 dX5_movesAwayFrom_10 rfl rfl ?_
          refine x_rmain C H 17 (fX5_38 rfl) (by omega) dX5_movesAwayFrom_11 ?_
          refine g_iload_n C 2 dX5_movesAwayFrom_14 rfl rfl ?_
          refine x_shas C H i (by omega) (by omega) _ rfl dX5_movesAwayFrom_15 ?_
          refine x_ghome C H hsi (by omega) (fX5_117 rfl) rfl ((Y 12 ((s i))).toNat) rfl dX5_movesAwayFrom_16 ?_
          refine g_aload_n C 1 dX5_movesAwayFrom_19 rfl rfl ?_
          refine x_acmp_ne C (x_z6 (i := 2) H hsi (by omega)) hz 37 dX5_movesAwayFrom_20 (by decide) (fun c20 => ?_) (fun c20 => ?_)
          · refine s_iinc (lo' := [_, _, _]) C dX5_movesAwayFrom_37 rfl (by decide) rfl ?_
            refine g_goto C 2 dX5_movesAwayFrom_40 (by decide) ?_
            exact ih (i + 1) _ (by omega) (by rw [ymv, if_neg (fun q => q.elim (fun a => a hm) (fun a => c20 a.1))]) H F
          · refine g_aload_n C 0 dX5_movesAwayFrom_23 rfl rfl ?_
            refine x_rmain C H 17 (fX5_38 rfl) (by omega) dX5_movesAwayFrom_24 ?_
            refine g_iload_n C 2 dX5_movesAwayFrom_27 rfl rfl ?_
            refine x_shas C H i (by omega) (by omega) _ rfl dX5_movesAwayFrom_28 ?_
            refine x_call C H F [] _ (kX5_150 rfl) (e3_isMoving_t hsi hN em) rfl rfl (H.2.1.2.2.2.2.2.2.2.2 _ hsi) (by decide) (Nat.le_refl _) (Nat.le_refl _) (Nat.le_of_ble_eq_true rfl) dX5_movesAwayFrom_29 (fun h H F => ?_)
            refine g_if_eq C 37 dX5_movesAwayFrom_32 (by decide) (by omega) (fun c32 => ?_) (fun c32 => ?_)
            · omega
            · have he1 : ymv Y s z ns = 1 := by have := ymv_1 Y s z (i := i + 1) (by rw [ymv, if_pos (Or.inr ⟨c20, em⟩)]) n; rwa [show i + 1 + n = ns by omega] at this
              refine g_iconst C dX5_movesAwayFrom_35 ?_
              exact g_zret C dX5_movesAwayFrom_36 (Or.inr rfl) (Nat.le_refl _) (Nat.le_refl _) ⟨by rw [he1], H, F⟩
  show gG w m 3 Wp h 0 0 [some (.ref 1), some (.ref (gma z)), none] [] 0
  refine g_iconst C dX5_movesAwayFrom_0 ?_
  refine s_istore_n (lo' := [_, _, _]) C 2 dX5_movesAwayFrom_1 rfl (by decide) rfl ?_
  exact L ns 0 _ (by omega) rfl H F

def ybest (Y : gS) (s : Nat → Nat) (z : Nat) : Nat → Int
  | 0 => -1
  | k + 1 => if (Y 12 (s k)).toNat = z ∧ (ybest Y s z k = -1 ∨ Y 18 (s (ybest Y s z k).toNat) < Y 18 (s k)) then (k : Int) else ybest Y s z k
theorem ybest_r (Y : gS) (s : Nat → Nat) (z : Nat) : ∀ k, -1 ≤ ybest Y s z k ∧ ybest Y s z k < k
  | 0 => by simp [ybest]
  | k + 1 => by
    have h := ybest_r Y s z k
    unfold ybest
    split <;> omega

set_option maxRecDepth 100000 in
set_option maxHeartbeats 4000000 in
theorem e5_hottestShardOn {z : Nat} (hz : z ≤ 6) (ns : Nat) (hn : Y 0 7 = ns) (hns : ns ≤ 16) (hh : ∀ i, i < ns → (-2147483648 ≤ Y 18 (s i) ∧ Y 18 (s i) < 2147483648)) : gXc w l yX5_hottestShardOn cX5_hottestShardOn 4 (some .int) 0 0 0 [.ref 1, .ref (gma z)] Y s A B (some (.int (iI (ybest Y s z ns)))) (Y) s A B := by
  refine gXc_start (by decide +kernel) (by simp [Value.category]) (Nat.le_of_ble_eq_true rfl) (fun m Wp h C H F => ?_)
  obtain ⟨h0, hh0⟩ : ∃ h0, h0 = h := ⟨_, rfl⟩
  rw [← hh0] at C
  have F : FrX h0 h := by rw [hh0]; exact F
  have L : ∀ (n i : Nat) (h : gH), i + n = ns → RX Y s A B h → FrX h0 h → gG w m 4 Wp h 0 0 [some (.ref 1), some (.ref (gma z)), some (.int (iI (ybest Y s z i))), some (.int (iI (i : Int)))] [] 4 := by
    intro n
    induction n with
    | zero =>
      intro i h h1 H F
      have e : i = ns := by omega
      subst e
      refine g_iload_n C 3 dX5_hottestShardOn_4 rfl rfl ?_
      refine g_aload_n C 0 dX5_hottestShardOn_5 rfl rfl ?_
      refine x_gmain C H (fX5_45 rfl) rfl (Y 0 7) rfl dX5_hottestShardOn_6 ?_
      refine g_icmp_ge C 59 dX5_hottestShardOn_9 (by decide) (by omega) (by omega) (fun c9 => ?_) (fun c9 => ?_)
      · refine g_iload_n C 2 dX5_hottestShardOn_59 rfl rfl ?_
        exact g_iret C dX5_hottestShardOn_60 (Nat.le_refl _) (Nat.le_refl _) ⟨rfl, H, F⟩
      · omega
    | succ n ih =>
      intro i h h1 H F
      have hsi := (H.2.2.1.2.2.2 i (by omega)).1
      have hb := ybest_r Y s z i
      refine g_iload_n C 3 dX5_hottestShardOn_4 rfl rfl ?_
      refine g_aload_n C 0 dX5_hottestShardOn_5 rfl rfl ?_
      refine x_gmain C H (fX5_45 rfl) rfl (Y 0 7) rfl dX5_hottestShardOn_6 ?_
      refine g_icmp_ge C 59 dX5_hottestShardOn_9 (by decide) (by omega) (by omega) (fun c9 => ?_) (fun c9 => ?_)
      · omega
      · refine g_aload_n C 0 dX5_hottestShardOn_12 rfl rfl ?_
        refine x_rmain C H 17 (fX5_38 rfl) (by omega) dX5_hottestShardOn_13 ?_
        refine g_iload_n C 3 dX5_hottestShardOn_16 rfl rfl ?_
        refine x_shas C H i (by omega) (by omega) _ rfl dX5_hottestShardOn_17 ?_
        refine x_ghome C H hsi (by omega) (fX5_117 rfl) rfl ((Y 12 ((s i))).toNat) rfl dX5_hottestShardOn_18 ?_
        refine g_aload_n C 1 dX5_hottestShardOn_21 rfl rfl ?_
        refine x_acmp_ne C (x_z6 (i := 2) H hsi (by omega)) hz 53 dX5_hottestShardOn_22 (by decide) (fun c22 => ?_) (fun c22 => ?_)
        · refine s_iinc (lo' := [_, _, _, _]) C dX5_hottestShardOn_53 rfl (by decide) rfl ?_
          refine g_goto C 4 dX5_hottestShardOn_56 (by decide) ?_
          exact g_as (ih (i + 1) _ (by omega) H F) rfl (by rw [ybest]; (repeat (any_goals split)) <;> first | rfl | (exfalso; omega)) rfl
        · refine g_iload_n C 2 dX5_hottestShardOn_25 rfl rfl ?_
          refine g_iconst C dX5_hottestShardOn_26 ?_
          refine g_icmp_eq C 51 dX5_hottestShardOn_27 (by decide) (by omega) (by omega) (fun c27 => ?_) (fun c27 => ?_)
          · refine g_iload_n C 3 dX5_hottestShardOn_51 rfl rfl ?_
            refine s_istore_n (lo' := [_, _, _, _]) C 2 dX5_hottestShardOn_52 rfl (by decide) rfl ?_
            refine s_iinc (lo' := [_, _, _, _]) C dX5_hottestShardOn_53 rfl (by decide) rfl ?_
            refine g_goto C 4 dX5_hottestShardOn_56 (by decide) ?_
            exact g_as (ih (i + 1) _ (by omega) H F) rfl (by rw [ybest]; (repeat (any_goals split)) <;> first | rfl | (exfalso; omega)) rfl
          · refine g_aload_n C 0 dX5_hottestShardOn_30 rfl rfl ?_
            refine x_rmain C H 17 (fX5_38 rfl) (by omega) dX5_hottestShardOn_31 ?_
            refine g_iload_n C 3 dX5_hottestShardOn_34 rfl rfl ?_
            refine x_shas C H i (by omega) (by omega) _ rfl dX5_hottestShardOn_35 ?_
            refine x_gsha C H hsi (by omega) (fX5_142 rfl) rfl (Y 18 ((s i))) rfl dX5_hottestShardOn_36 ?_
            refine g_aload_n C 0 dX5_hottestShardOn_39 rfl rfl ?_
            refine x_rmain C H 17 (fX5_38 rfl) (by omega) dX5_hottestShardOn_40 ?_
            refine g_iload_n C 2 dX5_hottestShardOn_43 rfl rfl ?_
            refine x_shas C H (ybest Y s z i).toNat (by omega) (by omega) _ rfl dX5_hottestShardOn_44 ?_
            refine x_gsha C H (H.2.2.1.2.2.2 (ybest Y s z i).toNat (by omega)).1 (by omega) (fX5_142 rfl) rfl (Y 18 ((s (ybest Y s z i).toNat))) rfl dX5_hottestShardOn_45 ?_
            refine g_icmp_le C 53 dX5_hottestShardOn_48 (by decide) (hh i (by omega)) (hh _ (by omega)) (fun c48 => ?_) (fun c48 => ?_)
            · refine s_iinc (lo' := [_, _, _, _]) C dX5_hottestShardOn_53 rfl (by decide) rfl ?_
              refine g_goto C 4 dX5_hottestShardOn_56 (by decide) ?_
              exact g_as (ih (i + 1) _ (by omega) H F) rfl (by rw [ybest]; (repeat (any_goals split)) <;> first | rfl | (exfalso; omega)) rfl
            · refine g_iload_n C 3 dX5_hottestShardOn_51 rfl rfl ?_
              refine s_istore_n (lo' := [_, _, _, _]) C 2 dX5_hottestShardOn_52 rfl (by decide) rfl ?_
              refine s_iinc (lo' := [_, _, _, _]) C dX5_hottestShardOn_53 rfl (by decide) rfl ?_
              refine g_goto C 4 dX5_hottestShardOn_56 (by decide) ?_
              exact g_as (ih (i + 1) _ (by omega) H F) rfl (by rw [ybest]; (repeat (any_goals split)) <;> first | rfl | (exfalso; omega)) rfl
  show gG w m 4 Wp h 0 0 [some (.ref 1), some (.ref (gma z)), none, none] [] 0
  refine g_iconst C dX5_hottestShardOn_0 ?_
  refine s_istore_n (lo' := [_, _, _, _]) C 2 dX5_hottestShardOn_1 rfl (by decide) rfl ?_
  refine g_iconst C dX5_hottestShardOn_2 ?_
  refine s_istore_n (lo' := [_, _, _, _]) C 3 dX5_hottestShardOn_3 rfl (by decide) rfl ?_
  exact g_as (L ns 0 _ (by omega) H F) rfl rfl rfl

def yhot (Y : gS) (s : Nat → Nat) (ns : Nat) : Nat → Nat
  | 0 => 0
  | k + 1 => if Y 3 (k + 1) ≠ 0 ∧ (yhot Y s ns k = 0 ∨ yheat Y s ns (yhot Y s ns k) < yheat Y s ns (k + 1)) then k + 1 else yhot Y s ns k
theorem yhot_r (Y : gS) (s : Nat → Nat) (ns : Nat) : ∀ k, yhot Y s ns k ≤ k
  | 0 => Nat.le_refl _
  | k + 1 => by
    have h := yhot_r Y s ns k
    unfold yhot
    split <;> omega

set_option maxRecDepth 100000 in
set_option maxHeartbeats 4000000 in
theorem e5_hottestMachineUp (nm ns : Nat) (hm : Y 0 5 = nm) (hnm : nm ≤ 6) (hn : Y 0 7 = ns) (hns : ns ≤ 16) (hup : ∀ z : Nat, z ≤ 6 → 0 ≤ Y 3 z ∧ Y 3 z ≤ 1) (hR : ∀ z, (-2147483648 ≤ yheat Y s ns z ∧ yheat Y s ns z < 2147483648)) : gXc w l yX5_hottestMachineUp cX5_hottestMachineUp 4 (some (.object "ShardHarbour$Machine")) 1 0 0 [.ref 1] Y s A B (some (.ref (gma (yhot Y s ns nm)))) (Y) s A B := by
  refine gXc_start (by decide +kernel) (by simp [Value.category]) (Nat.le_of_ble_eq_true rfl) (fun m Wp h C H F => ?_)
  obtain ⟨h0, hh0⟩ : ∃ h0, h0 = h := ⟨_, rfl⟩
  rw [← hh0] at C
  have F : FrX h0 h := by rw [hh0]; exact F
  have L : ∀ (n i : Nat) (h : gH) (x3 : Option Value), i + n = nm → RX Y s A B h → FrX h0 h → gG w m 4 Wp h 0 0 [some (.ref 1), some (.ref (gma (yhot Y s ns i))), some (.int (iI (i : Int))), x3] [] 7 := by
    intro n
    induction n with
    | zero =>
      intro i h x3 h1 H F
      have e : i = nm := by omega
      subst e
      have hb := yhot_r Y s ns i
      refine g_iload_n C 2 dX5_hottestMachineUp_7 rfl rfl ?_
      refine g_aload_n C 0 dX5_hottestMachineUp_8 rfl rfl ?_
      refine x_gmain C H (fX5_56 rfl) rfl (Y 0 5) rfl dX5_hottestMachineUp_9 ?_
      refine g_icmp_ge C 58 dX5_hottestMachineUp_12 (by decide) (by omega) (by omega) (fun c12 => ?_) (fun c12 => ?_)
      · refine g_aload_n C 1 dX5_hottestMachineUp_58 rfl rfl ?_
        exact g_aret C dX5_hottestMachineUp_59 (Nat.le_refl _) (Nat.le_refl _) ⟨rfl, H, F⟩
      · omega
    | succ n ih =>
      intro i h x3 h1 H F
      have hb := yhot_r Y s ns i
      refine g_iload_n C 2 dX5_hottestMachineUp_7 rfl rfl ?_
      refine g_aload_n C 0 dX5_hottestMachineUp_8 rfl rfl ?_
      refine x_gmain C H (fX5_56 rfl) rfl (Y 0 5) rfl dX5_hottestMachineUp_9 ?_
      refine g_icmp_ge C 58 dX5_hottestMachineUp_12 (by decide) (by omega) (by omega) (fun c12 => ?_) (fun c12 => ?_)
      · omega
      · refine g_aload_n C 0 dX5_hottestMachineUp_15 rfl rfl ?_
        refine x_rmain C H 10 (fX5_32 rfl) (by omega) dX5_hottestMachineUp_16 ?_
        refine g_iload_n C 2 dX5_hottestMachineUp_19 rfl rfl ?_
        refine x_macs C H i (by omega) (by omega) dX5_hottestMachineUp_20 ?_
        refine s_astore_n (lo' := [_, _, _, _]) C 3 dX5_hottestMachineUp_21 rfl (by decide) rfl ?_
        refine g_aload_n C 3 dX5_hottestMachineUp_22 rfl rfl ?_
        refine x_gmac C H (by omega) (by omega) (fX5_67 rfl) (Y 3 (i + 1)) rfl dX5_hottestMachineUp_23 ?_
        refine g_if_eq C 52 dX5_hottestMachineUp_26 (by decide) (by have := hup (i + 1) (by omega); omega) (fun c26 => ?_) (fun c26 => ?_)
        · refine s_iinc (lo' := [_, _, _, _]) C dX5_hottestMachineUp_52 rfl (by decide) rfl ?_
          refine g_goto C 7 dX5_hottestMachineUp_55 (by decide) ?_
          exact g_as (ih (i + 1) _ _ (by omega) H F) rfl (by rw [yhot]; (repeat (any_goals split)) <;> first | rfl | (exfalso; omega)) rfl
        · refine g_aload_n C 1 dX5_hottestMachineUp_29 rfl rfl ?_
          refine g_aload_n C 0 dX5_hottestMachineUp_30 rfl rfl ?_
          refine x_rmain C H (gma 0) (fX5_14 rfl) (by omega) dX5_hottestMachineUp_31 ?_
          refine x_acmp_eq C (by omega) (by omega) 50 dX5_hottestMachineUp_34 (by decide) (fun c34 => ?_) (fun c34 => ?_)
          · refine g_aload_n C 3 dX5_hottestMachineUp_50 rfl rfl ?_
            refine s_astore_n (lo' := [_, _, _, _]) C 1 dX5_hottestMachineUp_51 rfl (by decide) rfl ?_
            refine s_iinc (lo' := [_, _, _, _]) C dX5_hottestMachineUp_52 rfl (by decide) rfl ?_
            refine g_goto C 7 dX5_hottestMachineUp_55 (by decide) ?_
            exact g_as (ih (i + 1) _ _ (by omega) H F) rfl (by rw [yhot]; (repeat (any_goals split)) <;> first | rfl | (exfalso; omega)) rfl
          · refine g_aload_n C 0 dX5_hottestMachineUp_37 rfl rfl ?_
            refine g_aload_n C 3 dX5_hottestMachineUp_38 rfl rfl ?_
            refine x_call C H F [_] _ (kX5_209 rfl) (e5_heatOf (z := (i + 1)) (by omega) ns hn hns) rfl rfl H.2.1.1 (by decide) (Nat.le_refl _) (Nat.le_refl _) (Nat.le_of_ble_eq_true rfl) dX5_hottestMachineUp_39 (fun h H F => ?_)
            refine g_aload_n C 0 dX5_hottestMachineUp_42 rfl rfl ?_
            refine g_aload_n C 1 dX5_hottestMachineUp_43 rfl rfl ?_
            refine x_call C H F [_] _ (kX5_209 rfl) (e5_heatOf (z := (yhot Y s ns i)) (by omega) ns hn hns) rfl rfl H.2.1.1 (by decide) (Nat.le_refl _) (Nat.le_refl _) (Nat.le_of_ble_eq_true rfl) dX5_hottestMachineUp_44 (fun h H F => ?_)
            refine g_icmp_le C 52 dX5_hottestMachineUp_47 (by decide) (hR _) (hR _) (fun c47 => ?_) (fun c47 => ?_)
            · refine s_iinc (lo' := [_, _, _, _]) C dX5_hottestMachineUp_52 rfl (by decide) rfl ?_
              refine g_goto C 7 dX5_hottestMachineUp_55 (by decide) ?_
              exact g_as (ih (i + 1) _ _ (by omega) H F) rfl (by rw [yhot]; (repeat (any_goals split)) <;> first | rfl | (exfalso; omega)) rfl
            · refine g_aload_n C 3 dX5_hottestMachineUp_50 rfl rfl ?_
              refine s_astore_n (lo' := [_, _, _, _]) C 1 dX5_hottestMachineUp_51 rfl (by decide) rfl ?_
              refine s_iinc (lo' := [_, _, _, _]) C dX5_hottestMachineUp_52 rfl (by decide) rfl ?_
              refine g_goto C 7 dX5_hottestMachineUp_55 (by decide) ?_
              exact g_as (ih (i + 1) _ _ (by omega) H F) rfl (by rw [yhot]; (repeat (any_goals split)) <;> first | rfl | (exfalso; omega)) rfl
  show gG w m 4 Wp h 0 0 [some (.ref 1), none, none, none] [] 0
  refine g_aload_n C 0 dX5_hottestMachineUp_0 rfl rfl ?_
  refine x_rmain C H (gma 0) (fX5_14 rfl) (by omega) dX5_hottestMachineUp_1 ?_
  refine s_astore_n (lo' := [_, _, _, _]) C 1 dX5_hottestMachineUp_4 rfl (by decide) rfl ?_
  refine g_iconst C dX5_hottestMachineUp_5 ?_
  refine s_istore_n (lo' := [_, _, _, _]) C 2 dX5_hottestMachineUp_6 rfl (by decide) rfl ?_
  exact g_as (L nm 0 _ none (by omega) H F) rfl rfl rfl

def ycold (Y : gS) (s : Nat → Nat) (ns : Nat) : Nat → Nat
  | 0 => 0
  | k + 1 => if Y 3 (k + 1) ≠ 0 ∧ (ycold Y s ns k = 0 ∨ yheat Y s ns (k + 1) < yheat Y s ns (ycold Y s ns k)) then k + 1 else ycold Y s ns k
theorem ycold_r (Y : gS) (s : Nat → Nat) (ns : Nat) : ∀ k, ycold Y s ns k ≤ k
  | 0 => Nat.le_refl _
  | k + 1 => by
    have h := ycold_r Y s ns k
    unfold ycold
    split <;> omega

set_option maxRecDepth 100000 in
set_option maxHeartbeats 4000000 in
theorem e5_coldestMachineUp (nm ns : Nat) (hm : Y 0 5 = nm) (hnm : nm ≤ 6) (hn : Y 0 7 = ns) (hns : ns ≤ 16) (hup : ∀ z : Nat, z ≤ 6 → 0 ≤ Y 3 z ∧ Y 3 z ≤ 1) (hR : ∀ z, (-2147483648 ≤ yheat Y s ns z ∧ yheat Y s ns z < 2147483648)) : gXc w l yX5_coldestMachineUp cX5_coldestMachineUp 4 (some (.object "ShardHarbour$Machine")) 1 0 0 [.ref 1] Y s A B (some (.ref (gma (ycold Y s ns nm)))) (Y) s A B := by
  refine gXc_start (by decide +kernel) (by simp [Value.category]) (Nat.le_of_ble_eq_true rfl) (fun m Wp h C H F => ?_)
  obtain ⟨h0, hh0⟩ : ∃ h0, h0 = h := ⟨_, rfl⟩
  rw [← hh0] at C
  have F : FrX h0 h := by rw [hh0]; exact F
  have L : ∀ (n i : Nat) (h : gH) (x3 : Option Value), i + n = nm → RX Y s A B h → FrX h0 h → gG w m 4 Wp h 0 0 [some (.ref 1), some (.ref (gma (ycold Y s ns i))), some (.int (iI (i : Int))), x3] [] 7 := by
    intro n
    induction n with
    | zero =>
      intro i h x3 h1 H F
      have e : i = nm := by omega
      subst e
      have hb := ycold_r Y s ns i
      refine g_iload_n C 2 dX5_coldestMachineUp_7 rfl rfl ?_
      refine g_aload_n C 0 dX5_coldestMachineUp_8 rfl rfl ?_
      refine x_gmain C H (fX5_56 rfl) rfl (Y 0 5) rfl dX5_coldestMachineUp_9 ?_
      refine g_icmp_ge C 58 dX5_coldestMachineUp_12 (by decide) (by omega) (by omega) (fun c12 => ?_) (fun c12 => ?_)
      · refine g_aload_n C 1 dX5_coldestMachineUp_58 rfl rfl ?_
        exact g_aret C dX5_coldestMachineUp_59 (Nat.le_refl _) (Nat.le_refl _) ⟨rfl, H, F⟩
      · omega
    | succ n ih =>
      intro i h x3 h1 H F
      have hb := ycold_r Y s ns i
      refine g_iload_n C 2 dX5_coldestMachineUp_7 rfl rfl ?_
      refine g_aload_n C 0 dX5_coldestMachineUp_8 rfl rfl ?_
      refine x_gmain C H (fX5_56 rfl) rfl (Y 0 5) rfl dX5_coldestMachineUp_9 ?_
      refine g_icmp_ge C 58 dX5_coldestMachineUp_12 (by decide) (by omega) (by omega) (fun c12 => ?_) (fun c12 => ?_)
      · omega
      · refine g_aload_n C 0 dX5_coldestMachineUp_15 rfl rfl ?_
        refine x_rmain C H 10 (fX5_32 rfl) (by omega) dX5_coldestMachineUp_16 ?_
        refine g_iload_n C 2 dX5_coldestMachineUp_19 rfl rfl ?_
        refine x_macs C H i (by omega) (by omega) dX5_coldestMachineUp_20 ?_
        refine s_astore_n (lo' := [_, _, _, _]) C 3 dX5_coldestMachineUp_21 rfl (by decide) rfl ?_
        refine g_aload_n C 3 dX5_coldestMachineUp_22 rfl rfl ?_
        refine x_gmac C H (by omega) (by omega) (fX5_67 rfl) (Y 3 (i + 1)) rfl dX5_coldestMachineUp_23 ?_
        refine g_if_eq C 52 dX5_coldestMachineUp_26 (by decide) (by have := hup (i + 1) (by omega); omega) (fun c26 => ?_) (fun c26 => ?_)
        · refine s_iinc (lo' := [_, _, _, _]) C dX5_coldestMachineUp_52 rfl (by decide) rfl ?_
          refine g_goto C 7 dX5_coldestMachineUp_55 (by decide) ?_
          exact g_as (ih (i + 1) _ _ (by omega) H F) rfl (by rw [ycold]; (repeat (any_goals split)) <;> first | rfl | (exfalso; omega)) rfl
        · refine g_aload_n C 1 dX5_coldestMachineUp_29 rfl rfl ?_
          refine g_aload_n C 0 dX5_coldestMachineUp_30 rfl rfl ?_
          refine x_rmain C H (gma 0) (fX5_14 rfl) (by omega) dX5_coldestMachineUp_31 ?_
          refine x_acmp_eq C (by omega) (by omega) 50 dX5_coldestMachineUp_34 (by decide) (fun c34 => ?_) (fun c34 => ?_)
          · refine g_aload_n C 3 dX5_coldestMachineUp_50 rfl rfl ?_
            refine s_astore_n (lo' := [_, _, _, _]) C 1 dX5_coldestMachineUp_51 rfl (by decide) rfl ?_
            refine s_iinc (lo' := [_, _, _, _]) C dX5_coldestMachineUp_52 rfl (by decide) rfl ?_
            refine g_goto C 7 dX5_coldestMachineUp_55 (by decide) ?_
            exact g_as (ih (i + 1) _ _ (by omega) H F) rfl (by rw [ycold]; (repeat (any_goals split)) <;> first | rfl | (exfalso; omega)) rfl
          · refine g_aload_n C 0 dX5_coldestMachineUp_37 rfl rfl ?_
            refine g_aload_n C 3 dX5_coldestMachineUp_38 rfl rfl ?_
            refine x_call C H F [_] _ (kX5_209 rfl) (e5_heatOf (z := (i + 1)) (by omega) ns hn hns) rfl rfl H.2.1.1 (by decide) (Nat.le_refl _) (Nat.le_refl _) (Nat.le_of_ble_eq_true rfl) dX5_coldestMachineUp_39 (fun h H F => ?_)
            refine g_aload_n C 0 dX5_coldestMachineUp_42 rfl rfl ?_
            refine g_aload_n C 1 dX5_coldestMachineUp_43 rfl rfl ?_
            refine x_call C H F [_] _ (kX5_209 rfl) (e5_heatOf (z := (ycold Y s ns i)) (by omega) ns hn hns) rfl rfl H.2.1.1 (by decide) (Nat.le_refl _) (Nat.le_refl _) (Nat.le_of_ble_eq_true rfl) dX5_coldestMachineUp_44 (fun h H F => ?_)
            refine g_icmp_ge C 52 dX5_coldestMachineUp_47 (by decide) (hR _) (hR _) (fun c47 => ?_) (fun c47 => ?_)
            · refine s_iinc (lo' := [_, _, _, _]) C dX5_coldestMachineUp_52 rfl (by decide) rfl ?_
              refine g_goto C 7 dX5_coldestMachineUp_55 (by decide) ?_
              exact g_as (ih (i + 1) _ _ (by omega) H F) rfl (by rw [ycold]; (repeat (any_goals split)) <;> first | rfl | (exfalso; omega)) rfl
            · refine g_aload_n C 3 dX5_coldestMachineUp_50 rfl rfl ?_
              refine s_astore_n (lo' := [_, _, _, _]) C 1 dX5_coldestMachineUp_51 rfl (by decide) rfl ?_
              refine s_iinc (lo' := [_, _, _, _]) C dX5_coldestMachineUp_52 rfl (by decide) rfl ?_
              refine g_goto C 7 dX5_coldestMachineUp_55 (by decide) ?_
              exact g_as (ih (i + 1) _ _ (by omega) H F) rfl (by rw [ycold]; (repeat (any_goals split)) <;> first | rfl | (exfalso; omega)) rfl
  show gG w m 4 Wp h 0 0 [some (.ref 1), none, none, none] [] 0
  refine g_aload_n C 0 dX5_coldestMachineUp_0 rfl rfl ?_
  refine x_rmain C H (gma 0) (fX5_14 rfl) (by omega) dX5_coldestMachineUp_1 ?_
  refine s_astore_n (lo' := [_, _, _, _]) C 1 dX5_coldestMachineUp_4 rfl (by decide) rfl ?_
  refine g_iconst C dX5_coldestMachineUp_5 ?_
  refine s_istore_n (lo' := [_, _, _, _]) C 2 dX5_coldestMachineUp_6 rfl (by decide) rfl ?_
  exact g_as (L nm 0 _ none (by omega) H F) rfl rfl rfl

end XC
