/-! THE REFERENCE: its leaves (rows laid by wip/whole/gen/m1.py) -/
def bI (p : Prop) [Decidable p] : Int := if p then 1 else 0
theorem bI_r (p : Prop) [Decidable p] : -2147483648 ≤ bI p ∧ bI p < 2147483648 := by unfold bI; split <;> omega
theorem bI_01 (p : Prop) [Decidable p] : bI p = 0 ∨ bI p = 1 := by unfold bI; split <;> simp
theorem bI_0 {p : Prop} [Decidable p] : bI p = 0 ↔ ¬ p := by unfold bI; split <;> simp_all
theorem bI_t {p : Prop} [Decidable p] (h : p) : bI p = 1 := if_pos h
theorem bI_f {p : Prop} [Decidable p] (h : ¬ p) : bI p = 0 := if_neg h
/-- the sum of n places of f from a on -/
def gsum (f : Nat → Int) (a : Nat) : Nat → Int
  | 0 => 0
  | n + 1 => gsum f a n + f (a + n)
section MA
variable {w : gW} {l : Launch} {h : gH} {S : gS}

set_option maxRecDepth 100000 in
set_option maxHeartbeats 4000000 in
theorem c6_in (v a b : Int) (hv : (-2147483648 ≤ v ∧ v < 2147483648)) (ha : (-2147483648 ≤ a ∧ a < 2147483648)) (hb : (-2147483648 ≤ b ∧ b < 2147483648)) : gMm w l yX6_in cX6_in 3 (some .boolean) 0 [.int (iI v), .int (iI a), .int (iI b)] h S (some (.int (iI (bI (a ≤ v ∧ v ≤ b))))) (S) := by
  refine gMm_start (by decide +kernel) (by simp [Value.category]) (Nat.le_of_ble_eq_true rfl) (fun m Wp C => ?_)
  show gG w m 3 Wp (gwr h S) 0 0 [some (.int (iI v)), some (.int (iI a)), some (.int (iI b))] [] 0
  refine g_iload_n C 0 dX6_in_0 rfl rfl ?_
  refine g_iload_n C 1 dX6_in_1 rfl rfl ?_
  refine g_icmp_lt C 14 dX6_in_2 (by decide) (by omega) (by omega) (fun c2 => ?_) (fun c2 => ?_)
  · rw [bI_f (show ¬ (a ≤ v ∧ v ≤ b) by omega)] at C
    refine g_iconst C dX6_in_14 ?_
    exact g_zret C dX6_in_15 (by omega) (Nat.le_refl _) (Nat.le_refl _) ⟨rfl, rfl⟩
  · refine g_iload_n C 0 dX6_in_5 rfl rfl ?_
    refine g_iload_n C 2 dX6_in_6 rfl rfl ?_
    refine g_icmp_gt C 14 dX6_in_7 (by decide) (by omega) (by omega) (fun c7 => ?_) (fun c7 => ?_)
    · rw [bI_f (show ¬ (a ≤ v ∧ v ≤ b) by omega)] at C
      refine g_iconst C dX6_in_14 ?_
      exact g_zret C dX6_in_15 (by omega) (Nat.le_refl _) (Nat.le_refl _) ⟨rfl, rfl⟩
    · rw [bI_t (show a ≤ v ∧ v ≤ b by omega)] at C
      refine g_iconst C dX6_in_10 ?_
      refine g_goto C 15 dX6_in_11 (by decide) ?_
      exact g_zret C dX6_in_15 (by omega) (Nat.le_refl _) (Nat.le_refl _) ⟨rfl, rfl⟩

set_option maxRecDepth 100000 in
set_option maxHeartbeats 4000000 in
theorem c6_refused (hS : gShM h) (v : Int) (hv : (-2147483648 ≤ v ∧ v < 2147483648)) : gMm w l yX6_refused cX6_refused 2 (some .boolean) 0 [.ref 34, .int (iI v)] h S (some (.int (iI (bI (v ≠ 0))))) (su S 0 0 v) := by
  refine gMm_start (by decide +kernel) (by simp [Value.category]) (Nat.le_of_ble_eq_true rfl) (fun m Wp C => ?_)
  show gG w m 2 Wp (gwr h S) 0 0 [some (.ref 34), some (.int (iI v))] [] 0
  refine g_aload_n C 0 dX6_refused_0 rfl rfl ?_
  refine g_iload_n C 1 dX6_refused_1 rfl rfl ?_
  refine m_put C hS (fX6_51 rfl) rfl dX6_refused_2 ?_
  refine g_iload_n C 1 dX6_refused_5 rfl rfl ?_
  refine g_if_eq C 13 dX6_refused_6 (by decide) (by omega) (fun c6 => ?_) (fun c6 => ?_)
  · rw [bI_f (show ¬ (v ≠ 0) by omega)] at C
    refine g_iconst C dX6_refused_13 ?_
    exact g_zret C dX6_refused_14 (by omega) (Nat.le_refl _) (Nat.le_refl _) ⟨rfl, rfl⟩
  · rw [bI_t (show v ≠ 0 by omega)] at C
    refine g_iconst C dX6_refused_9 ?_
    refine g_goto C 14 dX6_refused_10 (by decide) ?_
    exact g_zret C dX6_refused_14 (by omega) (Nat.le_refl _) (Nat.le_refl _) ⟨rfl, rfl⟩

set_option maxRecDepth 100000 in
set_option maxHeartbeats 4000000 in
theorem c6_isKey (v : Int) (hv : (-2147483648 ≤ v ∧ v < 2147483648)) : gMm w l yX6_isKey cX6_isKey 1 (some .boolean) 1 [.int (iI v)] h S (some (.int (iI (bI (0 ≤ v ∧ v ≤ 999))))) (S) := by
  refine gMm_start (by decide +kernel) (by simp [Value.category]) (Nat.le_of_ble_eq_true rfl) (fun m Wp C => ?_)
  show gG w m 1 Wp (gwr h S) 0 0 [some (.int (iI v))] [] 0
  refine g_iload_n C 0 dX6_isKey_0 rfl rfl ?_
  refine g_iconst C dX6_isKey_1 ?_
  refine g_sipush C dX6_isKey_2 (by decide) ?_
  refine m_callS C [_, _, _] _ (kX6_54 rfl) rfl (c6_in v 0 999 hv (by omega) (by omega)) rfl rfl (by decide) (Nat.le_refl _) (Nat.le_refl _) (Nat.le_of_ble_eq_true rfl) dX6_isKey_5 ?_
  exact g_zret C dX6_isKey_8 (bI_01 _) (Nat.le_refl _) (Nat.le_refl _) ⟨rfl, rfl⟩

set_option maxRecDepth 100000 in
set_option maxHeartbeats 4000000 in
theorem c6_isTenant (v : Int) (hv : (-2147483648 ≤ v ∧ v < 2147483648)) : gMm w l yX6_isTenant cX6_isTenant 1 (some .boolean) 1 [.int (iI v)] h S (some (.int (iI (bI (0 ≤ v ∧ v ≤ 3))))) (S) := by
  refine gMm_start (by decide +kernel) (by simp [Value.category]) (Nat.le_of_ble_eq_true rfl) (fun m Wp C => ?_)
  show gG w m 1 Wp (gwr h S) 0 0 [some (.int (iI v))] [] 0
  refine g_iload_n C 0 dX6_isTenant_0 rfl rfl ?_
  refine g_iconst C dX6_isTenant_1 ?_
  refine g_iconst C dX6_isTenant_2 ?_
  refine m_callS C [_, _, _] _ (kX6_54 rfl) rfl (c6_in v 0 3 hv (by omega) (by omega)) rfl rfl (by decide) (Nat.le_refl _) (Nat.le_refl _) (Nat.le_of_ble_eq_true rfl) dX6_isTenant_3 ?_
  exact g_zret C dX6_isTenant_6 (bI_01 _) (Nat.le_refl _) (Nat.le_refl _) ⟨rfl, rfl⟩

set_option maxRecDepth 100000 in
set_option maxHeartbeats 4000000 in
theorem c6_isMachine (hS : gShM h) (v : Int) (hv : (-2147483648 ≤ v ∧ v < 2147483648)) (hn : 0 ≤ S 0 2 ∧ S 0 2 ≤ 6) : gMm w l yX6_isMachine cX6_isMachine 2 (some .boolean) 1 [.ref 34, .int (iI v)] h S (some (.int (iI (bI (0 ≤ v ∧ v ≤ S 0 2 - 1))))) (S) := by
  refine gMm_start (by decide +kernel) (by simp [Value.category]) (Nat.le_of_ble_eq_true rfl) (fun m Wp C => ?_)
  show gG w m 2 Wp (gwr h S) 0 0 [some (.ref 34), some (.int (iI v))] [] 0
  refine g_iload_n C 1 dX6_isMachine_0 rfl rfl ?_
  refine g_iconst C dX6_isMachine_1 ?_
  refine g_aload_n C 0 dX6_isMachine_2 rfl rfl ?_
  refine m_fld C hS (fX6_58 rfl) rfl dX6_isMachine_3 ?_
  refine g_iconst C dX6_isMachine_6 ?_
  refine g_isub C dX6_isMachine_7 ?_
  refine m_callS C [_, _, _] _ (kX6_54 rfl) rfl (c6_in v 0 (S 0 2 - 1) hv (by omega) (by omega)) rfl rfl (by decide) (Nat.le_refl _) (Nat.le_refl _) (Nat.le_of_ble_eq_true rfl) dX6_isMachine_8 ?_
  exact g_zret C dX6_isMachine_11 (bI_01 _) (Nat.le_refl _) (Nat.le_refl _) ⟨rfl, rfl⟩

set_option maxRecDepth 100000 in
set_option maxHeartbeats 4000000 in
theorem c6_isShard (hS : gShM h) (v : Int) (hv : (-2147483648 ≤ v ∧ v < 2147483648)) (hn : 0 ≤ S 0 13 ∧ S 0 13 ≤ 16) : gMm w l yX6_isShard cX6_isShard 2 (some .boolean) 1 [.ref 34, .int (iI v)] h S (some (.int (iI (bI (0 ≤ v ∧ v ≤ S 0 13 - 1))))) (S) := by
  refine gMm_start (by decide +kernel) (by simp [Value.category]) (Nat.le_of_ble_eq_true rfl) (fun m Wp C => ?_)
  show gG w m 2 Wp (gwr h S) 0 0 [some (.ref 34), some (.int (iI v))] [] 0
  refine g_iload_n C 1 dX6_isShard_0 rfl rfl ?_
  refine g_iconst C dX6_isShard_1 ?_
  refine g_aload_n C 0 dX6_isShard_2 rfl rfl ?_
  refine m_fld C hS (fX6_29 rfl) rfl dX6_isShard_3 ?_
  refine g_iconst C dX6_isShard_6 ?_
  refine g_isub C dX6_isShard_7 ?_
  refine m_callS C [_, _, _] _ (kX6_54 rfl) rfl (c6_in v 0 (S 0 13 - 1) hv (by omega) (by omega)) rfl rfl (by decide) (Nat.le_refl _) (Nat.le_refl _) (Nat.le_of_ble_eq_true rfl) dX6_isShard_8 ?_
  exact g_zret C dX6_isShard_11 (bI_01 _) (Nat.le_refl _) (Nat.le_refl _) ⟨rfl, rfl⟩

set_option maxRecDepth 100000 in
set_option maxHeartbeats 4000000 in
theorem c6_thrown (hS : gShM h) : gMm w l yX6_thrown cX6_thrown 1 (some .int) 0 [.ref 34] h S (some (.int (iI (S 0 0)))) (S) := by
  refine gMm_start (by decide +kernel) (by simp [Value.category]) (Nat.le_of_ble_eq_true rfl) (fun m Wp C => ?_)
  show gG w m 1 Wp (gwr h S) 0 0 [some (.ref 34)] [] 0
  refine g_aload_n C 0 dX6_thrown_0 rfl rfl ?_
  refine m_fld C hS (fX6_51 rfl) rfl dX6_thrown_1 ?_
  exact g_iret C dX6_thrown_4 (Nat.le_refl _) (Nat.le_refl _) ⟨rfl, rfl⟩

set_option maxRecDepth 100000 in
set_option maxHeartbeats 4000000 in
theorem c6_hour (hS : gShM h) : gMm w l yX6_hour cX6_hour 1 (some .int) 0 [.ref 34] h S (some (.int (iI (S 0 1)))) (su S 0 0 0) := by
  refine gMm_start (by decide +kernel) (by simp [Value.category]) (Nat.le_of_ble_eq_true rfl) (fun m Wp C => ?_)
  show gG w m 1 Wp (gwr h S) 0 0 [some (.ref 34)] [] 0
  refine g_aload_n C 0 dX6_hour_0 rfl rfl ?_
  refine g_iconst C dX6_hour_1 ?_
  refine m_put C hS (fX6_51 rfl) rfl dX6_hour_2 ?_
  refine g_aload_n C 0 dX6_hour_5 rfl rfl ?_
  refine m_fld C hS (fX6_127 rfl) rfl dX6_hour_6 ?_
  exact g_iret C dX6_hour_9 (Nat.le_refl _) (Nat.le_refl _) ⟨rfl, rfl⟩

set_option maxRecDepth 100000 in
set_option maxHeartbeats 4000000 in
theorem c6_shards (hS : gShM h) : gMm w l yX6_shards cX6_shards 1 (some .int) 0 [.ref 34] h S (some (.int (iI (S 0 13)))) (su S 0 0 0) := by
  refine gMm_start (by decide +kernel) (by simp [Value.category]) (Nat.le_of_ble_eq_true rfl) (fun m Wp C => ?_)
  show gG w m 1 Wp (gwr h S) 0 0 [some (.ref 34)] [] 0
  refine g_aload_n C 0 dX6_shards_0 rfl rfl ?_
  refine g_iconst C dX6_shards_1 ?_
  refine m_put C hS (fX6_51 rfl) rfl dX6_shards_2 ?_
  refine g_aload_n C 0 dX6_shards_5 rfl rfl ?_
  refine m_fld C hS (fX6_29 rfl) rfl dX6_shards_6 ?_
  exact g_iret C dX6_shards_9 (Nat.le_refl _) (Nat.le_refl _) ⟨rfl, rfl⟩

set_option maxRecDepth 100000 in
set_option maxHeartbeats 4000000 in
theorem c6_shardAt (hS : gShM h) (x : Int) (hx : 0 ≤ x ∧ x ≤ 999) (j : Nat) (hj : j ≤ 16) (hf : ∀ i, i ≤ j + 1 → 0 ≤ S 7 i ∧ S 7 i ≤ 1000) (hle : ∀ i, 1 ≤ i → i ≤ j → S 7 i ≤ x) (hlt : x < S 7 (j + 1)) : gMm w l yX6_shardAt cX6_shardAt 3 (some .int) 0 [.ref 34, .int (iI x)] h S (some (.int (iI (j : Int)))) (S) := by
  refine gMm_start (by decide +kernel) (by simp [Value.category]) (Nat.le_of_ble_eq_true rfl) (fun m Wp C => ?_)
  have L : ∀ (n i : Nat), i + n = j → i ≤ j → gG w m 3 Wp (gwr h S) 0 0 [some (.ref 34), some (.int (iI x)), some (.int (iI (i : Int)))] [] 2 := by
    intro n
    induction n with
    | zero =>
      intro i h1 h2
      have e : i = j := by omega
      subst e
      refine g_aload_n C 0 dX6_shardAt_2 rfl rfl ?_
      refine m_arr C hS 7 (by omega) (by omega) (fX6_33 rfl) rfl dX6_shardAt_3 ?_
      refine g_iload_n C 2 dX6_shardAt_6 rfl rfl ?_
      refine g_iconst C dX6_shardAt_7 ?_
      refine g_iadd C dX6_shardAt_8 ?_
      refine m_iald C hS (by omega) rfl (by omega) (i + 1) (by omega) (by omega) dX6_shardAt_9 ?_
      refine g_iload_n C 1 dX6_shardAt_10 rfl rfl ?_
      refine g_icmp_gt C 20 dX6_shardAt_11 (by decide) (by have := hf (i + 1) (by omega); omega) (by omega) (fun c11 => ?_) (fun c11 => ?_)
      · refine g_iload_n C 2 dX6_shardAt_20 rfl rfl ?_
        exact g_iret C dX6_shardAt_21 (Nat.le_refl _) (Nat.le_refl _) ⟨rfl, rfl⟩
      · exact absurd hlt (by omega)
    | succ n ih =>
      intro i h1 h2
      refine g_aload_n C 0 dX6_shardAt_2 rfl rfl ?_
      refine m_arr C hS 7 (by omega) (by omega) (fX6_33 rfl) rfl dX6_shardAt_3 ?_
      refine g_iload_n C 2 dX6_shardAt_6 rfl rfl ?_
      refine g_iconst C dX6_shardAt_7 ?_
      refine g_iadd C dX6_shardAt_8 ?_
      refine m_iald C hS (by omega) rfl (by omega) (i + 1) (by omega) (by omega) dX6_shardAt_9 ?_
      refine g_iload_n C 1 dX6_shardAt_10 rfl rfl ?_
      refine g_icmp_gt C 20 dX6_shardAt_11 (by decide) (by have := hf (i + 1) (by omega); omega) (by omega) (fun c11 => ?_) (fun c11 => ?_)
      · exact absurd (hle (i + 1) (by omega) (by omega)) (by omega)
      · refine s_iinc (lo' := [_, _, _]) C dX6_shardAt_14 rfl (by decide) rfl ?_
        refine g_goto C 2 dX6_shardAt_17 (by decide) ?_
        exact ih (i + 1) (by omega) (by omega)
  show gG w m 3 Wp (gwr h S) 0 0 [some (.ref 34), some (.int (iI x)), none] [] 0
  refine g_iconst C dX6_shardAt_0 ?_
  refine s_istore_n (lo' := [_, _, _]) C 2 dX6_shardAt_1 rfl (by decide) rfl ?_
  exact L j 0 (by omega) (by omega)

set_option maxRecDepth 100000 in
set_option maxHeartbeats 4000000 in
theorem c6_sum (hS : gShM h) (a z : Nat) (ha : a ≤ 1000) (hz : z ≤ 1000) : gMm w l yX6_sum cX6_sum 5 (some .int) 0 [.ref 34, .int (iI (a : Int)), .int (iI (z : Int))] h S (some (.int (iI (gsum (S 6) a (z - a))))) (S) := by
  refine gMm_start (by decide +kernel) (by simp [Value.category]) (Nat.le_of_ble_eq_true rfl) (fun m Wp C => ?_)
  have L : ∀ (n i : Nat) (t : Int), i + n = max a z → a ≤ i → t = gsum (S 6) a (i - a) → gG w m 5 Wp (gwr h S) 0 0 [some (.ref 34), some (.int (iI (a : Int))), some (.int (iI (z : Int))), some (.int (iI t)), some (.int (iI (i : Int)))] [] 5 := by
    intro n
    induction n with
    | zero =>
      intro i t h1 h2 ht
      refine g_iload C dX6_sum_5 rfl ?_
      refine g_iload_n C 2 dX6_sum_7 rfl rfl ?_
      refine g_icmp_ge C 27 dX6_sum_8 (by decide) (by omega) (by omega) (fun c8 => ?_) (fun c8 => ?_)
      · refine g_iload_n C 3 dX6_sum_27 rfl rfl ?_
        exact g_iret C dX6_sum_28 (Nat.le_refl _) (Nat.le_refl _) ⟨by rw [ht, show i - a = z - a by omega], rfl⟩
      · omega
    | succ n ih =>
      intro i t h1 h2 ht
      refine g_iload C dX6_sum_5 rfl ?_
      refine g_iload_n C 2 dX6_sum_7 rfl rfl ?_
      refine g_icmp_ge C 27 dX6_sum_8 (by decide) (by omega) (by omega) (fun c8 => ?_) (fun c8 => ?_)
      · omega
      · refine g_iload_n C 3 dX6_sum_11 rfl rfl ?_
        refine g_aload_n C 0 dX6_sum_12 rfl rfl ?_
        refine m_arr C hS 6 (by omega) (by omega) (fX6_26 rfl) rfl dX6_sum_13 ?_
        refine g_iload C dX6_sum_16 rfl ?_
        refine m_iald C hS (by omega) rfl (by omega) i (by omega) (by omega) dX6_sum_18 ?_
        refine g_iadd C dX6_sum_19 ?_
        refine s_istore_n (lo' := [_, _, _, _, _]) C 3 dX6_sum_20 rfl (by decide) rfl ?_
        refine s_iinc (lo' := [_, _, _, _, _]) C dX6_sum_21 rfl (by decide) rfl ?_
        refine g_goto C 5 dX6_sum_24 (by decide) ?_
        exact ih (i + 1) (t + S 6 i) (by omega) (by omega) (by rw [ht, show i + 1 - a = (i - a) + 1 by omega, gsum, show a + (i - a) = i by omega])
  show gG w m 5 Wp (gwr h S) 0 0 [some (.ref 34), some (.int (iI (a : Int))), some (.int (iI (z : Int))), none, none] [] 0
  refine g_iconst C dX6_sum_0 ?_
  refine s_istore_n (lo' := [_, _, _, _, _]) C 3 dX6_sum_1 rfl (by decide) rfl ?_
  refine g_iload_n C 1 dX6_sum_2 rfl rfl ?_
  refine s_istore (lo' := [_, _, _, _, _]) C dX6_sum_3 (by decide) rfl ?_
  exact L (max a z - a) a 0 (by omega) (by omega) (by rw [Nat.sub_self]; rfl)

end MA
