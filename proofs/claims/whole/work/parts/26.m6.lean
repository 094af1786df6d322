/-! THE REFERENCE: hours (rows laid by wip/whole/gen/m6.py) -/
theorem su_ne {S : gS} {f i : Nat} {v : Int} {g j : Nat} (h : g ≠ f ∨ j ≠ i) : su S f i v g j = S g j := by
  unfold su va_up
  by_cases e : g = f
  · subst e
    rw [if_pos rfl, if_neg (by omega)]
  · rw [if_neg e]
theorem su_eq {S : gS} {f i : Nat} {v : Int} : su S f i v f i = v := by
  unfold su va_up
  rw [if_pos rfl, if_pos rfl]
/-- what an hour's copying leaves as it was -/
theorem scp_fr (j : Nat) : ∀ (n : Nat) (V : gS) (free : Int), gW1 V → gW2 V → 0 ≤ V 11 j → gW1 (scp j n V free) ∧ gW2 (scp j n V free) ∧ (∀ g i, (g ≠ 9 ∧ g ≠ 10 ∧ g ≠ 11 ∧ g ≠ 0) ∨ (i ≠ j ∧ g ≠ 0) ∨ (g = 0 ∧ i ≠ 10) → scp j n V free g i = V g i) ∧ (0 ≤ scp j n V free 11 j ∧ scp j n V free 11 j ≤ V 11 j)
  | 0, V, free, h1, h2, h3 => ⟨h1, h2, fun _ _ _ => rfl, h3, Int.le_refl _⟩
  | n + 1, V, free, h1, h2, h3 => by
    unfold scp
    split
    · next ec =>
      split
      · refine ⟨gW1_roll h1 j _, h2, fun g i hg => ?_, h3, Int.le_refl _⟩
        unfold srb
        rw [su_ne (by omega), su_ne (by omega)]
      · have hb := (h2 (V 10 j).toNat).2.2.2.2
        have e11 : sad V j 11 j = V 11 j - V 6 (V 10 j).toNat := by
          unfold sad
          rw [su_ne (by omega), su_eq]
        obtain ⟨a1, a2, a3, a4⟩ := scp_fr j n (sad V j) (free - V 6 (V 10 j).toNat) (gW1_sad h1 j ec.2.1) h2 (by rw [e11]; omega)
        refine ⟨a1, a2, fun g i hg => ?_, a4.1, by rw [e11] at a4; omega⟩
        rw [a3 g i hg]
        unfold sad
        rw [su_ne (by omega), su_ne (by omega)]
    · exact ⟨h1, h2, fun _ _ _ => rfl, h3, Int.le_refl _⟩
theorem scopies_fr {S : gS} (h1 : gW1 S) (h2 : gW2 S) {j : Nat} (h3 : 0 ≤ S 11 j) : gW1 (scopies S j) ∧ gW2 (scopies S j) ∧ (∀ g i, (g ≠ 8 ∧ g ≠ 9 ∧ g ≠ 10 ∧ g ≠ 11 ∧ g ≠ 0) ∨ (i ≠ j ∧ g ≠ 0) ∨ (g = 0 ∧ i ≠ 10 ∧ i ≠ 9) → scopies S j g i = S g i) ∧ (0 ≤ scopies S j 11 j ∧ scopies S j 11 j ≤ S 11 j + 50) := by
  unfold scopies scop
  have e11 : su S 11 j (S 11 j + 50) 11 j = S 11 j + 50 := su_eq
  obtain ⟨a1, a2, a3, a4⟩ := scp_fr j (su S 11 j (S 11 j + 50) 7 (j + 1) - su S 11 j (S 11 j + 50) 10 j).toNat (su S 11 j (S 11 j + 50)) (su S 11 j (S 11 j + 50) 1 (su S 11 j (S 11 j + 50) 9 j).toNat - gheld (su S 11 j (S 11 j + 50)) (su S 11 j (S 11 j + 50) 9 j)) h1 h2 (by rw [e11]; omega)
  rw [e11] at a4
  generalize scp j (su S 11 j (S 11 j + 50) 7 (j + 1) - su S 11 j (S 11 j + 50) 10 j).toNat (su S 11 j (S 11 j + 50)) (su S 11 j (S 11 j + 50) 1 (su S 11 j (S 11 j + 50) 9 j).toNat - gheld (su S 11 j (S 11 j + 50)) (su S 11 j (S 11 j + 50) 9 j)) = Z at a1 a2 a3 a4
  unfold sfin
  split
  · refine ⟨fun i => ?_, a2, fun g i hg => ?_, ?_⟩
    · have hz := a1 i
      have hj := a1 j
      show (0 ≤ Z 7 i ∧ _) ∧ (-1 ≤ va_up (Z 8) j (Z 9 j) i ∧ va_up (Z 8) j (Z 9 j) i ≤ 5) ∧ (-1 ≤ va_up (Z 9) j (-1) i ∧ va_up (Z 9) j (-1) i ≤ 5) ∧ (0 ≤ Z 10 i ∧ _)
      unfold va_up
      refine ⟨hz.1, ?_, ?_, hz.2.2.2⟩ <;> split <;> omega
    · rw [su_ne (by omega), su_ne (by omega), su_ne (by omega), a3 g i (by omega), su_ne (by omega)]
    · rw [su_ne (by omega), su_ne (by omega), su_ne (by omega)]
      exact a4
  · refine ⟨a1, a2, fun g i hg => ?_, a4⟩
    rw [a3 g i (by omega), su_ne (by omega)]
def scl (U : gS) : Nat → gS
  | 0 => U
  | k + 1 => if scl U k 9 k ≠ -1 then scopies (scl U k) k else scl U k
def sbl (U : gS) : Nat → gS
  | 0 => U
  | k + 1 => su (sbl U k) 4 k (sbl U k 4 k + gbof (sbl U k) k)
def shv (U : gS) : Nat → gS
  | 0 => U
  | k + 1 => su (shv U k) 12 k (shv U k 12 k / 2)
def sdr (B : gS) (nm ns : Nat) : gS := if 0 < B 0 7 then sdraw B nm ns else B
/-- an hour passes -/
def shour (V : gS) (nm ns : Nat) : gS := shv (sdr (sbl (scl (su V 0 1 (V 0 1 + 1)) ns) 4) nm ns) ns
def shrs (T : gS) (nm ns : Nat) : Nat → gS
  | 0 => T
  | n + 1 => shour (shrs T nm ns n) nm ns
/-- what holds at each hour H -/
def gWP (nm ns : Nat) (H : Int) (V : gS) : Prop := gW1 V ∧ gW2 V ∧ V 0 2 = nm ∧ V 0 13 = ns ∧ (0 ≤ V 0 7 ∧ V 0 7 ≤ 1000) ∧ V 0 1 = H ∧ (∀ i, 0 ≤ V 11 i ∧ V 11 i ≤ 50 * H) ∧ ∀ i, i < ns → 0 ≤ V 12 i ∧ V 12 i ≤ 1000
theorem gWP_hour {nm ns : Nat} {H : Int} {V : gS} (h : gWP nm ns H V) : gWP nm ns (H + 1) (su V 0 1 (V 0 1 + 1)) ∧ ∀ i, su V 0 1 (V 0 1 + 1) 11 i ≤ 50 * H := by
  obtain ⟨h1, h2, h3, h4, h5, h6, h7, h8⟩ := h
  exact ⟨⟨h1, h2, h3, h4, h5, by rw [su_eq, h6], fun i => ⟨(h7 i).1, by have := (h7 i).2; show V 11 i ≤ 50 * (H + 1); omega⟩, h8⟩, fun i => (h7 i).2⟩
theorem gWP_scl {nm ns : Nat} {H : Int} {U : gS} (h : gWP nm ns (H + 1) U) (h9 : ∀ i, U 11 i ≤ 50 * H) : ∀ k, gWP nm ns (H + 1) (scl U k) ∧ ∀ i, k ≤ i → scl U k 11 i ≤ 50 * H
  | 0 => ⟨h, fun i _ => h9 i⟩
  | k + 1 => by
    obtain ⟨⟨h1, h2, h3, h4, h5, h6, h7, h8⟩, h10⟩ := gWP_scl h h9 k
    unfold scl
    split
    · obtain ⟨a1, a2, a3, a4⟩ := scopies_fr h1 h2 (j := k) (h7 k).1
      have hk := h10 k (Nat.le_refl k)
      refine ⟨⟨a1, a2, by rw [a3 0 2 (by omega)]; exact h3, by rw [a3 0 13 (by omega)]; exact h4, by rw [a3 0 7 (by omega)]; exact h5, by rw [a3 0 1 (by omega)]; exact h6, fun i => ?_, fun i hi => ?_⟩, fun i hi => ?_⟩
      · by_cases e : i = k
        · subst e; omega
        · rw [a3 11 i (by omega)]; exact h7 i
      · rw [a3 12 i (by omega)]; exact h8 i hi
      · rw [a3 11 i (by omega)]; exact h10 i (by omega)
    · exact ⟨⟨h1, h2, h3, h4, h5, h6, h7, h8⟩, fun i hi => h10 i (by omega)⟩
theorem gWP_sbl {nm ns : Nat} {H : Int} {U : gS} (h : gWP nm ns H U) : ∀ k, gWP nm ns H (sbl U k)
  | 0 => h
  | k + 1 => gWP_sbl h k
theorem gWP_sdr {nm ns : Nat} {H : Int} {U : gS} (h : gWP nm ns H U) (hnm : nm ≤ 6) (hH : 0 ≤ H) : gWP nm ns H (sdr U nm ns) := by
  unfold sdr
  split
  · unfold sdraw
    split
    · exact h
    · split
      · obtain ⟨h1, h2, h3, h4, h5, h6, h7, h8⟩ := h
        have hc := scold_r U nm
        refine ⟨fun i => ?_, h2, h3, h4, h5, h6, fun i => ?_, h8⟩
        · have a := h1 i
          have b := h1 (sbest U (shot U nm) ns).toNat
          show (0 ≤ U 7 i ∧ _) ∧ (-1 ≤ U 8 i ∧ _) ∧ (-1 ≤ va_up (U 9) _ (scold U nm) i ∧ va_up (U 9) _ (scold U nm) i ≤ 5) ∧ (0 ≤ va_up (U 10) _ (U 7 (sbest U (shot U nm) ns).toNat) i ∧ va_up (U 10) _ (U 7 (sbest U (shot U nm) ns).toNat) i ≤ 1000)
          unfold va_up
          refine ⟨a.1, a.2.1, ?_, ?_⟩ <;> split <;> omega
        · have a := h7 i
          show 0 ≤ va_up (U 11) _ 0 i ∧ va_up (U 11) _ 0 i ≤ 50 * H
          unfold va_up
          split <;> omega
      · exact h
  · exact h
theorem gWP_shv {nm ns : Nat} {H : Int} {U : gS} (h : gWP nm ns H U) : ∀ k, k ≤ ns → gWP nm ns H (shv U k)
  | 0, _ => h
  | k + 1, hk => by
    obtain ⟨h1, h2, h3, h4, h5, h6, h7, h8⟩ := gWP_shv h k (by omega)
    refine ⟨h1, h2, h3, h4, h5, h6, h7, fun i hi => ?_⟩
    have a := h8 i hi
    have b := h8 k (by omega)
    show 0 ≤ va_up (shv U k 12) k (shv U k 12 k / 2) i ∧ va_up (shv U k 12) k (shv U k 12 k / 2) i ≤ 1000
    unfold va_up
    split <;> omega
section MG
variable {w : gW} {l : Launch} {h : gH} {S : gS}

set_option maxRecDepth 100000 in
set_option maxHeartbeats 4000000 in
theorem c6_pass_1 (hS : gShM h) (h1 : gW1 S) (h2 : gW2 S) (h0 : gW0 S) {nm ns : Nat} (hs : gWS S nm ns) (x : Int) (hx : (-2147483648 ≤ x ∧ x < 2147483648)) (hp : ¬ (1 ≤ x ∧ x ≤ 200)) : gMm w l yX6_pass cX6_pass 4 (some .int) 4 [.ref 34, .int (iI x)] h S (some (.int (iI (0)))) (su S 0 0 1) := by
  refine gMm_start (by decide +kernel) (by simp [Value.category]) (Nat.le_of_ble_eq_true rfl) (fun m Wp C => ?_)
  have e02 := hs.1
  have hnm := hs.2.1
  have e13 := hs.2.2.1
  have hns1 := hs.2.2.2.1
  have hns2 := hs.2.2.2.2.1
  obtain ⟨hw1, hw7, hw8⟩ := h0
  show gG w m 4 Wp (gwr h S) 0 0 [some (.ref 34), some (.int (iI x)), none, none] [] 0
  refine g_aload_n C 0 dX6_pass_0 rfl rfl ?_
  refine g_iload_n C 1 dX6_pass_1 rfl rfl ?_
  refine g_iconst C dX6_pass_2 ?_
  refine g_sipush C dX6_pass_3 (by decide) ?_
  refine m_callS C [_, _, _] _ (kX6_54 rfl) rfl (c6_in_f x 1 200 hx (by omega) (by omega) (by omega)) rfl rfl (by decide) (Nat.le_refl _) (Nat.le_refl _) (Nat.le_of_ble_eq_true rfl) dX6_pass_6 ?_
  refine g_if_ne C 16 dX6_pass_9 (by decide) (by omega) (fun c9 => ?_) (fun c9 => ?_)
  · omega
  · refine g_iconst C dX6_pass_12 ?_
    refine g_goto C 33 dX6_pass_13 (by decide) ?_
    refine m_call C hS [_] _ (kX6_75 rfl) (c6_refN hS 1 (by omega) (by omega)) rfl rfl (by decide) (Nat.le_refl _) (Nat.le_refl _) (Nat.le_of_ble_eq_true rfl) dX6_pass_33 ?_
    refine g_if_eq C 41 dX6_pass_36 (by decide) (by omega) (fun c36 => ?_) (fun c36 => ?_)
    · omega
    · refine g_iconst C dX6_pass_39 ?_
      exact g_iret C dX6_pass_40 (Nat.le_refl _) (Nat.le_refl _) ⟨rfl, rfl⟩

set_option maxRecDepth 100000 in
set_option maxHeartbeats 4000000 in
theorem c6_pass_2 (hS : gShM h) (h1 : gW1 S) (h2 : gW2 S) (h0 : gW0 S) {nm ns : Nat} (hs : gWS S nm ns) (x : Int) (hx : (-2147483648 ≤ x ∧ x < 2147483648)) (hp : 1 ≤ x ∧ x ≤ 200) (hq : 2000 < S 0 1 + x) : gMm w l yX6_pass cX6_pass 4 (some .int) 4 [.ref 34, .int (iI x)] h S (some (.int (iI (0)))) (su S 0 0 2) := by
  refine gMm_start (by decide +kernel) (by simp [Value.category]) (Nat.le_of_ble_eq_true rfl) (fun m Wp C => ?_)
  have e02 := hs.1
  have hnm := hs.2.1
  have e13 := hs.2.2.1
  have hns1 := hs.2.2.2.1
  have hns2 := hs.2.2.2.2.1
  obtain ⟨hw1, hw7, hw8⟩ := h0
  show gG w m 4 Wp (gwr h S) 0 0 [some (.ref 34), some (.int (iI x)), none, none] [] 0
  refine g_aload_n C 0 dX6_pass_0 rfl rfl ?_
  refine g_iload_n C 1 dX6_pass_1 rfl rfl ?_
  refine g_iconst C dX6_pass_2 ?_
  refine g_sipush C dX6_pass_3 (by decide) ?_
  refine m_callS C [_, _, _] _ (kX6_54 rfl) rfl (c6_in_t x 1 200 hx (by omega) (by omega) (by omega)) rfl rfl (by decide) (Nat.le_refl _) (Nat.le_refl _) (Nat.le_of_ble_eq_true rfl) dX6_pass_6 ?_
  refine g_if_ne C 16 dX6_pass_9 (by decide) (by omega) (fun c9 => ?_) (fun c9 => ?_)
  · refine g_aload_n C 0 dX6_pass_16 rfl rfl ?_
    refine m_fld C hS (fX6_127 rfl) rfl dX6_pass_17 ?_
    refine g_iload_n C 1 dX6_pass_20 rfl rfl ?_
    refine g_iadd C dX6_pass_21 ?_
    refine g_sipush C dX6_pass_22 (by decide) ?_
    refine g_icmp_le C 32 dX6_pass_25 (by decide) (by omega) (by omega) (fun c25 => ?_) (fun c25 => ?_)
    · omega
    · refine g_iconst C dX6_pass_28 ?_
      refine g_goto C 33 dX6_pass_29 (by decide) ?_
      refine m_call C hS [_] _ (kX6_75 rfl) (c6_refN hS 2 (by omega) (by omega)) rfl rfl (by decide) (Nat.le_refl _) (Nat.le_refl _) (Nat.le_of_ble_eq_true rfl) dX6_pass_33 ?_
      refine g_if_eq C 41 dX6_pass_36 (by decide) (by omega) (fun c36 => ?_) (fun c36 => ?_)
      · omega
      · refine g_iconst C dX6_pass_39 ?_
        exact g_iret C dX6_pass_40 (Nat.le_refl _) (Nat.le_refl _) ⟨rfl, rfl⟩
  · omega

set_option maxRecDepth 100000 in
set_option maxHeartbeats 4000000 in
theorem c6_pass_3 (hS : gShM h) (h1 : gW1 S) (h2 : gW2 S) (h0 : gW0 S) {nm ns : Nat} (hs : gWS S nm ns) (x : Int) (hx : (-2147483648 ≤ x ∧ x < 2147483648)) (hp : 1 ≤ x ∧ x ≤ 200) (hq : S 0 1 + x ≤ 2000) (hw : gWP nm ns (S 0 1) (su S 0 0 0)) : gMm w l yX6_pass cX6_pass 4 (some .int) 4 [.ref 34, .int (iI x)] h S (some (.int (iI (S 0 1 + x)))) (shrs (su S 0 0 0) nm ns x.toNat) := by
  refine gMm_start (by decide +kernel) (by simp [Value.category]) (Nat.le_of_ble_eq_true rfl) (fun m Wp C => ?_)
  have e02 := hs.1
  have hnm := hs.2.1
  have e13 := hs.2.2.1
  have hns1 := hs.2.2.2.1
  have hns2 := hs.2.2.2.2.1
  obtain ⟨hw1, hw7, hw8⟩ := h0
  have L : ∀ (n i : Nat) (V : gS) (z : Option Value), i + n = x.toNat → V = shrs (su S 0 0 0) nm ns i → gWP nm ns (S 0 1 + i) V → gG w m 4 Wp (gwr h V) 0 0 [some (.ref 34), some (.int (iI x)), some (.int (iI (i : Int))), z] [] 43 := by
    intro n
    induction n with
    | zero =>
      intro i V z h8 hV hVw
      have e8 : i = x.toNat := by omega
      obtain ⟨i1, i2, i3, i4, i5, i6, i7, i8⟩ := hVw
      refine g_iload_n C 2 dX6_pass_43 rfl rfl ?_
      refine g_iload_n C 1 dX6_pass_44 rfl rfl ?_
      refine g_icmp_ge C 159 dX6_pass_45 (by decide) (by omega) (by omega) (fun c45 => ?_) (fun c45 => ?_)
      · refine g_aload_n C 0 dX6_pass_159 rfl rfl ?_
        refine m_fld C hS (fX6_127 rfl) rfl dX6_pass_160 ?_
        exact g_iret C dX6_pass_163 (Nat.le_refl _) (Nat.le_refl _) ⟨by rw [i6, e8]; congr 2; congr 1; omega, by rw [hV, e8]⟩
      · omega
    | succ n ih =>
      intro i V z h8 hV hVw
      have i6' := hVw.2.2.2.2.2.1
      have ih : ∀ (i : Nat) (V : gS), i + n = x.toNat → V = shrs (su S 0 0 0) nm ns i → gWP nm ns (S 0 1 + i) V → gG w m 4 Wp (gwr h V) 0 0 [some (.ref 34), some (.int (iI x)), some (.int (iI (i : Int))), some (.int (iI (ns : Int)))] [] 43 := fun i V => ih i V _
      obtain ⟨hUw, hU9⟩ := gWP_hour hVw
      obtain ⟨U, hU⟩ : ∃ U, U = su V 0 1 (V 0 1 + 1) := ⟨_, rfl⟩
      rw [← hU] at hUw hU9
      obtain ⟨Cs, hC9⟩ : ∃ Cs, Cs = scl U ns := ⟨_, rfl⟩
      have hCw : gWP nm ns (S 0 1 + i + 1) Cs := by rw [hC9]; exact (gWP_scl hUw hU9 ns).1
      obtain ⟨Bs, hB⟩ : ∃ Bs, Bs = sbl Cs 4 := ⟨_, rfl⟩
      have hBw : gWP nm ns (S 0 1 + i + 1) Bs := by rw [hB]; exact gWP_sbl hCw 4
      obtain ⟨D, hD⟩ : ∃ D, D = sdr Bs nm ns := ⟨_, rfl⟩
      have hDw : gWP nm ns (S 0 1 + i + 1) D := by rw [hD]; exact gWP_sdr hBw hnm (by omega)
      have hall : ∀ k, shv D k = shv (sdr (sbl (scl (su V 0 1 (V 0 1 + 1)) ns) 4) nm ns) k := fun k => by rw [hD, hB, hC9, hU]
      have H129 : ∀ (n k : Nat), k + n = ns → gG w m 4 Wp (gwr h (shv D k)) 0 0 [some (.ref 34), some (.int (iI x)), some (.int (iI (i : Int))), some (.int (iI (k : Int)))] [] 129 := by
        intro n
        induction n with
        | zero =>
          intro k h9
          have e9 : k = ns := by omega
          subst e9
          obtain ⟨i1, i2, i3, i4, i5, i6, i7, i8⟩ := gWP_shv hDw k (by omega)
          have hq := i8 k
          refine g_iload_n C 3 dX6_pass_129 rfl rfl ?_
          refine g_aload_n C 0 dX6_pass_130 rfl rfl ?_
          refine m_fld C hS (fX6_29 rfl) rfl dX6_pass_131 ?_
          refine g_icmp_ge C 153 dX6_pass_134 (by decide) (by omega) (by omega) (fun c134 => ?_) (fun c134 => ?_)
          · refine s_iinc (lo' := [_, _, _, _]) C dX6_pass_153 rfl (by decide) rfl ?_
            refine g_goto C 43 dX6_pass_156 (by decide) ?_
            exact g_as (ih (i + 1) (shv D k) (by omega) (by rw [shrs, ← hV, shour]; exact hall k) (by rw [show S 0 1 + ((i + 1 : Nat) : Int) = S 0 1 + (i : Int) + 1 by omega]; exact gWP_shv hDw k (Nat.le_refl k))) rfl rfl rfl
          · omega
        | succ n ih9 =>
          intro k h9
          obtain ⟨i1, i2, i3, i4, i5, i6, i7, i8⟩ := gWP_shv hDw k (by omega)
          have hq := i8 k
          refine g_iload_n C 3 dX6_pass_129 rfl rfl ?_
          refine g_aload_n C 0 dX6_pass_130 rfl rfl ?_
          refine m_fld C hS (fX6_29 rfl) rfl dX6_pass_131 ?_
          refine g_icmp_ge C 153 dX6_pass_134 (by decide) (by omega) (by omega) (fun c134 => ?_) (fun c134 => ?_)
          · omega
          · refine g_aload_n C 0 dX6_pass_137 rfl rfl ?_
            refine m_arr C hS 12 (by omega) (by omega) (fX6_48 rfl) rfl dX6_pass_138 ?_
            refine g_iload_n C 3 dX6_pass_141 rfl rfl ?_
            refine g_dup2 C dX6_pass_142 rfl rfl ?_
            refine m_iald C hS (by omega) rfl (by omega) k rfl (by omega) dX6_pass_143 ?_
            refine g_iconst C dX6_pass_144 ?_
            refine g_half C dX6_pass_145 (hq (by omega)).1 (by have := hq (by omega); omega) ?_
            refine m_iast C hS (by omega) rfl (by omega) k rfl (by omega) dX6_pass_146 ?_
            refine s_iinc (lo' := [_, _, _, _]) C dX6_pass_147 rfl (by decide) rfl ?_
            refine g_goto C 129 dX6_pass_150 (by decide) ?_
            exact g_as (ih9 (k + 1) (by omega)) rfl rfl rfl
      have H116 : ∀ z : Option Value, gG w m 4 Wp (gwr h Bs) 0 0 [some (.ref 34), some (.int (iI x)), some (.int (iI (i : Int))), z] [] 116 := by
        intro z
        obtain ⟨i1, i2, i3, i4, i5, i6, i7, i8⟩ := hBw
        by_cases e7 : 0 < Bs 0 7
        · have eD : D = sdraw Bs nm ns := by rw [hD, sdr, if_pos e7]
          refine g_aload_n C 0 dX6_pass_116 rfl rfl ?_
          refine m_fld C hS (fX6_89 rfl) rfl dX6_pass_117 ?_
          refine g_if_le C 127 dX6_pass_120 (by decide) (by omega) (fun c120 => ?_) (fun c120 => ?_)
          · omega
          · refine g_aload_n C 0 dX6_pass_123 rfl rfl ?_
            refine m_call C hS [] _ (kX6_133 rfl) (c6_draw hS i1 i2 i3 hnm i4 hns2 ⟨by omega, by omega⟩ i5 i8) rfl rfl (by decide) (Nat.le_refl _) (Nat.le_refl _) (Nat.le_of_ble_eq_true rfl) dX6_pass_124 ?_
            refine g_iconst C dX6_pass_127 ?_
            refine s_istore_n (lo' := [_, _, _, _]) C 3 dX6_pass_128 rfl (by decide) rfl ?_
            exact g_as (H129 ns 0 (by omega)) (by rw [← eD]; rfl) rfl rfl
        · have eD : D = Bs := by rw [hD, sdr, if_neg e7]
          refine g_aload_n C 0 dX6_pass_116 rfl rfl ?_
          refine m_fld C hS (fX6_89 rfl) rfl dX6_pass_117 ?_
          refine g_if_le C 127 dX6_pass_120 (by decide) (by omega) (fun c120 => ?_) (fun c120 => ?_)
          · refine g_iconst C dX6_pass_127 ?_
            refine s_istore_n (lo' := [_, _, _, _]) C 3 dX6_pass_128 rfl (by decide) rfl ?_
            exact g_as (H129 ns 0 (by omega)) (by rw [← eD]; rfl) rfl rfl
          · omega
      have H91 : ∀ (n k : Nat), k + n = 4 → gG w m 4 Wp (gwr h (sbl Cs k)) 0 0 [some (.ref 34), some (.int (iI x)), some (.int (iI (i : Int))), some (.int (iI (k : Int)))] [] 91 := by
        intro n
        induction n with
        | zero =>
          intro k h9
          have e9 : k = 4 := by omega
          subst e9
          obtain ⟨i1, i2, i3, i4, i5, i6, i7, i8⟩ := gWP_sbl hCw 4
          refine g_iload_n C 3 dX6_pass_91 rfl rfl ?_
          refine g_iconst C dX6_pass_92 ?_
          refine g_icmp_ge C 116 dX6_pass_93 (by decide) (by omega) (by omega) (fun c93 => ?_) (fun c93 => ?_)
          · exact g_as (H116 _) (by rw [hB]) rfl rfl
          · omega
        | succ n ih9 =>
          intro k h9
          obtain ⟨i1, i2, i3, i4, i5, i6, i7, i8⟩ := gWP_sbl hCw k
          refine g_iload_n C 3 dX6_pass_91 rfl rfl ?_
          refine g_iconst C dX6_pass_92 ?_
          refine g_icmp_ge C 116 dX6_pass_93 (by decide) (by omega) (by omega) (fun c93 => ?_) (fun c93 => ?_)
          · omega
          · refine g_aload_n C 0 dX6_pass_96 rfl rfl ?_
            refine m_arr C hS 4 (by omega) (by omega) (fX6_20 rfl) rfl dX6_pass_97 ?_
            refine g_iload_n C 3 dX6_pass_100 rfl rfl ?_
            refine g_dup2 C dX6_pass_101 rfl rfl ?_
            refine m_iald C hS (by omega) rfl (by omega) k rfl (by omega) dX6_pass_102 ?_
            refine g_aload_n C 0 dX6_pass_103 rfl rfl ?_
            refine g_iload_n C 3 dX6_pass_104 rfl rfl ?_
            refine m_call C hS [_] _ (kX6_101 rfl) (c6_bytesOf hS i2 (k : Int) (by omega)) rfl rfl (by decide) (Nat.le_refl _) (Nat.le_refl _) (Nat.le_of_ble_eq_true rfl) dX6_pass_105 ?_
            refine g_iadd C dX6_pass_108 ?_
            refine m_iast C hS (by omega) rfl (by omega) k rfl (by omega) dX6_pass_109 ?_
            refine s_iinc (lo' := [_, _, _, _]) C dX6_pass_110 rfl (by decide) rfl ?_
            refine g_goto C 91 dX6_pass_113 (by decide) ?_
            exact g_as (ih9 (k + 1) (by omega)) rfl rfl rfl
      have H60 : ∀ (n k : Nat), k + n = ns → gG w m 4 Wp (gwr h (scl U k)) 0 0 [some (.ref 34), some (.int (iI x)), some (.int (iI (i : Int))), some (.int (iI (k : Int)))] [] 60 := by
        intro n
        induction n with
        | zero =>
          intro k h9
          have e9 : k = ns := by omega
          subst e9
          obtain ⟨i1, i2, i3, i4, i5, i6, i7, i8⟩ := (gWP_scl hUw hU9 k).1
          refine g_iload_n C 3 dX6_pass_60 rfl rfl ?_
          refine g_aload_n C 0 dX6_pass_61 rfl rfl ?_
          refine m_fld C hS (fX6_29 rfl) rfl dX6_pass_62 ?_
          refine g_icmp_ge C 89 dX6_pass_65 (by decide) (by omega) (by omega) (fun c65 => ?_) (fun c65 => ?_)
          · refine g_iconst C dX6_pass_89 ?_
            refine s_istore_n (lo' := [_, _, _, _]) C 3 dX6_pass_90 rfl (by decide) rfl ?_
            exact g_as (H91 4 0 (by omega)) (by rw [sbl, hC9]) rfl rfl
          · omega
        | succ n ih9 =>
          intro k h9
          obtain ⟨i1, i2, i3, i4, i5, i6, i7, i8⟩ := (gWP_scl hUw hU9 k).1
          refine g_iload_n C 3 dX6_pass_60 rfl rfl ?_
          refine g_aload_n C 0 dX6_pass_61 rfl rfl ?_
          refine m_fld C hS (fX6_29 rfl) rfl dX6_pass_62 ?_
          refine g_icmp_ge C 89 dX6_pass_65 (by decide) (by omega) (by omega) (fun c65 => ?_) (fun c65 => ?_)
          · omega
          · refine g_aload_n C 0 dX6_pass_68 rfl rfl ?_
            refine m_arr C hS 9 (by omega) (by omega) (fX6_39 rfl) rfl dX6_pass_69 ?_
            refine g_iload_n C 3 dX6_pass_72 rfl rfl ?_
            refine m_iald C hS (by omega) rfl (by omega) k rfl (by omega) dX6_pass_73 ?_
            refine g_iconst C dX6_pass_74 ?_
            refine g_icmp_eq C 83 dX6_pass_75 (by decide) (by have := i1 k; omega) (by omega) (fun c75 => ?_) (fun c75 => ?_)
            · refine s_iinc (lo' := [_, _, _, _]) C dX6_pass_83 rfl (by decide) rfl ?_
              refine g_goto C 60 dX6_pass_86 (by decide) ?_
              exact g_as (ih9 (k + 1) (by omega)) (by rw [scl, if_neg (by omega)]) rfl rfl
            · refine g_aload_n C 0 dX6_pass_78 rfl rfl ?_
              refine g_iload_n C 3 dX6_pass_79 rfl rfl ?_
              refine m_call C hS [_] _ (kX6_130 rfl) (c6_copies hS i1 i2 ⟨by omega, by omega⟩ (k : Int) k rfl (by omega) c75 ⟨(i7 k).1, by have := (i7 k).2; omega⟩) rfl rfl (by decide) (Nat.le_refl _) (Nat.le_refl _) (Nat.le_of_ble_eq_true rfl) dX6_pass_80 ?_
              refine s_iinc (lo' := [_, _, _, _]) C dX6_pass_83 rfl (by decide) rfl ?_
              refine g_goto C 60 dX6_pass_86 (by decide) ?_
              exact g_as (ih9 (k + 1) (by omega)) (by rw [scl, if_pos c75]) rfl rfl
      refine g_iload_n C 2 dX6_pass_43 rfl rfl ?_
      refine g_iload_n C 1 dX6_pass_44 rfl rfl ?_
      refine g_icmp_ge C 159 dX6_pass_45 (by decide) (by omega) (by omega) (fun c45 => ?_) (fun c45 => ?_)
      · omega
      · refine g_aload_n C 0 dX6_pass_48 rfl rfl ?_
        refine g_dup C dX6_pass_49 rfl ?_
        refine m_fld C hS (fX6_127 rfl) rfl dX6_pass_50 ?_
        refine g_iconst C dX6_pass_53 ?_
        refine g_iadd C dX6_pass_54 ?_
        refine m_put C hS (fX6_127 rfl) rfl dX6_pass_55 ?_
        refine g_iconst C dX6_pass_58 ?_
        refine s_istore_n (lo' := [_, _, _, _]) C 3 dX6_pass_59 rfl (by decide) rfl ?_
        exact g_as (H60 ns 0 (by omega)) (by rw [scl, hU]) rfl rfl
  show gG w m 4 Wp (gwr h S) 0 0 [some (.ref 34), some (.int (iI x)), none, none] [] 0
  refine g_aload_n C 0 dX6_pass_0 rfl rfl ?_
  refine g_iload_n C 1 dX6_pass_1 rfl rfl ?_
  refine g_iconst C dX6_pass_2 ?_
  refine g_sipush C dX6_pass_3 (by decide) ?_
  refine m_callS C [_, _, _] _ (kX6_54 rfl) rfl (c6_in_t x 1 200 hx (by omega) (by omega) (by omega)) rfl rfl (by decide) (Nat.le_refl _) (Nat.le_refl _) (Nat.le_of_ble_eq_true rfl) dX6_pass_6 ?_
  refine g_if_ne C 16 dX6_pass_9 (by decide) (by omega) (fun c9 => ?_) (fun c9 => ?_)
  · refine g_aload_n C 0 dX6_pass_16 rfl rfl ?_
    refine m_fld C hS (fX6_127 rfl) rfl dX6_pass_17 ?_
    refine g_iload_n C 1 dX6_pass_20 rfl rfl ?_
    refine g_iadd C dX6_pass_21 ?_
    refine g_sipush C dX6_pass_22 (by decide) ?_
    refine g_icmp_le C 32 dX6_pass_25 (by decide) (by omega) (by omega) (fun c25 => ?_) (fun c25 => ?_)
    · refine g_iconst C dX6_pass_32 ?_
      refine m_call C hS [_] _ (kX6_75 rfl) (c6_ref0 hS) rfl rfl (by decide) (Nat.le_refl _) (Nat.le_refl _) (Nat.le_of_ble_eq_true rfl) dX6_pass_33 ?_
      refine g_if_eq C 41 dX6_pass_36 (by decide) (by omega) (fun c36 => ?_) (fun c36 => ?_)
      · refine g_iconst C dX6_pass_41 ?_
        refine s_istore_n (lo' := [_, _, _, _]) C 2 dX6_pass_42 rfl (by decide) rfl ?_
        exact g_as (L x.toNat 0 _ none (by omega) rfl (by rw [show S 0 1 + ((0 : Nat) : Int) = S 0 1 by omega]; exact hw)) rfl rfl rfl
      · omega
    · omega
  · omega

end MG
