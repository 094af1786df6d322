/-! BOTH SIDES: an hour, the hours -/
def qmo (t : Int) : List gCE → Int
  | [] => 0
  | e :: r => ymo t e + qmo t r
theorem ybill_h (t hr : Int) : ∀ (A : List gCE) (a b : Int), ybill t (hr + 1) A (a + b) = ybill t hr A a + b + qmo t A
  | [], a, b => by show a + b = a + b + 0; omega
  | e :: r, a, b => by
    show ybill t (hr + 1) r (a + b + ymo t e * (hr + 1 - e.1)) = ybill t hr r (a + ymo t e * (hr - e.1)) + b + (ymo t e + qmo t r)
    rw [show hr + 1 - e.1 = (hr - e.1) + 1 by omega, Int.mul_add, Int.mul_one, show a + b + (ymo t e * (hr - e.1) + ymo t e) = (a + ymo t e * (hr - e.1)) + (b + ymo t e) by omega, ybill_h t hr r]
    omega
/-- the log of changes tells the bills -/
def qL (S : gS) (A : List gCE) : Prop := (∀ e, e ∈ A → gCR e) ∧ ∀ t : Nat, t < 4 → S 4 t = ybill t (S 0 1) A 0 ∧ gbof S t = qmo t A
theorem gbof_c {S S' : gS} (h5 : S' 5 = S 5) (h6 : S' 6 = S 6) (t : Int) : gbof S' t = gbof S t := by
  unfold gbof gbofF; rw [h5, h6]
theorem sbl_g (U : gS) : ∀ (k : Nat) {g : Nat}, g ≠ 4 → sbl U k g = U g
  | 0, _, _ => rfl
  | k + 1, g, h => by rw [sbl, su_g h, sbl_g U k h]
theorem sbl_4 (U : gS) : ∀ (k : Nat) (t : Nat), sbl U k 4 t = if t < k then U 4 t + gbof U t else U 4 t
  | 0, t => by rw [if_neg (by omega)]; rfl
  | k + 1, t => by
    rw [sbl, su_f, gbof_c (S := U) (sbl_g U k (by omega)) (sbl_g U k (by omega)), sbl_4 U k, sbl_4 U k]
    by_cases e : t = k
    · subst e; rw [if_pos ⟨rfl, rfl⟩, if_neg (by omega), if_pos (by omega)]
    · rw [if_neg (fun z => e z.2)]
      by_cases e2 : t < k
      · rw [if_pos e2, if_pos (by omega)]
      · rw [if_neg e2, if_neg (by omega)]
theorem shv_g (U : gS) : ∀ (k : Nat) {g : Nat}, g ≠ 12 → shv U k g = U g
  | 0, _, _ => rfl
  | k + 1, g, h => by rw [shv, su_g h, shv_g U k h]
theorem shv_12 (U : gS) : ∀ (k : Nat) (i : Nat), shv U k 12 i = if i < k then U 12 i / 2 else U 12 i
  | 0, t => by rw [if_neg (by omega)]; rfl
  | k + 1, t => by
    rw [shv, su_f, shv_12 U k, shv_12 U k]
    by_cases e : t = k
    · subst e; rw [if_pos ⟨rfl, rfl⟩, if_neg (by omega), if_pos (by omega)]
    · rw [if_neg (fun z => e z.2)]
      by_cases e2 : t < k
      · rw [if_pos e2, if_pos (by omega)]
      · rw [if_neg e2, if_neg (by omega)]
theorem yhv_g (U : gS) (s : Nat → Nat) : ∀ (k : Nat) {g : Nat}, g ≠ 18 → yhv U s k g = U g
  | 0, _, _ => rfl
  | k + 1, g, h => by rw [yhv, su_g h, yhv_g U s k h]
theorem sdr_g (S : gS) (nm ns : Nat) {g : Nat} (h1 : g ≠ 9) (h2 : g ≠ 10) (h3 : g ≠ 11) : sdr S nm ns g = S g := by
  unfold sdr sdraw sbeg
  split
  · split
    · rfl
    · split
      · rw [su_g h3, su_g h2, su_g h1]
      · rfl
  · rfl
theorem scl_g {nm ns : Nat} {H : Int} {U : gS} (h : gWP nm ns (H + 1) U) (h9 : ∀ i, U 11 i ≤ 50 * H) : ∀ k, ∀ g i, (g ≠ 8 ∧ g ≠ 9 ∧ g ≠ 10 ∧ g ≠ 11 ∧ g ≠ 0) ∨ (g = 0 ∧ i ≠ 10 ∧ i ≠ 9) → scl U k g i = U g i
  | 0, _, _, _ => rfl
  | k + 1, g, i, hg => by
    have a := scl_g h h9 k g i hg
    obtain ⟨⟨h1, h2, h3, h4, h5, h6, h7, h8⟩, h10⟩ := gWP_scl h h9 k
    rw [scl]
    split
    · rw [(scopies_fr h1 h2 (h7 k).1).2.2.1 g i (by omega)]; exact a
    · exact a
theorem qs_mono {f g : Nat → Int} (a : Nat) : ∀ n : Nat, (∀ i, a ≤ i → i < a + n → f i ≤ g i) → gsum f a n ≤ gsum g a n
  | 0, _ => Int.le_refl _
  | n + 1, h => by
    have h1 := qs_mono a n (fun i x y => h i x (by omega))
    have h2 := h (a + n) (by omega) (by omega)
    rw [gsum, gsum]; omega
section QD
variable {S Y : gS} {s : Nat → Nat} {nm ns : Nat}
theorem qM_same {S' Y' : gS} {s' : Nat → Nat} {ns' : Nat} (h : qR S Y s nm ns) (h' : qR S' Y' s' nm ns') (e4 : Y' 4 = Y 4) (e1 : S' 1 = S 1) (hM : qM S nm) : qM S' nm := fun m hm => by
  have a := h.2.2.2.2.2 m (by have := h.1.2.2.2.1.2.1; omega)
  have b := h'.2.2.2.2.2 m (by have := h.1.2.2.2.1.2.1; omega)
  rw [← b, e4, a, e1]; exact hM m hm
theorem qB_same {S' : gS} {B : List gOE} (e7 : S' 7 = S 7) (e8 : S' 8 = S 8) (hB : qB S nm ns B) : qB S' nm ns B := by
  unfold qB; rw [e7, e8]; exact hB
theorem qr_h0 (h : qR S Y s nm ns) (hH : S 0 1 < 2000) : qR (su S 0 1 (S 0 1 + 1)) (su Y 0 8 (Y 0 8 + 1)) s nm ns := by
  obtain ⟨⟨h1, h2, ⟨h01, h07, h08⟩, hs, hT⟩, ⟨u1, u2, u3, u4, u5, u6, u7⟩, hN, hK, hZ, hG⟩ := h
  refine ⟨⟨h1, h2, ⟨?_, h07, h08⟩, hs, hT⟩, ⟨?_, u2, u3, u4, u5, u6, u7⟩, hN, hK, hZ, hG⟩
  · show 0 ≤ S 0 1 + 1 ∧ S 0 1 + 1 ≤ 2000; omega
  · show Y 0 8 + 1 = S 0 1 + 1; omega
theorem qr_Pc {H : Int} (h : qR S Y s nm ns) (hM : qM S nm) (hP : gWP nm ns H S) (hH : H ≤ 2000) {j : Nat} (hj : j < ns) (h13 : Y 13 (s j) ≠ 0) : yPc Y (s j) := by
  obtain ⟨⟨h1, h2, h0, ⟨s1, s2, s3, s4, s5, s6, s7, s8, s9⟩, t1, t2, t3⟩, hU, ⟨n1, n2, n5, n6⟩, hK, hZ, hG⟩ := h
  obtain ⟨⟨r1, r2⟩, ⟨r3, r4⟩, r5, r6, r7, r8⟩ := hZ.1 j hj
  have h9 : S 9 j ≠ -1 := by omega
  obtain ⟨r51, r52⟩ := r5 h9
  have b9 := s9 j hj
  have b10 := b9.2.2.2 h9
  have b1 := h1 j
  have b2 := h1 (j + 1)
  obtain ⟨m, hm⟩ : ∃ m : Nat, S 9 j = m := ⟨(S 9 j).toNat, by omega⟩
  have hz : (Y 13 (s j)).toNat = m + 1 := by omega
  have e4 := hG m (by omega)
  have e2 := (n5 m (by omega)).1
  have g1 := (gheld_le h1 h2 (by omega) m).1
  have g2 := hM m (by omega)
  have g3 := (h2 m).1
  have g4 := (hP.2.2.2.2.2.2.1 j)
  have g5 := s8 j hj
  refine ⟨by omega, by omega, fun k => ?_, ?_, ?_, by omega⟩
  · rw [hK.2.1 k]; exact (h2 k).2.2.2.2
  · rw [hz, e4]; omega
  · rw [hz, e2]; omega
theorem qr_hour {H : Int} (h : qR S Y s nm ns) (hM : qM S nm) (hi : qI s) (hP : gWP nm ns H S) (hH : 0 ≤ H) (hH2 : H < 2000) :
    qR (shour S nm ns) (yhour Y s nm ns) s nm ns ∧ qM (shour S nm ns) nm ∧ gWP nm ns (H + 1) (shour S nm ns) ∧ yPh Y s nm ns ∧ (∀ B, qB S nm ns B → qB (shour S nm ns) nm ns (yhourB Y s ns B)) ∧ (∀ c, qH S ns c → qH (shour S nm ns) ns c) ∧ ∀ A, qL S A → qL (shour S nm ns) A := by
  have hns := h.1.2.2.2.1.2.2.2.2.1
  have hnm := h.1.2.2.2.1.2.1
  have e01 := hP.2.2.2.2.2.1
  have a0 := qr_h0 h (by omega)
  have a0M : qM (su S 0 1 (S 0 1 + 1)) nm := hM
  obtain ⟨p0, p0b⟩ := gWP_hour hP
  have aK := fun k (hk : k ≤ ns) => qr_scl a0 a0M hi k hk
  obtain ⟨c1, c2, c3⟩ := aK ns (Nat.le_refl _)
  have pK := fun k => (gWP_scl p0 p0b k).1
  have fr := scl_g p0 p0b ns
  have d1 := qr_bill c1 4 (Nat.le_refl _)
  have d2 := qM_same c1 d1 (ybl_fr _ 4 4 (by omega)) (sbl_g _ 4 (by omega)) c2
  have d3 := gWP_sbl (pK ns) 4
  obtain ⟨k1, k2⟩ := qr_draw d1 d2 hi
  have k3 := gWP_sdr d3 hnm (by omega)
  have l1 := qr_half k1 hi ns (Nat.le_refl _)
  have l2 := qM_same k1 l1 (yhv_g _ s ns (by omega)) (shv_g _ ns (by omega)) k2
  have l3 := gWP_shv k3 ns (Nat.le_refl _)
  have eF : ∀ g, g ≠ 12 → g ≠ 9 → g ≠ 10 → g ≠ 11 → g ≠ 4 → shour S nm ns g = scl (su S 0 1 (S 0 1 + 1)) ns g := fun g x1 x2 x3 x4 x5 => by
    unfold shour; rw [shv_g _ ns x1, sdr_g _ nm ns x2 x3 x4, sbl_g _ 4 x5]
  have e4 : ∀ t, t < 4 → shour S nm ns 4 t = S 4 t + gbof S t := fun t ht => by
    unfold shour; rw [shv_g _ ns (by omega), sdr_g _ nm ns (by omega) (by omega) (by omega), sbl_4, if_pos ht, fr 4 t (by omega)]
    rw [gbof_c (S := S) (funext fun i => fr 5 i (by omega)) (funext fun i => fr 6 i (by omega))]
    rfl
  have e12 : ∀ i, i < ns → shour S nm ns 12 i = S 12 i / 2 := fun i hi2 => by
    unfold shour; rw [shv_12, if_pos hi2, sdr_g _ nm ns (by omega) (by omega) (by omega), sbl_g _ 4 (by omega), fr 12 i (by omega)]
    rfl
  have e0 : shour S nm ns 0 1 = S 0 1 + 1 := by
    rw [eF 0 (by omega) (by omega) (by omega) (by omega) (by omega), fr 0 1 (by omega), su_eq]
  have e5 : shour S nm ns 5 = S 5 := by
    rw [eF 5 (by omega) (by omega) (by omega) (by omega) (by omega)]; funext i; rw [fr 5 i (by omega)]; rfl
  have e6 : shour S nm ns 6 = S 6 := by
    rw [eF 6 (by omega) (by omega) (by omega) (by omega) (by omega)]; funext i; rw [fr 6 i (by omega)]; rfl
  refine ⟨l1, l2, l3, ⟨fun k hk h13 => ?_, fun z hz => ?_, fun z => ?_, fun i hi2 => ?_, ?_, fun i j x y => hi i j (by omega) (by omega)⟩, fun B hB => ?_, fun c hc => ?_, fun A hA => ?_⟩
  · obtain ⟨m1, m2, -⟩ := aK k (by omega)
    exact qr_Pc m1 m2 (pK k) (by omega) hk h13
  · have := h.2.2.1.2.2.2 z hz; omega
  · have q : 0 ≤ yheat (yW Y s ns) s ns z ∧ yheat (yW Y s ns) s ns z ≤ ns * 1000 := gsum_le2 0 ns (fun i _ hi2 => by
      have r := (d1.2.2.2.2.1.1 i (by omega)).2.2.2.2.2
      have v := d3.2.2.2.2.2.2.2 i (by omega)
      show 0 ≤ yheatF (yW Y s ns) s z i ∧ yheatF (yW Y s ns) s z i ≤ 1000
      unfold yheatF
      have r : yW Y s ns 18 (s i) = _ := r
      rw [r]
      split <;> omega)
    omega
  · have r := (h.2.2.2.2.1.1 i hi2).2.2.2.2.2
    have v := hP.2.2.2.2.2.2.2 i hi2
    omega
  · have := h.2.1.2.2.1
    have := hP.2.2.2.2.1
    omega
  · exact qB_same (S := scl (su S 0 1 (S 0 1 + 1)) ns) (eF 7 (by omega) (by omega) (by omega) (by omega) (by omega)) (eF 8 (by omega) (by omega) (by omega) (by omega) (by omega)) (c3 B hB)
  · refine ⟨fun i hi2 => ?_, ?_⟩
    · rw [e12 i hi2]; have := hc.1 i hi2; omega
    · exact Int.le_trans (qs_mono 0 ns (fun i _ hi2 => by rw [e12 i (by omega)]; have := hc.1 i (by omega); omega)) hc.2
  · refine ⟨hA.1, fun t ht => ?_⟩
    obtain ⟨x1, x2⟩ := hA.2 t ht
    rw [e4 t ht, gbof_c (S := S) e5 e6, e0]
    refine ⟨?_, x2⟩
    have := ybill_h t (S 0 1) A 0 0
    rw [show (0 : Int) + 0 = 0 from rfl] at this
    rw [this, x1, x2]; omega
theorem qr_pass {H : Int} (h : qR S Y s nm ns) (hM : qM S nm) (hi : qI s) (hP : gWP nm ns H S) (hH : 0 ≤ H) : ∀ n : Nat, H + n ≤ 2000 →
    qR (shrs S nm ns n) (ypas Y s nm ns n) s nm ns ∧ qM (shrs S nm ns n) nm ∧ gWP nm ns (H + n) (shrs S nm ns n) ∧ (∀ i, i < n → yPh (ypas Y s nm ns i) s nm ns) ∧ (∀ B, qB S nm ns B → qB (shrs S nm ns n) nm ns (ypasB Y s nm ns B n)) ∧ (∀ c, qH S ns c → qH (shrs S nm ns n) ns c) ∧ ∀ A, qL S A → qL (shrs S nm ns n) A
  | 0, _ => ⟨h, hM, by rw [show H + ((0 : Nat) : Int) = H by omega]; exact hP, fun i hi => by omega, fun B z => z, fun c z => z, fun A z => z⟩
  | n + 1, hn => by
    obtain ⟨a1, a2, a3, a4, a5, a6, a7⟩ := qr_pass h hM hi hP hH n (by omega)
    obtain ⟨b1, b2, b3, b4, b5, b6, b7⟩ := qr_hour a1 a2 hi a3 (by omega) (by omega)
    refine ⟨b1, b2, by rw [show H + ((n + 1 : Nat) : Int) = H + n + 1 by omega]; exact b3, fun i hi2 => ?_, fun B z => b5 _ (a5 B z), fun c z => b6 c (a6 c z), fun A z => b7 A (a7 A z)⟩
    by_cases e : i = n
    · subst e; exact b4
    · exact a4 i (by omega)
end QD
