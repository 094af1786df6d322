/-! BOTH SIDES: what is written or taken away; splits, joins; hours -/
section QP
variable {S Y : gS} {s : Nat → Nat} {nm ns j : Nat} {A : List gCE} {B : List gOE} {c : Int}
theorem qj_write (h : qJ S Y s A B nm ns c) {key : Nat} {t b tc : Int} (hj : j < ns) (hk : key < 1000) (k1 : S 7 j ≤ key) (k2 : key < S 7 (j + 1)) (hn : 0 < nm) (h8 : S 0 8 < 600) (ht : 0 ≤ t ∧ t ≤ 3) (hb : 0 ≤ b ∧ b ≤ 100) (htc : tc = if b = 0 then -1 else t) (hroom : gheld S (S 8 j) - S 6 key + b ≤ S 1 (S 8 j).toNat) :
    qJ (swf (swr S key j t b) key j) (ychc (ychg Y (s j) key tc b) (s j) key (b - Y 8 key)) s ((Y 0 8, Y 9 key, Y 8 key, tc, b) :: A) B nm ns (c + 1) ∧ (b ≤ S 6 key → swf (swr S key j t b) key j = swr S key j t b) := by
  obtain ⟨a1, a2, a3, a4, a6, a7, a8⟩ := h
  obtain ⟨K1, K2⟩ := qr_chg a1 a2 hj hk k1 k2 hn h8 ht hb htc
  have hS := a1.1
  obtain ⟨⟨h1, h2, h0, hs, t1, t2, t3⟩, ⟨u1, u2, u3, u4, u5, u6, u7⟩, ⟨n1, ⟨n2, n3, n4⟩, n5, n6⟩, ⟨Q1, Q2, Q3⟩, hZ, hG⟩ := a1
  obtain ⟨⟨r1, r2⟩, ⟨r3, r4⟩, r5, r6, r7, r8⟩ := hZ.1 j hj
  have b1 := h1 j
  have b9 := hs.2.2.2.2.2.2.2.2 j hj
  have b8 := b9.2.1 hn
  have hnm := hs.2.1
  have hh := swr_held hS t b hj k1 k2
  have v13 : ychg Y (s j) key tc b 13 = Y 13 := ychg_g _ _ _ _ _ (by omega)
  have v14 : ychg Y (s j) key tc b 14 = Y 14 := ychg_g _ _ _ _ _ (by omega)
  have v2 : ychg Y (s j) key tc b 2 = Y 2 := ychg_g _ _ _ _ _ (by omega)
  have v16 : ychg Y (s j) key tc b 16 = Y 16 := ychg_g _ _ _ _ _ (by omega)
  obtain ⟨mh, hmh⟩ : ∃ m : Nat, S 8 j = m := ⟨(S 8 j).toNat, by omega⟩
  rw [hmh, Int.toNat_natCast] at hroom
  have main : (qR (swf (swr S key j t b) key j) (ychc (ychg Y (s j) key tc b) (s j) key (b - Y 8 key)) s nm ns ∧ qM (swf (swr S key j t b) key j) nm) ∧ (b ≤ S 6 key → swf (swr S key j t b) key j = swr S key j t b) := by
    by_cases hc : S 9 j ≠ -1 ∧ key < S 10 j
    · obtain ⟨mt, hmt⟩ : ∃ m : Nat, S 9 j = m := ⟨(S 9 j).toNat, by omega⟩
      have hz : (Y 13 (s j)).toNat = mt + 1 := by omega
      have t2j := t2 j hj hc.1
      have r51 := (r5 hc.1).1
      have v4 : ychg Y (s j) key tc b 4 (mt + 1) = gheld S mt := by rw [ychg_4, if_neg (by omega)]; exact hG mt (by omega)
      have e2 : Y 2 (mt + 1) = S 1 mt := (n5 mt (by omega)).1
      have ht9 := hh mt
      rw [if_neg (by omega), if_pos ⟨hmt, hc⟩] at ht9
      have hbase := a3 mt (by omega)
      have K := K2 hc
      unfold ychc
      rw [v13, v14, v2, v16, hz, v4, e2, Q2, if_pos (show Y 13 (s j) ≠ 0 ∧ (key : Int) < Y 14 (s j) by omega)]
      rw [hz, hG mt (by omega)] at K
      by_cases fit : gheld S mt + (b - S 6 key) ≤ S 1 mt
      · rw [if_pos fit]
        have esw : swf (swr S key j t b) key j = swr S key j t b := by
          unfold swf
          rw [if_neg (fun z => ?_)]
          have z2 := z.2.2
          have z2 : S 1 (S 9 j).toNat < gheld (swr S key j t b) (S 9 j) := z2
          rw [hmt, Int.toNat_natCast] at z2
          omega
        rw [esw]
        refine ⟨⟨K, fun m hm => ?_⟩, fun _ => rfl⟩
        show gheld (swr S key j t b) m ≤ S 1 m
        have g := a3 m hm
        have q := hh m
        by_cases e1 : S 8 j = m
        · have : m = mh := by omega
          subst this
          rw [if_pos e1, if_neg (fun z => t2j (z.1.trans e1.symm))] at q; omega
        · by_cases e3 : S 9 j = m
          · have : m = mt := by omega
            subst this; omega
          · rw [if_neg e1, if_neg (fun z => e3 z.1)] at q; omega
      · rw [if_neg fit]
        have esw : swf (swr S key j t b) key j = srb (swr S key j t b) j := by
          unfold swf
          rw [if_pos]
          · rfl
          · refine ⟨hc.1, hc.2, ?_⟩
            show S 1 (S 9 j).toNat < gheld (swr S key j t b) (S 9 j)
            rw [hmt, Int.toNat_natCast]; omega
        obtain ⟨F1, F2⟩ := qr_fail K a2 hj hc.1
        have ey := yfail_p (ychg Y (s j) key tc b) (s j) (b - S 6 key)
        rw [v13, hz, v4, v16] at ey
        rw [ey] at F1
        rw [esw]
        refine ⟨⟨F1, fun m hm => ?_⟩, fun z => by omega⟩
        show gheld (srb (swr S key j t b) j) m ≤ S 1 m
        have g := a3 m hm
        have q := hh m
        by_cases e3 : S 9 j = m
        · have : m = mt := by omega
          subst this
          have w := F1.2.2.2.2.2 m (by omega)
          have y4 : yfail (ychg Y (s j) key tc b) (s j) 4 (m + 1) = gheld S m - Y 16 (s j) := by
            unfold yfail yaim
            rw [su_ne (by omega), su_ne (by omega), su_ne (by omega), su_ne (by omega), su_ne (by omega), v13, hz, su_eq, v4, v16]
          rw [← w, y4]
          have := (gcop_le h1 h2 j).1
          omega
        · have f := F2 m
          by_cases e1 : S 8 j = m
          · have : m = mh := by omega
            subst this
            rw [if_pos e1, if_neg (fun z => e3 z.1)] at q; omega
          · rw [if_neg e1, if_neg (fun z => e3 z.1)] at q; omega
    · have esw : swf (swr S key j t b) key j = swr S key j t b := by
        unfold swf
        rw [if_neg (fun z => hc ⟨z.1, z.2.1⟩)]
      have ec : ychc (ychg Y (s j) key tc b) (s j) key (b - Y 8 key) = ychg Y (s j) key tc b := by
        unfold ychc
        rw [v13, v14, if_neg (fun z => ?_)]
        have h9 : S 9 j ≠ -1 := by have := z.1; omega
        have := (r5 h9).1
        exact hc ⟨h9, by have := z.2; omega⟩
      rw [esw, ec]
      refine ⟨⟨K1 hc, fun m hm => ?_⟩, fun _ => rfl⟩
      show gheld (swr S key j t b) m ≤ S 1 m
      have g := a3 m hm
      have q := hh m
      rw [if_neg (show ¬ (S 9 j = (m : Int) ∧ S 9 j ≠ -1 ∧ (key : Int) < S 10 j) from fun z => hc z.2)] at q
      by_cases e1 : S 8 j = m
      · have : m = mh := by omega
        subst this
        rw [if_pos e1] at q; omega
      · rw [if_neg e1] at q; omega
  refine ⟨⟨main.1.1, a2, main.1.2, ?_, ?_, ⟨?_, ?_⟩, qB_same (swf_g _ _ _ (by omega) (by omega)) (swf_g _ _ _ (by omega) (by omega)) a8⟩, main.2⟩
  · exact qh_inc a4 hj (swf_g _ _ _ (by omega) (by omega))
  · unfold q11; rw [swf_g _ _ _ (by omega) (by omega), swf_0 _ _ _ (by omega)]; exact a6
  · intro e he
    rcases List.mem_cons.mp he with rfl | he
    · have q := Q3 key hk
      have q5 := (h2 key).2.2.2.1
      refine ⟨?_, ?_⟩
      · show -1 ≤ Y 9 key ∧ Y 9 key ≤ 3
        rw [q]; split <;> omega
      · show -1 ≤ tc ∧ tc ≤ 3
        rw [htc]; split <;> omega
    · exact a7.1 e he
  · intro t2 ht2
    obtain ⟨x1, x2⟩ := a7.2 t2 ht2
    rw [swf_g _ _ _ (by omega) (by omega), swf_0 _ _ _ (by omega), gbof_c (swf_g _ _ _ (by omega) (by omega)) (swf_g _ _ _ (by omega) (by omega)), swr_bof S j t b hk]
    refine ⟨?_, ?_⟩
    · show S 4 t2 = ybill t2 (S 0 1) A (0 + ymo t2 _ * (S 0 1 - Y 0 8))
      rw [u1, Int.sub_self, Int.mul_zero]
      exact x1
    · show _ = ((if tc = t2 then b else 0) - (if Y 9 key = t2 then Y 8 key else 0)) + qmo t2 A
      rw [← x2, Q2 key]
      have q := Q3 key hk
      split at q <;> split at htc <;> omega
theorem shour_00 {H : Int} (hP : gWP nm ns H S) : shour S nm ns 0 0 = S 0 0 := by
  obtain ⟨p0, p0b⟩ := gWP_hour hP
  unfold shour
  rw [shv_g _ ns (by omega), sdr_g _ nm ns (by omega) (by omega) (by omega), sbl_g _ 4 (by omega), scl_g p0 p0b ns 0 0 (by omega), su_ne (by omega)]
theorem qj_pass (h : qJ S Y s A B nm ns c) (hc : c ≤ 512) {n : Nat} (hn : S 0 1 + n ≤ 2000) :
    gWP nm ns (S 0 1) (su S 0 0 0) ∧ qJ (shrs (su S 0 0 0) nm ns n) (ypas Y s nm ns n) s A (ypasB Y s nm ns B n) nm ns (c + 1) ∧ (∀ i, i < n → gNu (ypas Y s nm ns i) ∧ yPh (ypas Y s nm ns i) s nm ns) ∧ shrs (su S 0 0 0) nm ns n 0 1 = S 0 1 + n ∧ ∀ i, i ≤ n → shrs (su S 0 0 0) nm ns i 0 0 = 0 := by
  obtain ⟨a1, a2, a3, ⟨a4, a5⟩, a6, a7, a8⟩ := h
  have hP : gWP nm ns (S 0 1) (su S 0 0 0) := by
    refine ⟨a1.1.1, a1.1.2.1, a1.1.2.2.2.1.1, a1.1.2.2.2.1.2.2.1, a1.1.2.2.1.2.1, rfl, a6, fun i hi => ?_⟩
    have := (qs_at (f := S 12) 0 ns (fun i _ hi => a4 i (by omega))).2 i (by omega) (by omega)
    have := a4 i hi
    show 0 ≤ S 12 i ∧ S 12 i ≤ 1000
    omega
  obtain ⟨b1, b2, b3, b4, b5, b6, b7⟩ := qr_pass (S := su S 0 0 0) a1 a3 a2 hP a1.1.2.2.1.1.1 n hn
  have b01 := b3.2.2.2.2.2.1
  refine ⟨hP, ⟨b1, a2, b2, ?_, ?_, b7 A a7, b5 B a8⟩, fun i hi => ⟨?_, b4 i hi⟩, b01, fun i hi => ?_⟩
  · have := b6 c ⟨a4, a5⟩
    exact ⟨this.1, by have := this.2; omega⟩
  · intro i; have := b3.2.2.2.2.2.2.1 i; rw [b01]; exact this
  · exact (qr_pass (S := su S 0 0 0) a1 a3 a2 hP a1.1.2.2.1.1.1 i (by omega)).1.2.2.1.1
  · have hz : ∀ i, i ≤ n → shrs (su S 0 0 0) nm ns i 0 0 = 0 := by
      intro i
      induction i with
      | zero => intro _; rfl
      | succ i ih => intro hi; rw [shrs, shour_00 (qr_pass (S := su S 0 0 0) a1 a3 a2 hP a1.1.2.2.1.1.1 i (by omega)).2.2.1]; exact ih (by omega)
    exact hz i hi
end QP
