/-! BOTH SIDES: steps of one row -/
section QA
variable {S Y : gS} {s : Nat → Nat} {nm ns j : Nat}
theorem qr_aim {m : Nat} (h : qR S Y s nm ns) (hi : qI s) (hj : j < ns) (h9 : S 9 j = -1) (hm : m < nm) (h8 : S 8 j ≠ m) : qR (sbeg S j m) (yaim Y (s j) (m + 1)) s nm ns := by
  obtain ⟨⟨h1, h2, h0, ⟨s1, s2, s3, s4, s5, s6, s7, s8, s9⟩, t1, t2, t3⟩, hU, hN, hK, hZ, hG⟩ := h
  obtain ⟨⟨r1, r2⟩, ⟨r3, r4⟩, r5, r6, r7, r8⟩ := hZ.1 j hj
  have e : ∀ f i, 8 ≤ f → f ≤ 12 → i ≠ j → sbeg S j m f i = S f i := fun f i a b c => by
    unfold sbeg; rw [su_ne (by omega), su_ne (by omega), su_ne (by omega)]
  have eY : ∀ f q, 10 ≤ f → f ≤ 18 → q ≠ s j → yaim Y (s j) (m + 1) f q = Y f q := fun f q a b c => by
    unfold yaim; rw [su_ne (by omega), su_ne (by omega), su_ne (by omega), su_ne (by omega)]
  have e9 : ∀ i, sbeg S j m 9 i = if i = j then (m : Int) else S 9 i := fun i => rfl
  have e10 : ∀ i, sbeg S j m 10 i = if i = j then S 7 j else S 10 i := fun i => rfl
  have b7 := h1 j
  have c0 : gcop (sbeg S j m) j = 0 := by
    unfold gcop
    rw [e9, if_pos rfl, if_neg (by omega), e10, if_pos rfl]
    show gsum (S 6) (S 7 j).toNat ((S 7 j).toNat - (S 7 j).toNat) = 0
    rw [Nat.sub_self]; rfl
  have c1 : gcop S j = 0 := by unfold gcop; rw [if_pos h9]
  refine ⟨⟨fun i => ?_, h2, h0, ⟨s1, s2, s3, s4, s5, s6, s7, s8, fun i hi2 => ?_⟩, t1, fun i hi2 => ?_, t3⟩, hU, hN, hK, qZ_step (S := S) (Y := Y) hi hj s5 rfl rfl e eY hZ ?_ ?_, fun m2 hm2 => ?_⟩
  · have a := h1 i
    refine ⟨a.1, a.2.1, ?_, ?_⟩
    · rw [e9]; split <;> omega
    · rw [e10]; split <;> omega
  · have a := s9 i hi2
    have a8 := s8 i hi2
    refine ⟨a.1, a.2.1, ?_, ?_⟩
    · rw [e9]; split <;> omega
    · rw [e9, e10]
      split
      · rename_i q; subst q; intro _; exact ⟨Int.le_refl _, Int.le_of_lt a8⟩
      · exact a.2.2.2
  · show sbeg S j m 9 i ≠ -1 → sbeg S j m 9 i ≠ S 8 i
    rw [e9]
    split
    · rename_i q; subst q; intro _ z; exact h8 z.symm
    · exact t2 i hi2
  · refine ⟨⟨r1, r2⟩, ⟨r3, ?_⟩, fun _ => ⟨?_, ?_⟩, ?_, r7, r8⟩
    · rw [e9, if_pos rfl]; simp [yaim, su_f]
    · rw [e10, if_pos rfl, ← r1]; simp [yaim, su_f]
    · simp [yaim, sbeg, su_f]
    · rw [c0]; simp [yaim, su_f]
  · have : yaim Y (s j) (m + 1) 14 (s j) = Y 10 (s j) := by simp [yaim, su_f]
    rw [this, r1]; exact b7.1
  · show Y 4 (m2 + 1) = _
    rw [hG m2 hm2, qheld_step (S' := sbeg S j m) hj s3 s3 rfl rfl e]
    have f1 : gheldF S m2 j = (if S 8 j = m2 then gsize S j else 0) + 0 := by unfold gheldF; rw [c1]; simp
    have f2 : gheldF (sbeg S j m) m2 j = (if S 8 j = m2 then gsize S j else 0) + 0 := by unfold gheldF; rw [c0, gsize_c (S := S) (S' := sbeg S j m) rfl rfl rfl, show sbeg S j m 8 j = S 8 j from rfl]; simp
    omega
theorem qr_fail (h : qR S Y s nm ns) (hi : qI s) (hj : j < ns) (h9 : S 9 j ≠ -1) : qR (srb S j) (yfail Y (s j)) s nm ns ∧ ∀ m, gheld (srb S j) m ≤ gheld S m := by
  obtain ⟨⟨h1, h2, h0, ⟨s1, s2, s3, s4, s5, s6, s7, s8, s9⟩, t1, t2, t3⟩, ⟨u1, u2, u3, u4, u5, u6, u7⟩, ⟨n1, ⟨n2, n3, n4⟩, n5, n6⟩, hK, hZ, hG⟩ := h
  obtain ⟨⟨r1, r2⟩, ⟨r3, r4⟩, r5, r6, r7, r8⟩ := hZ.1 j hj
  have e : ∀ f i, 8 ≤ f → f ≤ 12 → i ≠ j → srb S j f i = S f i := fun f i a b c => by
    unfold srb; rw [su_ne (by omega), su_ne (by omega)]
  have eY : ∀ f q, 10 ≤ f → f ≤ 18 → q ≠ s j → yfail Y (s j) f q = Y f q := fun f q a b c => by
    unfold yfail yaim; rw [su_ne (by omega), su_ne (by omega), su_ne (by omega), su_ne (by omega), su_ne (by omega), su_ne (by omega)]
  have e9 : ∀ i, srb S j 9 i = if i = j then (-1 : Int) else S 9 i := fun i => rfl
  have y4 : ∀ z, yfail Y (s j) 4 z = if z = (Y 13 (s j)).toNat then Y 4 (Y 13 (s j)).toNat - Y 16 (s j) else Y 4 z := fun z => by simp [yfail, yaim, su_f]
  have b7 := h1 j
  have c0 : gcop (srb S j) j = 0 := by unfold gcop; rw [e9, if_pos rfl, if_pos rfl]
  have gh : ∀ m : Int, m ≠ -1 → gheld (srb S j) m = gheld S m - if S 9 j = m then gcop S j else 0 := fun m hm => by
    rw [qheld_step (S' := srb S j) hj s3 s3 rfl rfl e]
    have f1 : gheldF S m j = (if S 8 j = m then gsize S j else 0) + (if S 9 j = m then gcop S j else 0) := rfl
    have f2 : gheldF (srb S j) m j = (if S 8 j = m then gsize S j else 0) + 0 := by unfold gheldF; rw [c0, gsize_c (S := S) (S' := srb S j) rfl rfl rfl, show srb S j 8 j = S 8 j from rfl]; simp
    omega
  refine ⟨⟨⟨fun i => ?_, h2, h0, ⟨s1, s2, s3, s4, s5, s6, s7, s8, fun i hi2 => ?_⟩, t1, fun i hi2 => ?_, t3⟩, ⟨u1, u2, u3, u4, u5, ?_, u7⟩, ⟨n1, ⟨n2, n3, ?_⟩, n5, n6⟩, hK, qZ_step (S := S) (Y := Y) hi hj s5 rfl rfl e eY hZ ?_ ?_, fun m2 hm2 => ?_⟩, fun m => ?_⟩
  · have a := h1 i
    refine ⟨a.1, a.2.1, ?_, a.2.2.2⟩
    rw [e9]; split <;> omega
  · have a := s9 i hi2
    refine ⟨a.1, a.2.1, ?_, ?_⟩
    · rw [e9]; split <;> omega
    · rw [e9]
      split
      · intro z; exact absurd rfl z
      · exact a.2.2.2
  · show srb S j 9 i ≠ -1 → srb S j 9 i ≠ S 8 i
    rw [e9]
    split
    · intro z; exact absurd rfl z
    · exact t2 i hi2
  · show Y 0 11 + 1 = S 0 10 + 1
    omega
  · rw [y4, if_neg (by omega)]; exact n4
  · refine ⟨⟨r1, r2⟩, ⟨r3, ?_⟩, fun z => absurd (by rw [e9, if_pos rfl]) z, ?_, r7, r8⟩
    · rw [e9, if_pos rfl]; simp [yfail, yaim, su_f]
    · rw [c0]; simp [yfail, yaim, su_f]
  · have : yfail Y (s j) 14 (s j) = Y 10 (s j) := by simp [yfail, yaim, su_f]
    rw [this, r1]; exact b7.1
  · rw [y4, gh m2 (by omega)]
    have hg := hG m2 hm2
    by_cases q : S 9 j = m2
    · have q2 : (Y 13 (s j)).toNat = m2 + 1 := by omega
      rw [q2, if_pos rfl, if_pos q]; omega
    · rw [if_neg (by omega), if_neg q]; omega
  · by_cases q : m = -1
    · subst q
      rw [qheld_step (S' := srb S j) hj s3 s3 rfl rfl e]
      have f1 : gheldF S (-1) j = (if S 8 j = -1 then gsize S j else 0) + (if S 9 j = -1 then gcop S j else 0) := rfl
      have f2 : gheldF (srb S j) (-1) j = (if S 8 j = -1 then gsize S j else 0) + 0 := by unfold gheldF; rw [c0, gsize_c (S := S) (S' := srb S j) rfl rfl rfl, show srb S j 8 j = S 8 j from rfl]; simp
      have := (gcop_le h1 h2 j).1
      omega
    · rw [gh m q]
      have := (gcop_le h1 h2 j).1
      split <;> omega
theorem qr_may (h : qR S Y s nm ns) (hi : qI s) (hj : j < ns) (h9 : S 9 j ≠ -1) : qR (su S 11 j (S 11 j + 50)) (su Y 15 (s j) (Y 15 (s j) + 50)) s nm ns := by
  obtain ⟨⟨h1, h2, h0, ⟨s1, s2, s3, s4, s5, s6, s7, s8, s9⟩, t1, t2, t3⟩, hU, hN, hK, hZ, hG⟩ := h
  obtain ⟨⟨r1, r2⟩, ⟨r3, r4⟩, r5, r6, r7, r8⟩ := hZ.1 j hj
  refine ⟨⟨h1, h2, h0, ⟨s1, s2, s3, s4, s5, s6, s7, s8, s9⟩, t1, t2, t3⟩, hU, hN, hK, qZ_step (S := S) (Y := Y) hi hj s5 rfl rfl (fun f i a b c => su_ne (by omega)) (fun f q a b c => su_ne (by omega)) hZ ⟨⟨r1, r2⟩, ⟨r3, r4⟩, fun z => ⟨(r5 z).1, ?_⟩, r6, r7, r8⟩ (hZ.2.2 (s j)), hG⟩
  rw [su_eq, su_eq, (r5 h9).2]
theorem qr_copy (h : qR S Y s nm ns) (hi : qI s) (hj : j < ns) (h9 : S 9 j ≠ -1) (hlt : S 10 j < S 7 (j + 1)) : qR (sad S j) (ytake Y (s j) (S 6 (S 10 j).toNat)) s nm ns ∧ ∀ m, gheld (sad S j) m = gheld S m + if S 9 j = m then S 6 (S 10 j).toNat else 0 := by
  obtain ⟨⟨h1, h2, h0, ⟨s1, s2, s3, s4, s5, s6, s7, s8, s9⟩, t1, t2, t3⟩, hU, ⟨n1, ⟨n2, n3, n4⟩, n5, n6⟩, hK, hZ, hG⟩ := h
  obtain ⟨⟨r1, r2⟩, ⟨r3, r4⟩, r5, r6, r7, r8⟩ := hZ.1 j hj
  have e : ∀ f i, 8 ≤ f → f ≤ 12 → i ≠ j → sad S j f i = S f i := fun f i a b c => by
    unfold sad; rw [su_ne (by omega), su_ne (by omega)]
  have eY : ∀ f q, 10 ≤ f → f ≤ 18 → q ≠ s j → ytake Y (s j) (S 6 (S 10 j).toNat) f q = Y f q := fun f q a b c => by
    unfold ytake; rw [su_ne (by omega), su_ne (by omega), su_ne (by omega), su_ne (by omega)]
  have e10 : ∀ i, sad S j 10 i = if i = j then S 10 j + 1 else S 10 i := fun i => rfl
  have y4 : ∀ z, ytake Y (s j) (S 6 (S 10 j).toNat) 4 z = if z = (Y 13 (s j)).toNat then Y 4 (Y 13 (s j)).toNat + S 6 (S 10 j).toNat else Y 4 z := fun z => by simp [ytake, su_f]
  have b7 := h1 j
  have b8 := h1 (j + 1)
  have b9 := (s9 j hj).2.2.2 h9
  have c0 : gcop (sad S j) j = gcop S j + S 6 (S 10 j).toNat := by
    unfold gcop
    rw [show sad S j 9 j = S 9 j from rfl, if_neg h9, if_neg h9, e10, if_pos rfl]
    show gsum (S 6) (S 7 j).toNat ((S 10 j + 1).toNat - (S 7 j).toNat) = _
    rw [show (S 10 j + 1).toNat - (S 7 j).toNat = ((S 10 j).toNat - (S 7 j).toNat) + 1 by omega, gsum, show (S 7 j).toNat + ((S 10 j).toNat - (S 7 j).toNat) = (S 10 j).toNat by omega]
  have gh : ∀ m : Int, gheld (sad S j) m = gheld S m + if S 9 j = m then S 6 (S 10 j).toNat else 0 := fun m => by
    rw [qheld_step (S' := sad S j) hj s3 s3 rfl rfl e]
    have f1 : gheldF S m j = (if S 8 j = m then gsize S j else 0) + (if S 9 j = m then gcop S j else 0) := rfl
    have f2 : gheldF (sad S j) m j = (if S 8 j = m then gsize S j else 0) + (if S 9 j = m then gcop S j + S 6 (S 10 j).toNat else 0) := by unfold gheldF; rw [c0, gsize_c (S := S) (S' := sad S j) rfl rfl rfl, show sad S j 8 j = S 8 j from rfl, show sad S j 9 j = S 9 j from rfl]
    omega
  refine ⟨⟨⟨gW1_sad h1 j hlt, h2, h0, ⟨s1, s2, s3, s4, s5, s6, s7, s8, fun i hi2 => ?_⟩, t1, t2, t3⟩, hU, ⟨n1, ⟨n2, n3, ?_⟩, n5, n6⟩, hK, qZ_step (S := S) (Y := Y) hi hj s5 rfl rfl e eY hZ ?_ ?_, fun m2 hm2 => ?_⟩, gh⟩
  · have a := s9 i hi2
    refine ⟨a.1, a.2.1, a.2.2.1, ?_⟩
    show S 9 i ≠ -1 → S 7 i ≤ sad S j 10 i ∧ sad S j 10 i ≤ S 7 (i + 1)
    rw [e10]
    split
    · rename_i q; subst q; intro _; omega
    · exact a.2.2.2
  · rw [y4, if_neg (by omega)]; exact n4
  · refine ⟨⟨r1, r2⟩, ⟨r3, r4⟩, fun _ => ⟨?_, ?_⟩, ?_, r7, r8⟩
    · rw [e10, if_pos rfl, ← (r5 h9).1]; simp [ytake, su_f]
    · have := (r5 h9).2
      simp [ytake, sad, su_f]; omega
    · rw [c0, ← r6]; simp [ytake, su_f]
  · have : ytake Y (s j) (S 6 (S 10 j).toNat) 14 (s j) = Y 14 (s j) + 1 := by simp [ytake, su_f]
    rw [this, (r5 h9).1]; omega
  · rw [y4, gh m2]
    have hg := hG m2 hm2
    by_cases q : S 9 j = m2
    · have q2 : (Y 13 (s j)).toNat = m2 + 1 := by omega
      rw [q2, if_pos rfl, if_pos q]; omega
    · rw [if_neg (by omega), if_neg q]; omega
/-- the shard j is cut over -/
def qcv (V : gS) (j : Nat) : gS := su (su (su V 8 j (V 9 j)) 9 j (-1)) 0 9 (V 0 9 + 1)
theorem qr_cut (h : qR S Y s nm ns) (hi : qI s) (hj : j < ns) (h9 : S 9 j ≠ -1) (hlt : S 10 j = S 7 (j + 1)) : qR (qcv S j) (ycov Y (s j)) s nm ns ∧ ∀ m : Nat, gheld (qcv S j) m ≤ gheld S m := by
  obtain ⟨⟨h1, h2, h0, ⟨s1, s2, s3, s4, s5, s6, s7, s8, s9⟩, t1, t2, t3⟩, ⟨u1, u2, u3, u4, u5, u6, u7⟩, ⟨n1, ⟨n2, n3, n4⟩, n5, n6⟩, hK, hZ, hG⟩ := h
  obtain ⟨⟨r1, r2⟩, ⟨r3, r4⟩, r5, r6, r7, r8⟩ := hZ.1 j hj
  have e : ∀ f i, 8 ≤ f → f ≤ 12 → i ≠ j → qcv S j f i = S f i := fun f i a b c => by
    unfold qcv; rw [su_ne (by omega), su_ne (by omega), su_ne (by omega)]
  have eY : ∀ f q, 10 ≤ f → f ≤ 18 → q ≠ s j → ycov Y (s j) f q = Y f q := fun f q a b c => by
    unfold ycov yaim; rw [su_ne (by omega), su_ne (by omega), su_ne (by omega), su_ne (by omega), su_ne (by omega), su_ne (by omega), su_ne (by omega)]
  have e9 : ∀ i, qcv S j 9 i = if i = j then (-1 : Int) else S 9 i := fun i => rfl
  have e8 : ∀ i, qcv S j 8 i = if i = j then S 9 j else S 8 i := fun i => rfl
  have y4 : ∀ z, ycov Y (s j) 4 z = if z = (Y 12 (s j)).toNat then Y 4 (Y 12 (s j)).toNat - Y 17 (s j) else Y 4 z := fun z => by simp [ycov, yaim, su_f]
  have b7 := h1 j
  have b9 := s9 j hj
  have t2j := t2 j hj h9
  have c1 : gcop S j = gsize S j := by unfold gcop gsize; rw [if_neg h9, hlt]
  have c0 : gcop (qcv S j) j = 0 := by unfold gcop; rw [e9, if_pos rfl, if_pos rfl]
  have gh : ∀ m : Nat, gheld (qcv S j) m = gheld S m - if S 8 j = m then gsize S j else 0 := fun m => by
    rw [qheld_step (S' := qcv S j) hj s3 s3 rfl rfl e]
    have f1 : gheldF S m j = (if S 8 j = m then gsize S j else 0) + (if S 9 j = m then gsize S j else 0) := by unfold gheldF; rw [c1]
    have f2 : gheldF (qcv S j) m j = (if S 9 j = m then gsize S j else 0) + 0 := by unfold gheldF; rw [c0, gsize_c (S := S) (S' := qcv S j) rfl rfl rfl, e8, if_pos rfl]; simp
    omega
  refine ⟨⟨⟨fun i => ?_, h2, h0, ⟨s1, s2, s3, s4, s5, s6, s7, s8, fun i hi2 => ?_⟩, t1, fun i hi2 => ?_, t3⟩, ⟨u1, u2, u3, u4, ?_, u6, u7⟩, ⟨n1, ⟨n2, n3, ?_⟩, n5, n6⟩, hK, qZ_step (S := S) (Y := Y) hi hj s5 rfl rfl e eY hZ ?_ ?_, fun m2 hm2 => ?_⟩, fun m => ?_⟩
  · have a := h1 i
    refine ⟨a.1, ?_, ?_, a.2.2.2⟩
    · rw [e8]; split <;> omega
    · rw [e9]; split <;> omega
  · have a := s9 i hi2
    refine ⟨?_, ?_, ?_, ?_⟩
    · rw [e8]; split <;> omega
    · rw [e8]; split <;> omega
    · rw [e9]; split <;> omega
    · rw [e9]
      split
      · intro z; exact absurd rfl z
      · exact a.2.2.2
  · rw [e9]
    split
    · intro z; exact absurd rfl z
    · rename_i q
      rw [e8, if_neg q]; exact t2 i hi2
  · show Y 0 10 + 1 = S 0 9 + 1
    omega
  · rw [y4, if_neg (by omega)]; exact n4
  · refine ⟨⟨r1, r2⟩, ⟨?_, ?_⟩, fun z => absurd (by rw [e9, if_pos rfl]) z, ?_, r7, r8⟩
    · rw [e8, if_pos rfl]; simp [ycov, yaim, su_f]; omega
    · rw [e9, if_pos rfl]; simp [ycov, yaim, su_f]
    · rw [c0]; simp [ycov, yaim, su_f]
  · have : ycov Y (s j) 14 (s j) = Y 10 (s j) := by simp [ycov, yaim, su_f]
    rw [this, r1]; exact b7.1
  · rw [y4, gh m2]
    have hg := hG m2 hm2
    by_cases q : S 8 j = m2
    · have q2 : (Y 12 (s j)).toNat = m2 + 1 := by omega
      rw [q2, if_pos rfl, if_pos q]; omega
    · rw [if_neg (by omega), if_neg q]; omega
  · rw [gh m]
    have := (gsize_le h1 h2 j).1
    split <;> omega
/-- a heat changes -/
theorem qr_heat {v : Int} (h : qR S Y s nm ns) (hi : qI s) (hj : j < ns) : qR (su S 12 j v) (su Y 18 (s j) v) s nm ns := by
  obtain ⟨⟨h1, h2, h0, ⟨s1, s2, s3, s4, s5, s6, s7, s8, s9⟩, t1, t2, t3⟩, hU, hN, hK, hZ, hG⟩ := h
  obtain ⟨⟨r1, r2⟩, ⟨r3, r4⟩, r5, r6, r7, r8⟩ := hZ.1 j hj
  refine ⟨⟨h1, h2, h0, ⟨s1, s2, s3, s4, s5, s6, s7, s8, s9⟩, t1, t2, t3⟩, hU, hN, hK, qZ_step (S := S) (Y := Y) hi hj s5 rfl rfl (fun f i a b c => su_ne (by omega)) (fun f q a b c => su_ne (by omega)) hZ ⟨⟨r1, r2⟩, ⟨r3, r4⟩, r5, r6, r7, ?_⟩ (hZ.2.2 (s j)), hG⟩
  rw [su_eq, su_eq]
end QA
