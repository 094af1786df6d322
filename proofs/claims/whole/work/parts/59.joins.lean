/-! BOTH SIDES: joins -/
section QT
variable {S Y : gS} {s : Nat → Nat} {nm ns j : Nat} {A : List gCE} {B : List gOE} {c : Int}
theorem qj_join (h : qJ S Y s A B nm ns c) (hj : j + 1 < ns) (hp2 : S 8 j = S 8 (j + 1)) (h9 : S 9 j = -1) (h9' : S 9 (j + 1) = -1) :
    qJ (qjo S j ns) (su (su (su (su Y 11 (s j) (Y 11 (s (j + 1)))) 17 (s j) (Y 17 (s j) + Y 17 (s (j + 1)))) 18 (s j) (Y 18 (s j) + Y 18 (s (j + 1)))) 0 7 ((ns : Int) - 1)) (yjn s j ns) A B nm (ns - 1) (c + 1) := by
  obtain ⟨⟨⟨h1, h2, h0, hs, t1, t2, t3⟩, ⟨u1, u2, u3, u4, u5, u6, u7⟩, hN, ⟨Q1, Q2, Q3⟩, ⟨Z1, Z2, Z3⟩, hG⟩, a2, a3, ⟨a4, a5⟩, a6, a7, b1, b2, b3⟩ := h
  obtain ⟨s1, s2, s3, s4, s5, s6, s7, s8, s9⟩ := hs
  obtain ⟨⟨r1, r2⟩, ⟨r3, r4⟩, r5, r6, r7, r8⟩ := Z1 j (by omega)
  obtain ⟨⟨x1, x2⟩, ⟨x3, x4⟩, x5, x6, x7, x8⟩ := Z1 (j + 1) hj
  have e7 : ∀ i, qjo S j ns 7 i = if j + 1 ≤ i ∧ i < ns then S 7 (i + 1) else S 7 i := fun i => rfl
  have e8 : ∀ i, qjo S j ns 8 i = if j + 1 ≤ i ∧ i < ns then S 8 (i + 1) else S 8 i := fun i => rfl
  have e9 : ∀ i, qjo S j ns 9 i = if j + 1 ≤ i ∧ i < ns then S 9 (i + 1) else S 9 i := fun i => rfl
  have e10 : ∀ i, qjo S j ns 10 i = if j + 1 ≤ i ∧ i < ns then S 10 (i + 1) else S 10 i := fun i => rfl
  have e11 : ∀ i, qjo S j ns 11 i = if j + 1 ≤ i ∧ i < ns then S 11 (i + 1) else S 11 i := fun i => rfl
  have e12 : ∀ i, qjo S j ns 12 i = if j + 1 ≤ i ∧ i < ns then (if i + 1 = j then S 12 j + S 12 (j + 1) else S 12 (i + 1)) else (if i = j then S 12 j + S 12 (j + 1) else S 12 i) := fun i => rfl
  have q6 : qjo S j ns 6 = S 6 := rfl
  have n13 : qjo S j ns 0 13 = ((ns - 1 : Nat) : Int) := by show (ns : Int) - 1 = _; omega
  have b7 := h1 j
  have b8 := h1 (j + 1)
  have b9 := h1 (j + 2)
  have m1 := s8 j (by omega)
  have m2 : S 7 (j + 1) < S 7 (j + 2) := s8 (j + 1) (by omega)
  have g9 : qjo S j ns 9 j = -1 := by rw [e9, if_neg (by omega)]; exact h9
  have g8 : qjo S j ns 8 j = S 8 j := by rw [e8, if_neg (by omega)]
  have g7 : qjo S j ns 7 j = S 7 j := by rw [e7, if_neg (by omega)]
  have g7' : qjo S j ns 7 (j + 1) = S 7 (j + 2) := by rw [e7, if_pos (by omega)]
  have g12 : qjo S j ns 12 j = S 12 j + S 12 (j + 1) := by rw [e12, if_neg (by omega), if_pos rfl]
  have c3 : gsize (qjo S j ns) j = gsize S j + gsize S (j + 1) := by
    have := qs_app (S 6) (S 7 j).toNat ((S 7 (j + 1)).toNat - (S 7 j).toNat) ((S 7 (j + 2)).toNat - (S 7 (j + 1)).toNat)
    rw [show (S 7 j).toNat + ((S 7 (j + 1)).toNat - (S 7 j).toNat) = (S 7 (j + 1)).toNat by omega] at this
    show gsum (qjo S j ns 6) (qjo S j ns 7 j).toNat ((qjo S j ns 7 (j + 1)).toNat - (qjo S j ns 7 j).toNat) = gsum (S 6) (S 7 j).toNat ((S 7 (j + 1)).toNat - (S 7 j).toNat) + gsum (S 6) (S 7 (j + 1)).toNat ((S 7 (j + 2)).toNat - (S 7 (j + 1)).toNat)
    rw [← this, q6, g7, g7', show (S 7 (j + 1)).toNat - (S 7 j).toNat + ((S 7 (j + 2)).toNat - (S 7 (j + 1)).toNat) = (S 7 (j + 2)).toNat - (S 7 j).toNat by omega]
  have c4 : gcop S j = 0 := by unfold gcop; rw [if_pos h9]
  have c5 : gcop S (j + 1) = 0 := by unfold gcop; rw [if_pos h9']
  have c6 : gcop (qjo S j ns) j = 0 := by unfold gcop; rw [if_pos g9]
  have hif : ∀ i m, i < j → gheldF S m i = gheldF (qjo S j ns) m i := fun i m hi => by
    refine (gheldF_m m q6 ?_ ?_ ?_ ?_ ?_).symm
    · rw [e7, if_neg (by omega)]
    · rw [e7, if_neg (by omega)]
    · rw [e8, if_neg (by omega)]
    · rw [e9, if_neg (by omega)]
    · rw [e10, if_neg (by omega)]
  have hiu : ∀ i m, j < i → i < ns - 1 → gheldF S m (i + 1) = gheldF (qjo S j ns) m i := fun i m hi hi2 => by
    refine (gheldF_m m q6 ?_ ?_ ?_ ?_ ?_).symm
    · rw [e7, if_pos (by omega)]
    · rw [e7, if_pos (by omega)]
    · rw [e8, if_pos (by omega)]
    · rw [e9, if_pos (by omega)]
    · rw [e10, if_pos (by omega)]
  have gh : ∀ m : Int, m ≠ -1 → gheld (qjo S j ns) m = gheld S m := fun m hm => by
    rw [gheld_n n13, gheld_n s3]
    have := qs_ins' (f := gheldF (qjo S j ns) m) (g := gheldF S m) (j := j) (n := ns - 1) (by omega) (fun i hi => hif i m hi) ?_ (fun i hi hi2 => hiu i m hi hi2)
    · rw [show ns - 1 + 1 = ns by omega] at this
      exact this.symm
    · unfold gheldF
      rw [c4, c5, c6, c3, g8, g9, h9, h9', ← hp2]
      omega
  have hne : s (j + 1) ≠ s j := fun z => by have := a2 _ _ (by omega) (by omega) z; omega
  generalize hV : su (su (su (su Y 11 (s j) (Y 11 (s (j + 1)))) 17 (s j) (Y 17 (s j) + Y 17 (s (j + 1)))) 18 (s j) (Y 18 (s j) + Y 18 (s (j + 1)))) 0 7 ((ns : Int) - 1) = V
  have Vo : ∀ f q, f ≠ 0 → q ≠ s j → V f q = Y f q := fun f q x1 x2 => by
    rw [← hV, su_ne (Or.inl x1), su_ne (Or.inr x2), su_ne (Or.inr x2), su_ne (Or.inr x2)]
  have Vg : ∀ f, f ≠ 0 → f ≠ 11 → f ≠ 17 → f ≠ 18 → V f = Y f := fun f x1 x2 x3 x4 => by
    rw [← hV, su_g x1, su_g x4, su_g x3, su_g x2]
  have V0 : ∀ i, i ≠ 7 → V 0 i = Y 0 i := fun i x => by
    rw [← hV, su_ne (Or.inr x), su_ne (by omega), su_ne (by omega), su_ne (by omega)]
  have V7 : V 0 7 = (ns : Int) - 1 := by rw [← hV, su_eq]
  have v11 : V 11 (s j) = Y 11 (s (j + 1)) := by rw [← hV]; simp [su_f]
  have v17 : V 17 (s j) = Y 17 (s j) + Y 17 (s (j + 1)) := by rw [← hV]; simp [su_f]
  have v18 : V 18 (s j) = Y 18 (s j) + Y 18 (s (j + 1)) := by rw [← hV]; simp [su_f]
  have sp1 : ∀ i, i ≤ j → yjn s j ns i = s i := fun i x => by unfold yjn; rw [if_neg (by omega), if_neg (by omega)]
  have sp2 : yjn s j ns (ns - 1) = s (j + 1) := by unfold yjn; rw [if_pos rfl]
  have sp3 : ∀ i, j + 1 ≤ i → i < ns - 1 → yjn s j ns i = s (i + 1) := fun i x y => by unfold yjn; rw [if_neg (by omega), if_pos (by omega)]
  have sp4 : ∀ i, ns ≤ i → yjn s j ns i = s i := fun i x => by unfold yjn; rw [if_neg (by omega), if_neg (by omega)]
  have oth : ∀ i, i < 16 → i ≠ j → ∀ f, 10 ≤ f → V f (s i) = Y f (s i) := fun i x x1 f hf => Vo f _ (by omega) (fun z => x1 (a2 _ _ (by omega) (by omega) z))
  refine ⟨⟨⟨fun i => ?_, h2, h0, ⟨s1, s2, n13, by omega, by omega, ?_, ?_, fun i hi => ?_, fun i hi => ?_⟩, t1, fun i hi => ?_, t3⟩, ⟨?_, ?_, ?_, ?_, ?_, ?_, ?_⟩, ⟨?_, ⟨?_, ?_, ?_⟩, ?_, ?_⟩, ⟨fun t ht => ?_, ?_, ?_⟩, ⟨fun i hi => ?_, fun i y1 y2 => ?_, fun q => ?_⟩, fun m hm => ?_⟩, qi_join a2 hj s5, fun m hm => ?_, ⟨fun i hi => ?_, ?_⟩, fun i => ?_, a7, b1, b2, fun i hi k y1 y2 => ?_⟩
  · have a := h1 i
    have b := h1 (i + 1)
    rw [e7, e8, e9, e10]
    refine ⟨?_, ?_, ?_, ?_⟩ <;> (repeat' split) <;> omega
  · rw [e7, if_neg (by omega)]; exact s6
  · rw [e7, if_pos (by omega), show ns - 1 + 1 = ns by omega]; exact s7
  · rw [e7, e7]
    by_cases q1 : i < j
    · rw [if_neg (by omega), if_neg (by omega)]; exact s8 i (by omega)
    · by_cases q2 : i = j
      · subst q2; rw [if_neg (by omega), if_pos (by omega)]; show S 7 i < S 7 (i + 2); omega
      · rw [if_pos (by omega), if_pos (by omega)]; exact s8 (i + 1) (by omega)
  · rw [e7, e7, e8, e9, e10]
    by_cases q1 : i < j
    · have w : ¬ (j + 1 ≤ i ∧ i < ns) := by omega
      have w' : ¬ (j + 1 ≤ i + 1 ∧ i + 1 < ns) := by omega
      simp only [if_neg w, if_neg w']; exact s9 i (by omega)
    · by_cases q2 : i = j
      · subst q2
        have p1 := s9 i (by omega)
        have w : ¬ (i + 1 ≤ i ∧ i < ns) := by omega
        simp only [if_neg w]
        exact ⟨p1.1, p1.2.1, p1.2.2.1, fun z => absurd h9 z⟩
      · have w : j + 1 ≤ i ∧ i < ns := by omega
        have w' : j + 1 ≤ i + 1 ∧ i + 1 < ns := by omega
        simp only [if_pos w, if_pos w']; exact s9 (i + 1) (by omega)
  · rw [e8, e9]
    split
    · exact t2 (i + 1) (by omega)
    · exact t2 i (by omega)
  · rw [V0 _ (by omega)]; exact u1
  · rw [V0 _ (by omega)]; exact u2
  · rw [V0 _ (by omega)]; exact u3
  · rw [V0 _ (by omega)]; exact u4
  · rw [V0 _ (by omega)]; exact u5
  · rw [V0 _ (by omega)]; exact u6
  · rw [V7]; omega
  · unfold gNu; rw [Vg 1 (by omega) (by omega) (by omega) (by omega)]; exact hN.1
  · rw [Vg 2 (by omega) (by omega) (by omega) (by omega)]; exact hN.2.1.1
  · rw [Vg 3 (by omega) (by omega) (by omega) (by omega)]; exact hN.2.1.2.1
  · rw [Vg 4 (by omega) (by omega) (by omega) (by omega)]; exact hN.2.1.2.2
  · rw [Vg 2 (by omega) (by omega) (by omega) (by omega), Vg 3 (by omega) (by omega) (by omega) (by omega)]; exact hN.2.2.1
  · rw [Vg 3 (by omega) (by omega) (by omega) (by omega)]; exact hN.2.2.2
  · rw [Vg 5 (by omega) (by omega) (by omega) (by omega), Vg 6 (by omega) (by omega) (by omega) (by omega), Vg 7 (by omega) (by omega) (by omega) (by omega)]; exact Q1 t ht
  · rw [Vg 8 (by omega) (by omega) (by omega) (by omega)]; exact Q2
  · rw [Vg 9 (by omega) (by omega) (by omega) (by omega)]; exact Q3
  · by_cases q1 : i < j
    · rw [sp1 i (by omega)]
      refine qrow_m (Z1 i (by omega)) q6 ?_ ?_ (fun f f1 f2 => ?_) (fun f f1 _ => oth i (by omega) (by omega) f f1)
      · rw [e7, if_neg (by omega)]
      · rw [e7, if_neg (by omega)]
      · have : f = 8 ∨ f = 9 ∨ f = 10 ∨ f = 11 ∨ f = 12 := by omega
        rcases this with rfl | rfl | rfl | rfl | rfl
        · rw [e8, if_neg (by omega)]
        · rw [e9, if_neg (by omega)]
        · rw [e10, if_neg (by omega)]
        · rw [e11, if_neg (by omega)]
        · rw [e12, if_neg (by omega), if_neg (by omega)]
    · by_cases q2 : i = j
      · subst q2
        rw [sp1 i (by omega)]
        refine ⟨⟨?_, ?_⟩, ⟨?_, ?_⟩, fun z => absurd g9 z, ?_, ?_, ?_⟩
        · rw [Vg 10 (by omega) (by omega) (by omega) (by omega), r1, g7]
        · rw [v11, x2, g7']
        · rw [Vg 12 (by omega) (by omega) (by omega) (by omega), r3, g8]
        · rw [Vg 13 (by omega) (by omega) (by omega) (by omega), r4, g9, h9]
        · rw [Vg 16 (by omega) (by omega) (by omega) (by omega), r6, c4, c6]
        · rw [v17, r7, x7, c3]
        · rw [v18, r8, x8, g12]
      · rw [sp3 i (by omega) (by omega)]
        refine qrow_m (Z1 (i + 1) (by omega)) q6 ?_ ?_ (fun f f1 f2 => ?_) (fun f f1 _ => oth (i + 1) (by omega) (by omega) f f1)
        · rw [e7, if_pos (by omega)]
        · rw [e7, if_pos (by omega)]
        · have : f = 8 ∨ f = 9 ∨ f = 10 ∨ f = 11 ∨ f = 12 := by omega
          rcases this with rfl | rfl | rfl | rfl | rfl
          · rw [e8, if_pos (by omega)]
          · rw [e9, if_pos (by omega)]
          · rw [e10, if_pos (by omega)]
          · rw [e11, if_pos (by omega)]
          · rw [e12, if_pos (by omega), if_neg (by omega)]
  · by_cases q1 : i = ns - 1
    · subst q1
      rw [sp2, Vg 13 (by omega) (by omega) (by omega) (by omega), Vg 16 (by omega) (by omega) (by omega) (by omega), x4, x6, h9', c5]
      exact ⟨rfl, rfl⟩
    · rw [sp4 i (by omega), Vg 13 (by omega) (by omega) (by omega) (by omega), Vg 16 (by omega) (by omega) (by omega) (by omega)]
      exact Z2 i (by omega) y2
  · rw [Vg 14 (by omega) (by omega) (by omega) (by omega)]; exact Z3 q
  · rw [Vg 4 (by omega) (by omega) (by omega) (by omega), gh m (by omega)]; exact hG m hm
  · rw [gh m (by omega)]; exact a3 m hm
  · rw [e12]
    have p1 := a4 j (by omega)
    have p2 := a4 (j + 1) (by omega)
    have p3 := a4 i (by omega)
    have p4 := a4 (i + 1) (by omega)
    repeat' split
    · omega
    · omega
    · omega
    · omega
  · have := qs_ins' (f := qjo S j ns 12) (g := S 12) (j := j) (n := ns - 1) (by omega) (fun i hi => by rw [e12, if_neg (by omega), if_neg (by omega)]) (by rw [g12]) (fun i y1 y2 => by rw [e12, if_pos (by omega), if_neg (by omega)])
    rw [show ns - 1 + 1 = ns by omega] at this
    omega
  · rw [e11]
    split
    · exact a6 (i + 1)
    · exact a6 i
  · rw [e7] at y1 y2
    rw [e8]
    by_cases q1 : i < j
    · rw [if_neg (by omega)] at y1 y2
      rw [if_neg (by omega)]; exact b3 i (by omega) k y1 y2
    · by_cases q2 : i = j
      · subst q2
        rw [if_neg (by omega)] at y1
        rw [if_pos (by omega)] at y2
        rw [if_neg (by omega)]
        by_cases q3 : k < S 7 (i + 1)
        · exact b3 i (by omega) k y1 q3
        · rw [hp2]; exact b3 (i + 1) (by omega) k (by omega) y2
      · rw [if_pos (by omega)] at y1 y2
        rw [if_pos (by omega)]; exact b3 (i + 1) (by omega) k y1 y2
end QT
