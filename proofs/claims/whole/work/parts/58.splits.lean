/-! BOTH SIDES: splits and joins -/
theorem gsize_m {S S' : gS} {i i' : Nat} (h6 : S' 6 = S 6) (h7 : S' 7 i = S 7 i') (h8 : S' 7 (i + 1) = S 7 (i' + 1)) : gsize S' i = gsize S i' := by
  unfold gsize; rw [h6, h7, h8]
theorem gcop_m {S S' : gS} {i i' : Nat} (h6 : S' 6 = S 6) (h7 : S' 7 i = S 7 i') (h9 : S' 9 i = S 9 i') (h10 : S' 10 i = S 10 i') : gcop S' i = gcop S i' := by
  unfold gcop; rw [h6, h7, h9, h10]
theorem gheldF_m {S S' : gS} {i i' : Nat} (m : Int) (h6 : S' 6 = S 6) (h7 : S' 7 i = S 7 i') (h7' : S' 7 (i + 1) = S 7 (i' + 1)) (h8 : S' 8 i = S 8 i') (h9 : S' 9 i = S 9 i') (h10 : S' 10 i = S 10 i') : gheldF S' m i = gheldF S m i' := by
  unfold gheldF; rw [gsize_m h6 h7 h7', gcop_m h6 h7 h9 h10, h8, h9]
theorem qrow_m {S S' Y Y' : gS} {i i' q : Nat} (h : qrow S Y i' q) (h6 : S' 6 = S 6) (h7 : S' 7 i = S 7 i') (h7' : S' 7 (i + 1) = S 7 (i' + 1)) (e : ∀ f, 8 ≤ f → f ≤ 12 → S' f i = S f i') (eY : ∀ f, 10 ≤ f → f ≤ 18 → Y' f q = Y f q) : qrow S' Y' i q := by
  obtain ⟨⟨a1, a2⟩, ⟨a3, a4⟩, a5, a6, a7, a8⟩ := h
  unfold qrow
  rw [gsize_m h6 h7 h7', gcop_m h6 h7 (e 9 (by omega) (by omega)) (e 10 (by omega) (by omega)), h7, h7', e 8 (by omega) (by omega), e 9 (by omega) (by omega), e 10 (by omega) (by omega), e 11 (by omega) (by omega), e 12 (by omega) (by omega), eY 10 (by omega) (by omega), eY 11 (by omega) (by omega), eY 12 (by omega) (by omega), eY 13 (by omega) (by omega), eY 14 (by omega) (by omega), eY 15 (by omega) (by omega), eY 16 (by omega) (by omega), eY 17 (by omega) (by omega), eY 18 (by omega) (by omega)]
  exact ⟨⟨a1, a2⟩, ⟨a3, a4⟩, a5, a6, a7, a8⟩
def qsp (S : gS) (j ns : Nat) (key : Int) : gS := su (su (su (su (sins (su S 0 0 0) j ns) 7 (j + 1) key) 12 (j + 1) (S 12 j - S 12 j / 2)) 12 j (S 12 j / 2)) 0 13 ((ns : Int) + 1)
def qjo (S : gS) (j ns : Nat) : gS := su (sdel (su (su S 0 0 0) 12 j (S 12 j + S 12 (j + 1))) (j + 1) ns) 0 13 ((ns : Int) - 1)
section QS
variable {S Y : gS} {s : Nat → Nat} {nm ns j : Nat} {A : List gCE} {B : List gOE} {c : Int}
theorem qi_split (hi : qI s) (hj : j < ns) (hns : ns < 16) : qI (ysp s j ns) := by
  have hp : ∀ i, ∃ k, ysp s j ns i = s k ∧ ((i = j + 1 ∧ k = ns) ∨ (i ≠ j + 1 ∧ j + 1 < i ∧ i ≤ ns ∧ k = i - 1) ∨ (i ≠ j + 1 ∧ ¬ (j + 1 < i ∧ i ≤ ns) ∧ k = i)) := fun i => by
    unfold ysp
    by_cases e1 : i = j + 1
    · exact ⟨ns, by rw [if_pos e1], Or.inl ⟨e1, rfl⟩⟩
    · by_cases e2 : j + 1 < i ∧ i ≤ ns
      · exact ⟨i - 1, by rw [if_neg e1, if_pos e2], Or.inr (Or.inl ⟨e1, e2.1, e2.2, rfl⟩)⟩
      · exact ⟨i, by rw [if_neg e1, if_neg e2], Or.inr (Or.inr ⟨e1, e2, rfl⟩)⟩
  intro a b ha hb e
  obtain ⟨k1, x1, y1⟩ := hp a
  obtain ⟨k2, x2, y2⟩ := hp b
  rw [x1, x2] at e
  have := hi k1 k2 (by omega) (by omega) e
  omega
theorem qi_join (hi : qI s) (hj : j + 1 < ns) (hns : ns ≤ 16) : qI (yjn s j ns) := by
  have hp : ∀ i, ∃ k, yjn s j ns i = s k ∧ ((i = ns - 1 ∧ k = j + 1) ∨ (i ≠ ns - 1 ∧ j + 1 ≤ i ∧ i < ns - 1 ∧ k = i + 1) ∨ (i ≠ ns - 1 ∧ ¬ (j + 1 ≤ i ∧ i < ns - 1) ∧ k = i)) := fun i => by
    unfold yjn
    by_cases e1 : i = ns - 1
    · exact ⟨j + 1, by rw [if_pos e1], Or.inl ⟨e1, rfl⟩⟩
    · by_cases e2 : j + 1 ≤ i ∧ i < ns - 1
      · exact ⟨i + 1, by rw [if_neg e1, if_pos e2], Or.inr (Or.inl ⟨e1, e2.1, e2.2, rfl⟩)⟩
      · exact ⟨i, by rw [if_neg e1, if_neg e2], Or.inr (Or.inr ⟨e1, e2, rfl⟩)⟩
  intro a b ha hb e
  obtain ⟨k1, x1, y1⟩ := hp a
  obtain ⟨k2, x2, y2⟩ := hp b
  rw [x1, x2] at e
  have := hi k1 k2 (by omega) (by omega) e
  omega
theorem qj_split (h : qJ S Y s A B nm ns c) {key : Int} (hj : j < ns) (hk : 0 ≤ key ∧ key ≤ 999) (k1 : S 7 j ≤ key) (k2 : key < S 7 (j + 1)) (k3 : S 7 j ≠ key) (h9 : S 9 j = -1) (hns : ns < 16) :
    qJ (qsp S j ns key) (ycut (su Y 0 7 (ns + 1)) (s j) (s ns) key) (ysp s j ns) A B nm (ns + 1) (c + 1) := by
  obtain ⟨⟨⟨h1, h2, h0, hs, t1, t2, t3⟩, ⟨u1, u2, u3, u4, u5, u6, u7⟩, hN, ⟨Q1, Q2, Q3⟩, ⟨Z1, Z2, Z3⟩, hG⟩, a2, a3, ⟨a4, a5⟩, a6, a7, b1, b2, b3⟩ := h
  obtain ⟨s1, s2, s3, s4, s5, s6, s7, s8, s9⟩ := hs
  obtain ⟨⟨r1, r2⟩, ⟨r3, r4⟩, r5, r6, r7, r8⟩ := Z1 j hj
  have e7 : ∀ i, qsp S j ns key 7 i = if i = j + 1 then key else if j < i ∧ i ≤ ns + 1 then S 7 (i - 1) else S 7 i := fun i => rfl
  have e8 : ∀ i, qsp S j ns key 8 i = if j < i ∧ i ≤ ns + 1 then S 8 (i - 1) else S 8 i := fun i => rfl
  have e9 : ∀ i, qsp S j ns key 9 i = if j < i ∧ i ≤ ns + 1 then S 9 (i - 1) else S 9 i := fun i => rfl
  have e10 : ∀ i, qsp S j ns key 10 i = if j < i ∧ i ≤ ns + 1 then S 10 (i - 1) else S 10 i := fun i => rfl
  have e11 : ∀ i, qsp S j ns key 11 i = if j < i ∧ i ≤ ns + 1 then S 11 (i - 1) else S 11 i := fun i => rfl
  have e12 : ∀ i, qsp S j ns key 12 i = if i = j then S 12 j / 2 else if i = j + 1 then S 12 j - S 12 j / 2 else if j < i ∧ i ≤ ns + 1 then S 12 (i - 1) else S 12 i := fun i => rfl
  have q6 : qsp S j ns key 6 = S 6 := rfl
  have n13 : qsp S j ns key 0 13 = ((ns + 1 : Nat) : Int) := by show (ns : Int) + 1 = _; omega
  have b7 := h1 j
  have b8 := h1 (j + 1)
  -- the two new sizes
  have c1 : gsize (qsp S j ns key) j = gsum (S 6) (S 7 j).toNat (key.toNat - (S 7 j).toNat) := by
    unfold gsize; rw [q6, e7, e7, if_neg (by omega), if_neg (by omega), if_pos rfl]
  have c2 : gsize (qsp S j ns key) (j + 1) = gsum (S 6) key.toNat ((S 7 (j + 1)).toNat - key.toNat) := by
    unfold gsize; rw [q6, e7, e7, if_pos rfl, if_neg (by omega), if_pos (by omega)]; rfl
  have c3 : gsize S j = gsize (qsp S j ns key) j + gsize (qsp S j ns key) (j + 1) := by
    rw [c1, c2]
    have := qs_app (S 6) (S 7 j).toNat (key.toNat - (S 7 j).toNat) ((S 7 (j + 1)).toNat - key.toNat)
    rw [show (S 7 j).toNat + (key.toNat - (S 7 j).toNat) = key.toNat by omega] at this
    rw [← this]
    unfold gsize
    rw [show key.toNat - (S 7 j).toNat + ((S 7 (j + 1)).toNat - key.toNat) = (S 7 (j + 1)).toNat - (S 7 j).toNat by omega]
  have c4 : gcop S j = 0 := by unfold gcop; rw [if_pos h9]
  have g9 : qsp S j ns key 9 j = -1 := by rw [e9, if_neg (by omega)]; exact h9
  have g9' : qsp S j ns key 9 (j + 1) = -1 := by rw [e9, if_pos (by omega), Nat.add_sub_cancel]; exact h9
  have g8 : qsp S j ns key 8 j = S 8 j := by rw [e8, if_neg (by omega)]
  have g8' : qsp S j ns key 8 (j + 1) = S 8 j := by rw [e8, if_pos (by omega), Nat.add_sub_cancel]
  have c5 : gcop (qsp S j ns key) j = 0 := by unfold gcop; rw [if_pos g9]
  have c6 : gcop (qsp S j ns key) (j + 1) = 0 := by unfold gcop; rw [if_pos g9']
  have lo : ∀ i, i < j → gsize (qsp S j ns key) i = gsize S i ∧ gcop (qsp S j ns key) i = gcop S i := fun i hi => by
    refine ⟨gsize_m q6 ?_ ?_, gcop_m q6 ?_ ?_ ?_⟩
    · rw [e7, if_neg (by omega), if_neg (by omega)]
    · rw [e7, if_neg (by omega), if_neg (by omega)]
    · rw [e7, if_neg (by omega), if_neg (by omega)]
    · rw [e9, if_neg (by omega)]
    · rw [e10, if_neg (by omega)]
  have hif : ∀ i m, i < j → gheldF (qsp S j ns key) m i = gheldF S m i := fun i m hi => by
    refine gheldF_m m q6 ?_ ?_ ?_ ?_ ?_
    · rw [e7, if_neg (by omega), if_neg (by omega)]
    · rw [e7, if_neg (by omega), if_neg (by omega)]
    · rw [e8, if_neg (by omega)]
    · rw [e9, if_neg (by omega)]
    · rw [e10, if_neg (by omega)]
  have hiu : ∀ i m, j < i → i < ns → gheldF (qsp S j ns key) m (i + 1) = gheldF S m i := fun i m hi hi2 => by
    refine gheldF_m m q6 ?_ ?_ ?_ ?_ ?_
    · rw [e7, if_neg (by omega), if_pos (by omega)]; rfl
    · rw [e7, if_neg (by omega), if_pos (by omega)]; rfl
    · rw [e8, if_pos (by omega)]; rfl
    · rw [e9, if_pos (by omega)]; rfl
    · rw [e10, if_pos (by omega)]; rfl
  have gh : ∀ m : Int, m ≠ -1 → gheld (qsp S j ns key) m = gheld S m := fun m hm => by
    rw [gheld_n n13, gheld_n s3]
    refine qs_ins' hj (fun i hi => hif i m hi) ?_ (fun i hi hi2 => hiu i m hi hi2)
    unfold gheldF
    rw [c4, c5, c6, c3, g8, g8', g9, g9', h9]
    omega
  have hne : s ns ≠ s j := fun z => by have := a2 _ _ (by omega) (by omega) z; omega
  have y8 : Y 8 = S 6 := funext Q2
  have yG : gsum (Y 8) key.toNat (Y 11 (s j) + 1 - key).toNat = gsize (qsp S j ns key) (j + 1) := by
    rw [c2, y8, show (Y 11 (s j) + 1 - key).toNat = (S 7 (j + 1)).toNat - key.toNat by omega]
  generalize hV : ycut (su Y 0 7 (ns + 1)) (s j) (s ns) key = V
  have Vo : ∀ f q, q ≠ s j → q ≠ s ns → V f q = if f = 0 ∧ q = 7 then (ns : Int) + 1 else Y f q := fun f q x1 x2 => by
    rw [← hV]; unfold ycut
    rw [su_ne (Or.inr x1), su_ne (Or.inr x1), su_ne (Or.inr x1), su_ne (Or.inr x2), su_ne (Or.inr x2), su_ne (Or.inr x2), su_ne (Or.inr x2), su_ne (Or.inr x2), su_f]
  have Vg : ∀ f, f < 10 → V f = su Y 0 7 (ns + 1) f := fun f x => by
    rw [← hV]; unfold ycut
    rw [su_g (by omega), su_g (by omega), su_g (by omega), su_g (by omega), su_g (by omega), su_g (by omega), su_g (by omega), su_g (by omega)]
  have V1 : V 10 (s j) = Y 10 (s j) ∧ V 11 (s j) = key - 1 ∧ V 12 (s j) = Y 12 (s j) ∧ V 13 (s j) = Y 13 (s j) ∧ V 14 (s j) = Y 14 (s j) ∧ V 15 (s j) = Y 15 (s j) ∧ V 16 (s j) = Y 16 (s j) ∧ V 17 (s j) = Y 17 (s j) - gsize (qsp S j ns key) (j + 1) ∧ V 18 (s j) = Y 18 (s j) / 2 := by
    rw [← hV, ← yG]
    simp [ycut, su_f, hne, Ne.symm hne, show su Y 0 7 ((ns : Int) + 1) 8 = Y 8 from rfl]
  have V2 : V 10 (s ns) = key ∧ V 11 (s ns) = Y 11 (s j) ∧ V 12 (s ns) = ((Y 12 (s j)).toNat : Int) ∧ V 13 (s ns) = Y 13 (s ns) ∧ V 14 (s ns) = Y 14 (s ns) ∧ V 16 (s ns) = Y 16 (s ns) ∧ V 17 (s ns) = gsize (qsp S j ns key) (j + 1) ∧ V 18 (s ns) = Y 18 (s j) - Y 18 (s j) / 2 := by
    rw [← hV, ← yG]
    simp [ycut, su_f, hne, Ne.symm hne, show su Y 0 7 ((ns : Int) + 1) 8 = Y 8 from rfl]
  obtain ⟨v10, v11, v12, v13, v14, v15, v16, v17, v18⟩ := V1
  obtain ⟨w10, w11, w12, w13, w14, w16, w17, w18⟩ := V2
  have sp1 : ∀ i, i ≤ j → ysp s j ns i = s i := fun i x => by unfold ysp; rw [if_neg (by omega), if_neg (by omega)]
  have sp2 : ysp s j ns (j + 1) = s ns := by unfold ysp; rw [if_pos rfl]
  have sp3 : ∀ i, j + 1 < i → i ≤ ns → ysp s j ns i = s (i - 1) := fun i x y => by unfold ysp; rw [if_neg (by omega), if_pos (by omega)]
  have sp4 : ∀ i, ns < i → ysp s j ns i = s i := fun i x => by unfold ysp; rw [if_neg (by omega), if_neg (by omega)]
  have oth : ∀ i, i < 16 → i ≠ j → i ≠ ns → ∀ f, 10 ≤ f → V f (s i) = Y f (s i) := fun i x x1 x2 f hf => by
    rw [Vo f _ (fun z => x1 (a2 _ _ (by omega) (by omega) z)) (fun z => x2 (a2 _ _ (by omega) (by omega) z)), if_neg (by omega)]
  refine ⟨⟨⟨fun i => ?_, h2, h0, ⟨s1, s2, n13, by omega, by omega, ?_, ?_, fun i hi => ?_, fun i hi => ?_⟩, t1, fun i hi => ?_, t3⟩, ⟨?_, ?_, ?_, ?_, ?_, ?_, ?_⟩, ⟨?_, ⟨?_, ?_, ?_⟩, ?_, ?_⟩, ⟨fun t ht => ?_, ?_, ?_⟩, ⟨fun i hi => ?_, fun i x1 x2 => ?_, fun q => ?_⟩, fun m hm => ?_⟩, qi_split a2 hj hns, fun m hm => ?_, ⟨fun i hi => ?_, ?_⟩, fun i => ?_, a7, b1, b2, fun i hi k x1 x2 => ?_⟩
  · have a := h1 i
    have b := h1 (i - 1)
    rw [e7, e8, e9, e10]
    refine ⟨?_, ?_, ?_, ?_⟩ <;> (repeat' split) <;> omega
  · rw [e7, if_neg (by omega), if_neg (by omega)]; exact s6
  · rw [e7, if_neg (by omega), if_pos (by omega)]; exact s7
  · rw [e7, e7]
    have p1 := s8 i
    have p2 := s8 (i - 1)
    by_cases q1 : i < j
    · rw [if_neg (by omega), if_neg (by omega), if_neg (by omega), if_neg (by omega)]; exact p1 (by omega)
    · by_cases q2 : i = j
      · subst q2; rw [if_neg (by omega), if_neg (by omega), if_pos rfl]; omega
      · by_cases q3 : i = j + 1
        · subst q3; rw [if_pos rfl, if_neg (by omega), if_pos (by omega)]; exact k2
        · rw [if_neg q3, if_pos (by omega), if_neg (by omega), if_pos (by omega)]
          rw [show i - 1 + 1 = i by omega] at p2
          exact p2 (by omega)
  · rw [e7, e7, e8, e9, e10]
    have p1 := s9 i
    have p2 := s9 (i - 1)
    by_cases q1 : i < j
    · rw [if_neg (by omega), if_neg (by omega), if_neg (by omega), if_neg (by omega), if_neg (by omega), if_neg (by omega), if_neg (by omega)]; exact p1 (by omega)
    · by_cases q2 : i = j
      · subst q2
        have p1 := p1 (by omega)
        rw [if_neg (by omega), if_neg (by omega), if_neg (by omega), if_neg (by omega), if_neg (by omega), if_pos rfl]
        exact ⟨p1.1, p1.2.1, p1.2.2.1, fun z => absurd h9 z⟩
      · by_cases q3 : i = j + 1
        · subst q3
          have p2 := p2 (by omega)
          rw [Nat.add_sub_cancel] at p2 ⊢
          rw [if_pos (by omega), if_pos (by omega), if_pos (by omega)]
          exact ⟨p2.1, p2.2.1, p2.2.2.1, fun z => absurd h9 z⟩
        · have w : j < i ∧ i ≤ ns + 1 := by omega
          have w' : j < i + 1 ∧ i + 1 ≤ ns + 1 := by omega
          have q3' : ¬ i + 1 = j + 1 := by omega
          simp only [if_pos w, if_neg q3, if_pos w', if_neg q3', Nat.add_sub_cancel]
          rw [show i - 1 + 1 = i by omega] at p2
          exact p2 (by omega)
  · rw [e8, e9]
    split
    · exact t2 (i - 1) (by omega)
    · exact t2 i (by omega)
  · rw [Vg 0 (by omega)]; exact u1
  · rw [Vg 0 (by omega)]; exact u2
  · rw [Vg 0 (by omega)]; exact u3
  · rw [Vg 0 (by omega)]; exact u4
  · rw [Vg 0 (by omega)]; exact u5
  · rw [Vg 0 (by omega)]; exact u6
  · rw [Vg 0 (by omega)]; show (ns : Int) + 1 = ((ns + 1 : Nat) : Int); omega
  · unfold gNu; rw [Vg 1 (by omega)]; exact hN.1
  · rw [Vg 2 (by omega)]; exact hN.2.1.1
  · rw [Vg 3 (by omega)]; exact hN.2.1.2.1
  · rw [Vg 4 (by omega)]; exact hN.2.1.2.2
  · rw [Vg 2 (by omega), Vg 3 (by omega)]; exact hN.2.2.1
  · rw [Vg 3 (by omega)]; exact hN.2.2.2
  · rw [Vg 5 (by omega), Vg 6 (by omega), Vg 7 (by omega)]; exact Q1 t ht
  · rw [Vg 8 (by omega)]; exact Q2
  · rw [Vg 9 (by omega)]; exact Q3
  · by_cases q1 : i < j
    · rw [sp1 i (by omega)]
      refine qrow_m (Z1 i (by omega)) q6 ?_ ?_ (fun f f1 f2 => ?_) (fun f f1 _ => oth i (by omega) (by omega) (by omega) f f1)
      · rw [e7, if_neg (by omega), if_neg (by omega)]
      · rw [e7, if_neg (by omega), if_neg (by omega)]
      · have : f = 8 ∨ f = 9 ∨ f = 10 ∨ f = 11 ∨ f = 12 := by omega
        rcases this with rfl | rfl | rfl | rfl | rfl
        · rw [e8, if_neg (by omega)]
        · rw [e9, if_neg (by omega)]
        · rw [e10, if_neg (by omega)]
        · rw [e11, if_neg (by omega)]
        · rw [e12, if_neg (by omega), if_neg (by omega), if_neg (by omega)]
    · by_cases q2 : i = j
      · subst q2
        rw [sp1 i (by omega)]
        refine ⟨⟨?_, ?_⟩, ⟨?_, ?_⟩, fun z => absurd ?_ z, ?_, ?_, ?_⟩
        · rw [v10, r1, e7, if_neg (by omega), if_neg (by omega)]
        · rw [v11, e7, if_pos rfl]
        · rw [v12, r3, e8, if_neg (by omega)]
        · rw [v13, r4, e9, if_neg (by omega)]
        · rw [e9, if_neg (by omega)]; exact h9
        · rw [v16, r6, c5, c4]
        · rw [v17, r7, c3]; omega
        · rw [v18, r8, e12, if_pos rfl]
      · by_cases q3 : i = j + 1
        · subst q3
          have zz := Z2 ns (Nat.le_refl _) (by omega)
          rw [sp2]
          refine ⟨⟨?_, ?_⟩, ⟨?_, ?_⟩, fun z => absurd ?_ z, ?_, ?_, ?_⟩
          · rw [w10, e7, if_pos rfl]
          · rw [w11, r2, e7, if_neg (by omega), if_pos (by omega)]; rfl
          · rw [w12, e8, if_pos (by omega), Nat.add_sub_cancel]; omega
          · rw [w13, zz.1, e9, if_pos (by omega), Nat.add_sub_cancel, h9]; rfl
          · rw [e9, if_pos (by omega), Nat.add_sub_cancel]; exact h9
          · rw [w16, zz.2, c6]
          · rw [w17]
          · rw [w18, r8, e12, if_neg (by omega), if_pos rfl]
        · rw [sp3 i (by omega) (by omega)]
          refine qrow_m (Z1 (i - 1) (by omega)) q6 ?_ ?_ (fun f f1 f2 => ?_) (fun f f1 _ => oth (i - 1) (by omega) (by omega) (by omega) f f1)
          · rw [e7, if_neg (by omega), if_pos (by omega)]
          · rw [e7, if_neg (by omega), if_pos (by omega)]; rw [show i + 1 - 1 = i - 1 + 1 by omega]
          · have : f = 8 ∨ f = 9 ∨ f = 10 ∨ f = 11 ∨ f = 12 := by omega
            rcases this with rfl | rfl | rfl | rfl | rfl
            · rw [e8, if_pos (by omega)]
            · rw [e9, if_pos (by omega)]
            · rw [e10, if_pos (by omega)]
            · rw [e11, if_pos (by omega)]
            · rw [e12, if_neg (by omega), if_neg (by omega), if_pos (by omega)]
  · rw [sp4 i (by omega), oth i (by omega) (by omega) (by omega) 13 (by omega), oth i (by omega) (by omega) (by omega) 16 (by omega)]
    exact Z2 i (by omega) x2
  · by_cases q1 : q = s j
    · rw [q1, v14]; exact Z3 _
    · by_cases q2 : q = s ns
      · rw [q2, w14]; exact Z3 _
      · rw [Vo 14 q q1 q2, if_neg (by omega)]; exact Z3 q
  · rw [Vg 4 (by omega), gh m (by omega)]; exact hG m hm
  · rw [gh m (by omega)]; exact a3 m hm
  · rw [e12]
    have p1 := a4 j hj
    have p2 := a4 i
    have p3 := a4 (i - 1)
    repeat' split
    · omega
    · omega
    · exact p3 (by omega)
    · exact p2 (by omega)
  · rw [qs_ins' (f := S 12) hj (fun i hi => by rw [e12, if_neg (by omega), if_neg (by omega), if_neg (by omega)]) (by rw [e12, e12, if_pos rfl, if_neg (by omega), if_pos rfl]; omega) (fun i x y => by rw [e12, if_neg (by omega), if_neg (by omega), if_pos (by omega)]; rfl)]
    omega
  · rw [e11]
    split
    · exact a6 (i - 1)
    · exact a6 i
  · rw [e7] at x1 x2
    rw [e8]
    by_cases q1 : i < j
    · rw [if_neg (by omega), if_neg (by omega)] at x1 x2
      rw [if_neg (by omega)]; exact b3 i (by omega) k x1 x2
    · by_cases q2 : i = j
      · subst q2
        rw [if_neg (by omega), if_neg (by omega)] at x1
        rw [if_pos rfl] at x2
        rw [if_neg (by omega)]; exact b3 i (by omega) k x1 (by omega)
      · by_cases q3 : i = j + 1
        · subst q3
          rw [if_pos rfl] at x1
          rw [if_neg (by omega), if_pos (by omega)] at x2
          rw [if_pos (by omega), Nat.add_sub_cancel]; exact b3 j hj k (by omega) x2
        · rw [if_neg (by omega), if_pos (by omega)] at x1 x2
          rw [if_pos (by omega)]; exact b3 (i - 1) (by omega) k x1 (by rw [show i - 1 + 1 = i + 1 - 1 by omega]; exact x2)
end QS
