/-! BOTH SIDES: an hour -/
/-- the log of cut overs tells where each key is -/
def qB (S : gS) (nm ns : Nat) (B : List gOE) : Prop := (∀ e, e ∈ B → gOR e) ∧ (nm = 0 → B = []) ∧ ∀ j, j < ns → ∀ k : Int, S 7 j ≤ k → k < S 7 (j + 1) → S 8 j = ywh k (if nm = 0 then -1 else 0) B
section QB
variable {s : Nat → Nat} {nm ns j : Nat}
theorem qr_scp (hi : qI s) (hj : j < ns) : ∀ (n : Nat) (S Y : gS) (free : Int), qR S Y s nm ns → qM S nm → S 9 j ≠ -1 → (n : Int) = S 7 (j + 1) - S 10 j → free = S 1 (S 9 j).toNat - gheld S (S 9 j) →
    qR (scp j n S free) (ycp (s j) n Y).1 s nm ns ∧ qM (scp j n S free) nm ∧ scp j n S free 7 = S 7 ∧ scp j n S free 8 = S 8 ∧ ((ycp (s j) n Y).2 = true → scp j n S free 9 j = S 9 j ∧ scp j n S free 10 j = S 7 (j + 1)) ∧ ((ycp (s j) n Y).2 = false → scp j n S free 9 j = -1 ∨ scp j n S free 10 j < S 7 (j + 1))
  | 0, S, Y, free, h, hM, h9, hn, hf => ⟨h, hM, rfl, rfl, fun _ => ⟨rfl, by show S 10 j = _; omega⟩, fun z => by cases z⟩
  | n + 1, S, Y, free, h, hM, h9, hn, hf => by
    have hh := h
    obtain ⟨⟨h1, h2, h0, ⟨s1, s2, s3, s4, s5, s6, s7, s8, s9⟩, t1, t2, t3⟩, hU, ⟨n1, n2, n5, n6⟩, hK, hZ, hG⟩ := hh
    obtain ⟨⟨r1, r2⟩, ⟨r3, r4⟩, r5, r6, r7, r8⟩ := hZ.1 j hj
    obtain ⟨r51, r52⟩ := r5 h9
    have b1 := h1 j
    have b9 := s9 j hj
    obtain ⟨m, hm⟩ : ∃ m : Nat, S 9 j = m := ⟨(S 9 j).toNat, by omega⟩
    have hz : (Y 13 (s j)).toNat = m + 1 := by omega
    have e8 : Y 8 (Y 14 (s j)).toNat = S 6 (S 10 j).toNat := by rw [r51]; exact hK.2.1 _
    have e4 : Y 4 (Y 13 (s j)).toNat = gheld S (S 9 j) := by rw [hz, hm]; exact hG m (by omega)
    have e2 : Y 2 (Y 13 (s j)).toNat = S 1 (S 9 j).toNat := by rw [hz, hm, Int.toNat_natCast]; exact (n5 m (by omega)).1
    rw [scp, ycp, if_pos (show Y 14 (s j) ≤ Y 11 (s j) by omega), e8]
    by_cases c : S 11 j < S 6 (S 10 j).toNat
    · rw [if_pos (show Y 15 (s j) < S 6 (S 10 j).toNat by omega), if_neg (fun z => by omega)]
      exact ⟨h, hM, rfl, rfl, fun z => (by cases z), fun _ => Or.inr (by omega)⟩
    · rw [if_neg (show ¬ Y 15 (s j) < S 6 (S 10 j).toNat by omega), if_pos (show S 9 j ≠ -1 ∧ S 10 j < S 7 (j + 1) ∧ S 6 (S 10 j).toNat ≤ S 11 j from ⟨h9, by omega, by omega⟩)]
      by_cases c2 : free < S 6 (S 10 j).toNat
      · rw [if_pos c2, if_neg (show ¬ Y 4 (Y 13 (s j)).toNat + S 6 (S 10 j).toNat ≤ Y 2 (Y 13 (s j)).toNat by omega)]
        obtain ⟨a, b⟩ := qr_fail h hi hj h9
        exact ⟨a, fun m2 hm2 => Int.le_trans (b m2) (hM m2 hm2), rfl, rfl, fun z => (by cases z), fun _ => Or.inl (by simp [srb, su_f])⟩
      · rw [if_neg c2, if_pos (show Y 4 (Y 13 (s j)).toNat + S 6 (S 10 j).toNat ≤ Y 2 (Y 13 (s j)).toNat by omega)]
        obtain ⟨a, b⟩ := qr_copy h hi hj h9 (by omega)
        exact qr_scp hi hj n (sad S j) _ _ a (fun m2 hm2 => by
          rw [b m2]
          show _ ≤ S 1 m2
          have := hM m2 hm2
          split
          · rename_i q
            rw [q, Int.toNat_natCast] at hf
            omega
          · omega) h9 (by show (n : Int) = S 7 (j + 1) - (sad S j 10 j); have : sad S j 10 j = S 10 j + 1 := by simp [sad, su_f]
                          omega) (by show _ = S 1 (S 9 j).toNat - gheld (sad S j) (S 9 j); rw [b, if_pos rfl]; omega)


theorem qr_mono {S : gS} {nm ns : Nat} (hs : gWS S nm ns) {i k : Nat} (h1 : i ≤ k) (h2 : k ≤ ns) : S 7 i ≤ S 7 k := by
  have := gmono hs i (k - i) (by omega)
  rw [show i + (k - i) = k by omega] at this
  exact this
/-- a key is of one shard -/
theorem qr_uniq {S : gS} {nm ns : Nat} (hs : gWS S nm ns) {i k : Nat} {x : Int} (hi : i < ns) (hk : k < ns) (a1 : S 7 i ≤ x) (a2 : x < S 7 (i + 1)) (b1 : S 7 k ≤ x) (b2 : x < S 7 (k + 1)) : i = k := by
  rcases Nat.lt_trichotomy i k with e | e | e
  · have := qr_mono hs (show i + 1 ≤ k from e) (by omega); omega
  · exact e
  · have := qr_mono hs (show k + 1 ≤ i from e) (by omega); omega
theorem qr_copies {S Y : gS} (h : qR S Y s nm ns) (hM : qM S nm) (hi : qI s) (hj : j < ns) (h9 : S 9 j ≠ -1) :
    qR (scopies S j) (yco Y (s j)) s nm ns ∧ qM (scopies S j) nm ∧ ∀ B, qB S nm ns B → qB (scopies S j) nm ns (ycoB Y (s j) B) := by
  have hh := h
  obtain ⟨⟨h1, h2, h0, hs, t1, t2, t3⟩, hU, ⟨n1, n2, n5, n6⟩, hK, hZ, hG⟩ := hh
  obtain ⟨s1, s2, s3, s4, s5, s6, s7, s8, s9⟩ := hs
  obtain ⟨⟨r1, r2⟩, ⟨r3, r4⟩, r5, r6, r7, r8⟩ := hZ.1 j hj
  obtain ⟨r51, r52⟩ := r5 h9
  have b9 := (s9 j hj).2.2.2 h9
  have b1 := h1 j
  have hn : (((S 7 (j + 1) - S 10 j).toNat : Nat) : Int) = S 7 (j + 1) - S 10 j := by omega
  obtain ⟨a1, a2, a3, a4, a5, a6⟩ := qr_scp hi hj (S 7 (j + 1) - S 10 j).toNat (su S 11 j (S 11 j + 50)) (su Y 15 (s j) (Y 15 (s j) + 50)) (S 1 (S 9 j).toNat - gheld S (S 9 j)) (qr_may h hi hj h9) hM h9 hn rfl
  have eq : ycq Y (s j) = ycp (s j) (S 7 (j + 1) - S 10 j).toNat (su Y 15 (s j) (Y 15 (s j) + 50)) := by unfold ycq; rw [show (Y 11 (s j) + 1 - Y 14 (s j)).toNat = (S 7 (j + 1) - S 10 j).toNat by omega]
  have es : scopies S j = sfin (scp j (S 7 (j + 1) - S 10 j).toNat (su S 11 j (S 11 j + 50)) (S 1 (S 9 j).toNat - gheld S (S 9 j))) j := rfl
  unfold yco ycoB
  rw [eq, es]
  generalize scp j (S 7 (j + 1) - S 10 j).toNat (su S 11 j (S 11 j + 50)) (S 1 (S 9 j).toNat - gheld S (S 9 j)) = V at *
  generalize ycp (s j) (S 7 (j + 1) - S 10 j).toNat (su Y 15 (s j) (Y 15 (s j) + 50)) = X at *
  have a3 : V 7 = S 7 := a3
  have a4 : V 8 = S 8 := a4
  obtain ⟨X, b⟩ := X
  have a1 : qR V X s nm ns := a1
  unfold sfin
  cases b with
  | false =>
    rw [if_neg (fun z => by have := a6 rfl; have z2 := z.2; rw [a3] at z2; have z3 : V 10 j < S 7 (j + 1) := by { rcases this with q | q; exact absurd q z.1; exact q }; omega)]
    show qR V X s nm ns ∧ qM V nm ∧ ∀ B, qB S nm ns B → qB V nm ns B
    refine ⟨a1, a2, fun B hB => ⟨hB.1, hB.2.1, fun i hi2 k => ?_⟩⟩
    rw [a3, a4]; exact hB.2.2 i hi2 k
  | true =>
    obtain ⟨c1, c2⟩ := a5 rfl
    have c1 : V 9 j = S 9 j := c1
    have c2 : V 10 j = V 7 (j + 1) := by rw [a3]; exact c2
    have c9 : V 9 j ≠ -1 := by rw [c1]; exact h9
    rw [if_pos ⟨c9, c2⟩]
    show qR (qcv V j) (ycov X (s j)) s nm ns ∧ qM (qcv V j) nm ∧ ∀ B, qB S nm ns B → qB (qcv V j) nm ns ((X 10 (s j), X 11 (s j), X 1 (X 13 (s j)).toNat) :: B)
    have a1 : qR V X s nm ns := a1
    obtain ⟨d1, d2⟩ := qr_cut a1 hi hj c9 c2
    refine ⟨d1, fun m hm => Int.le_trans (d2 m) (a2 m hm), fun B hB => ?_⟩
    obtain ⟨⟨v1, v2⟩, ⟨v3, v4⟩, -⟩ := a1.2.2.2.2.1.1 j hj
    have w1 := a1.1.1 j
    have w2 := a1.1.1 (j + 1)
    have w3 := a1.2.2.1.1 (X 13 (s j)).toNat (by omega)
    have w4 := a1.1.2.2.2.1
    refine ⟨fun e he => ?_, fun e => ?_, fun i hi2 k k1 k2 => ?_⟩
    · rcases List.mem_cons.mp he with rfl | he
      · exact ⟨by dsimp only; omega, by dsimp only; omega⟩
      · exact hB.1 e he
    · have := (s9 j hj).2.2.1; omega
    · have k1 : V 7 i ≤ k := k1
      have k2 : k < V 7 (i + 1) := k2
      show (if i = j then V 9 j else V 8 i) = ywh k _ (_ :: B)
      rw [ywh]
      by_cases e : i = j
      · subst e
        rw [if_pos rfl, if_pos (by dsimp only; omega)]
        dsimp only
        omega
      · rw [if_neg e, if_neg (fun z => e (qr_uniq w4 hi2 hj k1 k2 (by have := z.1; dsimp only at this; omega) (by have := z.2; dsimp only at this; omega))), a4]
        exact hB.2.2 i hi2 k (by rw [← a3]; exact k1) (by rw [← a3]; exact k2)
end QB
