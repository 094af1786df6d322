/-! BOTH SIDES: the draw by heat, the hour, the hours -/
section QC
variable {S Y : gS} {s : Nat → Nat} {nm ns : Nat}
theorem qr_scl (h : qR S Y s nm ns) (hM : qM S nm) (hi : qI s) : ∀ k, k ≤ ns → qR (scl S k) (ypc Y s k) s nm ns ∧ qM (scl S k) nm ∧ ∀ B, qB S nm ns B → qB (scl S k) nm ns (ypcB Y s B k)
  | 0, _ => ⟨h, hM, fun _ z => z⟩
  | k + 1, hk => by
    obtain ⟨a, b, c⟩ := qr_scl h hM hi k (by omega)
    have r := (a.2.2.2.2.1.1 k (by omega)).2.1.2
    rw [scl, ypc]
    by_cases e : scl S k 9 k = -1
    · rw [if_neg (by simp [e]), if_neg (by rw [r, e]; simp)]
      refine ⟨a, b, fun B hB => ?_⟩
      rw [ypcB, if_neg (by rw [r, e]; simp)]
      exact c B hB
    · have e2 : ypc Y s k 13 (s k) ≠ 0 := by rw [r]; omega
      rw [if_pos e, if_pos e2]
      obtain ⟨a1, a2, a3⟩ := qr_copies a b hi (show k < ns by omega) e
      refine ⟨a1, a2, fun B hB => ?_⟩
      rw [ypcB, if_pos e2]
      exact a3 _ (c B hB)
theorem qr_bill1 (h : qR S Y s nm ns) {t : Nat} (ht : t < 4) : qR (su S 4 t (S 4 t + gbof S t)) (su Y 7 t (Y 7 t + Y 5 t)) s nm ns := by
  obtain ⟨hS, hU, hN, hK, hZ, hG⟩ := h
  refine ⟨hS, hU, hN, ⟨fun t2 h2 => ⟨(hK.1 t2 h2).1, (hK.1 t2 h2).2.1, ?_⟩, hK.2⟩, hZ, hG⟩
  have a := hK.1 t ht
  rw [su_f, su_f]
  by_cases e : t2 = t
  · rw [if_pos ⟨rfl, e⟩, if_pos ⟨rfl, e⟩, a.1, a.2.2]
  · rw [if_neg (fun z => e z.2), if_neg (fun z => e z.2)]; exact (hK.1 t2 h2).2.2
theorem qr_bill (h : qR S Y s nm ns) : ∀ k, k ≤ 4 → qR (sbl S k) (ybl Y k) s nm ns
  | 0, _ => h
  | k + 1, hk => qr_bill1 (qr_bill h k (by omega)) (by omega)
theorem qr_half (h : qR S Y s nm ns) (hi : qI s) : ∀ k, k ≤ ns → qR (shv S k) (yhv Y s k) s nm ns
  | 0, _ => h
  | k + 1, hk => by
    have a := qr_half h hi k (by omega)
    have r := (a.2.2.2.2.1.1 k (by omega)).2.2.2.2.2
    rw [shv, yhv, r]
    exact qr_heat a hi (by omega)
theorem qr_heats (h : qR S Y s nm ns) (z : Nat) : gheat S ((z : Int) - 1) = yheat Y s ns z := by
  unfold gheat yheat
  rw [h.1.2.2.2.1.2.2.1, Int.toNat_natCast]
  refine gsum_congr 0 ns (fun i _ hi => ?_)
  obtain ⟨-, ⟨r3, -⟩, -, -, -, r8⟩ := h.2.2.2.2.1.1 i (by omega)
  have b := h.1.1 i
  unfold gheatF yheatF
  rw [r8]
  by_cases e : S 8 i = (z : Int) - 1
  · rw [if_pos e, if_pos (by omega)]
  · rw [if_neg e, if_neg (by omega)]
theorem qr_hot (h : qR S Y s nm ns) : ∀ k, k ≤ nm → shot S k = (yhot Y s ns k : Int) - 1 ∧ scold S k = (ycold Y s ns k : Int) - 1
  | 0, _ => ⟨rfl, rfl⟩
  | k + 1, hk => by
    obtain ⟨a1, a2⟩ := qr_hot h k (by omega)
    have b := (h.2.2.1.2.2.1 k (by omega)).2
    have e1 := qr_heats h (k + 1)
    rw [show (((k + 1 : Nat) : Int)) - 1 = (k : Int) by omega] at e1
    have e2 := qr_heats h (yhot Y s ns k)
    have e3 := qr_heats h (ycold Y s ns k)
    rw [shot, scold, yhot, ycold, a1, a2, e1, e2, e3]
    by_cases u : S 2 k = 0
    · rw [if_pos u, if_pos u]
      refine ⟨?_, ?_⟩
      · by_cases c : yhot Y s ns k = 0 ∨ yheat Y s ns (yhot Y s ns k) < yheat Y s ns (k + 1)
        · rw [if_pos (by omega), if_pos ⟨by omega, c⟩]; omega
        · rw [if_neg (by omega), if_neg (fun z => c z.2)]
      · by_cases c : ycold Y s ns k = 0 ∨ yheat Y s ns (k + 1) < yheat Y s ns (ycold Y s ns k)
        · rw [if_pos (by omega), if_pos ⟨by omega, c⟩]; omega
        · rw [if_neg (by omega), if_neg (fun z => c z.2)]
    · have v := (h.1.2.1 k).2.1
      rw [if_neg u, if_neg u, if_neg (by omega), if_neg (by omega)]
      exact ⟨rfl, rfl⟩
theorem qr_hc (S : gS) : ∀ k, shot S k = -1 ↔ scold S k = -1
  | 0 => Iff.rfl
  | k + 1 => by
    have a := qr_hc S k
    rw [shot, scold]
    split
    · split <;> split <;> omega
    · exact a
theorem qr_mv (h : qR S Y s nm ns) (z : Nat) : ∀ k, k ≤ ns → smv S ((z : Int) - 1) k = ymv Y s z k
  | 0, _ => rfl
  | k + 1, hk => by
    have a := qr_mv h z k (by omega)
    obtain ⟨-, ⟨r3, r4⟩, -⟩ := h.2.2.2.2.1.1 k (by omega)
    have b := h.1.1 k
    rw [smv, ymv, a]
    by_cases c : ymv Y s z k ≠ 0 ∨ (S 8 k = (z : Int) - 1 ∧ S 9 k ≠ -1)
    · rw [if_pos c, if_pos (by omega)]
    · rw [if_neg c, if_neg (by omega)]
theorem qr_best (h : qR S Y s nm ns) (z : Nat) : ∀ k, k ≤ ns → sbest S ((z : Int) - 1) k = ybest Y s z k
  | 0, _ => rfl
  | k + 1, hk => by
    have a := qr_best h z k (by omega)
    obtain ⟨-, ⟨r3, r4⟩, -, -, -, r8⟩ := h.2.2.2.2.1.1 k (by omega)
    have b := h.1.1 k
    have c := ybest_r Y s z k
    rw [sbest, ybest, a]
    have d : ybest Y s z k ≠ -1 → Y 18 (s (ybest Y s z k).toNat) = S 12 (ybest Y s z k).toNat := fun q => (h.2.2.2.2.1.1 (ybest Y s z k).toNat (by omega)).2.2.2.2.2
    by_cases q : ybest Y s z k = -1
    · by_cases c : S 8 k = (z : Int) - 1
      · rw [if_pos ⟨c, Or.inl q⟩, if_pos ⟨by omega, Or.inl q⟩]
      · rw [if_neg (fun x => c x.1), if_neg (fun x => by have := x.1; omega)]
    · rw [d q]
      by_cases c : S 8 k = (z : Int) - 1 ∧ (ybest Y s z k = -1 ∨ S 12 (ybest Y s z k).toNat < S 12 k)
      · rw [if_pos c, if_pos (by omega)]
      · rw [if_neg c, if_neg (by omega)]
theorem qr_mv0 (S : gS) (z : Int) : ∀ k, smv S z k = 0 → ∀ i, i < k → S 8 i = z → S 9 i = -1
  | 0, _, i, hi, _ => by omega
  | k + 1, h, i, hi, e => by
    rw [smv] at h
    split at h
    · omega
    · rename_i q
      by_cases c : i = k
      · subst c
        exact Classical.byContradiction fun n => q (Or.inr ⟨e, n⟩)
      · exact qr_mv0 S z k (Classical.byContradiction fun n => q (Or.inl n)) i (by omega) e
theorem qr_be0 (S : gS) (z : Int) : ∀ k, sbest S z k ≠ -1 → S 8 (sbest S z k).toNat = z
  | 0, h => absurd rfl h
  | k + 1, h => by
    rw [sbest] at h ⊢
    split at h
    · rename_i q
      rw [if_pos q, Int.toNat_natCast]; exact q.1
    · rename_i q
      rw [if_neg q]; exact qr_be0 S z k h
theorem qr_draw (h : qR S Y s nm ns) (hM : qM S nm) (hi : qI s) : qR (sdr S nm ns) (ydr Y s nm ns) s nm ns ∧ qM (sdr S nm ns) nm := by
  have u9 := h.2.1.2.2.1
  have g0 := h.1.2.2.1.2.1
  have snm := h.1.2.2.2.1.2.1
  unfold sdr ydr
  by_cases c0 : 0 < S 0 7
  · rw [if_pos c0, if_pos (by omega)]
    obtain ⟨e1, e2⟩ := qr_hot h nm (Nat.le_refl _)
    have e3 := qr_hc S nm
    have e4 := qr_heats h (yhot Y s ns nm)
    have e5 := qr_heats h (ycold Y s ns nm)
    have hc := scold_r S nm
    unfold sdraw ydraw
    rw [e1, e2, e4, e5, qr_mv h _ ns (Nat.le_refl _), qr_best h _ ns (Nat.le_refl _)]
    have hmv := ymv_01 Y s (yhot Y s ns nm) ns
    by_cases c1 : yheat Y s ns (yhot Y s ns nm) - yheat Y s ns (ycold Y s ns nm) < Y 0 9
    · rw [if_pos (Or.inr (by omega)), if_pos (Or.inl c1)]; exact ⟨h, hM⟩
    · have c2 : yhot Y s ns nm ≠ 0 := fun z => by
        have : ycold Y s ns nm = 0 := by omega
        rw [z, this] at c1; omega
      have c3 : yhot Y s ns nm ≠ ycold Y s ns nm := fun z => by rw [z] at c1; omega
      rw [if_neg (show ¬ ((yhot Y s ns nm : Int) - 1 = -1 ∨ yheat Y s ns (yhot Y s ns nm) - yheat Y s ns (ycold Y s ns nm) < S 0 7) by omega)]
      by_cases c4 : ymv Y s (yhot Y s ns nm) ns = 0
      · rw [if_neg (show ¬ (yheat Y s ns (yhot Y s ns nm) - yheat Y s ns (ycold Y s ns nm) < Y 0 9 ∨ ymv Y s (yhot Y s ns nm) ns ≠ 0) by omega)]
        have hb := ybest_r Y s (yhot Y s ns nm) ns
        by_cases c5 : ybest Y s (yhot Y s ns nm) ns = -1
        · rw [if_neg (fun z => z.2.1 c5), if_neg (by omega)]; exact ⟨h, hM⟩
        · have d := (h.2.2.2.2.1.1 (ybest Y s (yhot Y s ns nm) ns).toNat (by omega)).2.2.2.2.2
          rw [d]
          by_cases c6 : 0 < S 12 (ybest Y s (yhot Y s ns nm) ns).toNat
          · rw [if_pos ⟨c4, c5, c6⟩, if_pos ⟨by omega, c6⟩]
            have f1 := qr_mv0 S ((yhot Y s ns nm : Int) - 1) ns (by rw [qr_mv h _ ns (Nat.le_refl _)]; exact c4)
            have f2 := qr_be0 S ((yhot Y s ns nm : Int) - 1) ns (by rw [qr_best h _ ns (Nat.le_refl _)]; exact c5)
            rw [qr_best h _ ns (Nat.le_refl _)] at f2
            obtain ⟨m, hm⟩ : ∃ m : Nat, (ycold Y s ns nm : Int) - 1 = m := ⟨ycold Y s ns nm - 1, by omega⟩
            have hm2 : ycold Y s ns nm = m + 1 := by omega
            have K := qr_aim (m := m) h hi (j := (ybest Y s (yhot Y s ns nm) ns).toNat) (by omega) (f1 _ (by omega) f2) (by omega) (by rw [f2]; omega)
            rw [hm, hm2]
            exact ⟨K, fun m2 h2 => by
              have k1 := K.2.2.2.2.2 m2 (by omega)
              have k2 := h.2.2.2.2.2 m2 (by omega)
              have k3 := hM m2 h2
              have k1 : Y 4 (m2 + 1) = _ := k1
              show _ ≤ S 1 m2
              omega⟩
          · rw [if_neg (fun z => c6 z.2.2), if_neg (fun z => c6 z.2)]; exact ⟨h, hM⟩
      · rw [if_neg (fun z => c4 z.1), if_pos (Or.inr c4)]; exact ⟨h, hM⟩
  · rw [if_neg c0, if_neg (by omega)]; exact ⟨h, hM⟩
end QC
