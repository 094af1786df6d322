/-! BOTH SIDES: what each call does to both, the rest of the methods -/
section QV
variable {w : gW} {l : Launch} {S Y : gS} {s : Nat → Nat} {nm ns j : Nat} {A : List gCE} {B : List gOE} {c : Int}
theorem qo_take (hfl : l.stackTraces = false) (h : qJ S Y s A B nm ns c) (key : Int) (hkey : -2147483648 ≤ key ∧ key < 2147483648) : qOut w l yX5_take cX5_take 4 (some .int) [.ref 1, .int (iI key)] yX6_take cX6_take 6 (some .int) 2 [.ref 34, .int (iI key)] ["java/lang/IndexOutOfBoundsException", "java/lang/IllegalStateException"] S Y s A B c := by
  obtain ⟨h1, h2, h0, hs, hT⟩ := h.1.1
  obtain ⟨u1, u2, u3, u4, u5, u6, u7⟩ := h.1.2.1
  have hnm := hs.2.1
  have h13 := hs.2.2.1
  have hns := hs.2.2.2.2.1
  have hN := h.1.2.2.1
  by_cases p : 0 ≤ key ∧ key ≤ 999
  · obtain ⟨j, hj, k1, k2⟩ := qr_at hs p.1 p.2
    obtain ⟨f1, f2, f3⟩ := qr_key h.1 hj k1 k2
    obtain ⟨z1, z2⟩ := qr_isup h.1 hj
    obtain ⟨⟨r1, r2⟩, ⟨r3, r4⟩, r5, r6, r7, r8⟩ := h.1.2.2.2.2.1.1 j hj
    have K2 := h.1.2.2.2.1.2.1 key.toNat
    have K3 := h.1.2.2.2.1.2.2 key.toNat (by omega)
    have g6 := (h2 key.toNat).2.2.2.2
    have g5 := (h2 key.toNat).2.2.2.1
    have b9 := hs.2.2.2.2.2.2.2.2 j hj
    have b1 := h1 j
    have e14 := h.1.2.2.2.2.1.2.2 (s j)
    have u3r : Y 3 (Y 12 (s j)).toNat = 0 ∨ Y 3 (Y 12 (s j)).toNat = 1 := by
      by_cases e : 0 < nm ∧ S 2 (S 8 j).toNat = 0
      · exact Or.inr (z1 e)
      · exact Or.inl (z2 e)
    have h08 := h0.2.2
    have hnm0 : nm = 0 → S 6 key.toNat = 0 := fun z => hT.1 z _
    have k9 : -1 ≤ Y 9 key.toNat ∧ Y 9 key.toNat ≤ 3 := by rw [K3]; split <;> omega
    by_cases cn : 0 < S 6 key.toNat ∧ S 2 (S 8 j).toNat = 0 ∧ S 0 8 < 600
    · obtain ⟨c1, c2, c3⟩ := cn
      have hn0 : 0 < nm := Classical.byContradiction fun z => by have := hnm0 (by omega); omega
      have b2 := b9.2.1 hn0
      obtain ⟨m, hm⟩ : ∃ m : Nat, S 8 j = m := ⟨(S 8 j).toNat, by omega⟩
      have ez : (Y 12 (s j)).toNat = m + 1 := by omega
      have e4m := h.1.2.2.2.2.2 m (by omega)
      have e2m := (hN.2.2.1 m (by omega)).1
      have hM := h.2.2.1 m (by omega)
      have hrm := (h2 m).1
      have hh0 := (gheld_le h1 h2 (by omega) m).1
      obtain ⟨W, W2⟩ := qj_write h (key := key.toNat) (t := S 5 key.toNat) (b := 0) (tc := -1) hj (by omega) (by omega) (by omega) hn0 c3 g5 (by omega) (by rw [if_pos rfl]) (by rw [hm, Int.toNat_natCast]; omega)
      rw [W2 (by omega)] at W
      have esw : swr S key.toNat j (S 5 key.toNat) 0 = su (su (su (su S 0 0 0) 6 key.toNat 0) 0 8 (S 0 8 + 1)) 12 j (S 12 j + 1) := by
        unfold swr
        rw [show su (su S 0 0 0) 5 key.toNat (S 5 key.toNat) = su S 0 0 0 from su_s (su S 0 0 0) 5 key.toNat]
      rw [esw] at W
      have ek : ((key.toNat : Nat) : Int) = key := by omega
      rw [ek] at W
      have rg : -2147483648 ≤ ychg Y (s j) key.toNat (-1) 0 4 (ychg Y (s j) key.toNat (-1) 0 13 (s j)).toNat + (0 - Y 8 key.toNat) ∧ ychg Y (s j) key.toNat (-1) 0 4 (ychg Y (s j) key.toNat (-1) 0 13 (s j)).toNat + (0 - Y 8 key.toNat) < 2147483648 := by
        rw [(ychg_e Y (s j) key.toNat (-1) 0).1, ychg_4]
        split
        · rw [ez, e4m]; omega
        · by_cases z0 : (Y 13 (s j)).toNat = 0
          · rw [z0, hN.2.1.2.2]; omega
          · obtain ⟨m2, hm2⟩ : ∃ m2 : Nat, S 9 j = m2 := ⟨(S 9 j).toNat, by omega⟩
            rw [show (Y 13 (s j)).toNat = m2 + 1 by omega, h.1.2.2.2.2.2 m2 (by omega)]
            have a := h.2.2.1 m2 (by omega)
            have a2 := (h2 m2).1
            have a3 := (gheld_le h1 h2 (by omega) m2).1
            omega
      have rg2 : -2147483648 ≤ ychg Y (s j) key.toNat (-1) 0 2 (ychg Y (s j) key.toNat (-1) 0 13 (s j)).toNat ∧ ychg Y (s j) key.toNat (-1) 0 2 (ychg Y (s j) key.toNat (-1) 0 13 (s j)).toNat < 2147483648 := by
        rw [(ychg_e Y (s j) key.toNat (-1) 0).1, (ychg_e Y (s j) key.toNat (-1) 0).2.2.2]
        by_cases z0 : (Y 13 (s j)).toNat = 0
        · rw [z0, hN.2.1.1]; omega
        · obtain ⟨m2, hm2⟩ : ∃ m2 : Nat, S 9 j = m2 := ⟨(S 9 j).toNat, by omega⟩
          rw [show (Y 13 (s j)).toNat = m2 + 1 by omega, (hN.2.2.1 m2 (by omega)).1]
          have a2 := (h2 m2).1
          omega
      exact qo_suc (p5_take_3 key hkey ns u7 hns j hj (by omega) f1 f2 f3 u3r (by omega) (by omega) k9 hN.1 (by omega) rg rg2 (by omega) (z1 ⟨hn0, c2⟩) (by omega)) (fun _ hS => c6_take_3 hS h1 h2 h0 hs key hkey j hj p k1 k2 hnm0 c1 c2 c3) K2.symm rfl rfl W (by omega) (by omega)
    · refine qo_thr h 1 rfl (p5_take_2 hfl key hkey ns u7 hns j hj (by omega) f1 f2 f3 u3r (by omega) (by omega) (fun z => cn ?_)) (fun _ hS => c6_take_2 hS h1 h2 h0 hs key hkey j hj p k1 k2 hnm0 cn) rfl
      obtain ⟨d1, d2, d3⟩ := z
      have e : 0 < nm ∧ S 2 (S 8 j).toNat = 0 := Classical.byContradiction fun n => by have := z2 n; omega
      exact ⟨by omega, e.2, by omega⟩
  · exact qo_thr h 0 rfl (p5_take_1 hfl key hkey (by omega)) (fun _ hS => c6_take_1 hS h1 h2 h0 hs key hkey p) rfl
theorem qo_read (hfl : l.stackTraces = false) (h : qJ S Y s A B nm ns c) (key : Int) (hkey : -2147483648 ≤ key ∧ key < 2147483648) : qOut w l yX5_read cX5_read 3 (some .int) [.ref 1, .int (iI key)] yX6_read cX6_read 4 (some .int) 2 [.ref 34, .int (iI key)] ["java/lang/IndexOutOfBoundsException", "java/lang/IllegalStateException"] S Y s A B c := by
  obtain ⟨h1, h2, h0, hs, hT⟩ := h.1.1
  obtain ⟨u1, u2, u3, u4, u5, u6, u7⟩ := h.1.2.1
  have hns := hs.2.2.2.2.1
  by_cases p : 0 ≤ key ∧ key ≤ 999
  · obtain ⟨j, hj, k1, k2⟩ := qr_at hs p.1 p.2
    obtain ⟨f1, f2, f3⟩ := qr_key h.1 hj k1 k2
    obtain ⟨z1, z2⟩ := qr_isup h.1 hj
    have d := (h2 (S 8 j).toNat).2.1
    by_cases q : 0 < nm ∧ S 2 (S 8 j).toNat = 0
    · exact qo_suc (p5_read_3 key hkey ns u7 hns j hj (by omega) f1 f2 f3 (z1 q)) (fun _ hS => c6_read_3 hS h1 h2 h0 hs key hkey j hj p k1 k2 q.1 q.2) (h.1.2.2.2.1.2.1 key.toNat).symm rfl rfl (qj_read h hj) (by omega) (by omega)
    · exact qo_thr h 1 rfl (p5_read_2 hfl key hkey ns u7 hns j hj (by omega) f1 f2 f3 (z2 q)) (fun _ hS => c6_read_2 hS h1 h2 h0 hs key hkey j hj p k1 k2 (by omega)) rfl
  · exact qo_thr h 0 rfl (p5_read_1 hfl key hkey (by omega)) (fun _ hS => c6_read_1 hS h1 h2 h0 hs key hkey p) rfl
theorem qo_split (hfl : l.stackTraces = false) (h : qJ S Y s A B nm ns c) (hc : c ≤ 512) (key : Int) (hkey : -2147483648 ≤ key ∧ key < 2147483648) : qOut w l yX5_split cX5_split 6 (some .int) [.ref 1, .int (iI key)] yX6_split cX6_split 5 (some .int) 3 [.ref 34, .int (iI key)] ["java/lang/IndexOutOfBoundsException", "java/lang/IllegalStateException"] S Y s A B c := by
  obtain ⟨h1, h2, h0, hs, hT⟩ := h.1.1
  obtain ⟨u1, u2, u3, u4, u5, u6, u7⟩ := h.1.2.1
  have hns := hs.2.2.2.2.1
  have hN := h.1.2.2.1.1
  by_cases p : 1 ≤ key ∧ key ≤ 999
  · obtain ⟨j, hj, k1, k2⟩ := qr_at hs (show 0 ≤ key by omega) p.2
    obtain ⟨f1, f2, f3⟩ := qr_key h.1 hj k1 k2
    obtain ⟨⟨r1, r2⟩, ⟨r3, r4⟩, r5, r6, r7, r8⟩ := h.1.2.2.2.2.1.1 j hj
    by_cases q : S 7 j = key ∨ S 9 j ≠ -1 ∨ ns = 16
    · exact qo_thr h 1 rfl (p5_split_2 hfl key hkey ns u7 hns j hj (by omega) f1 f2 f3 (by omega) hN (by omega)) (fun _ hS => c6_split_2 hS h1 h2 h0 hs key hkey j hj p k1 k2 q) rfl
    · have b1 := h1 (j + 1)
      have b2 := h1 j
      have hh := (qs_at (f := S 12) 0 ns (fun i _ hi => h.2.2.2.1.1 i (by omega))).2 j (by omega) (by omega)
      have hh0 := h.2.2.2.1.1 j hj
      have hh1 := h.2.2.2.1.2
      exact qo_suc (p5_split_3 key hkey ns u7 hns j hj (by omega) f1 f2 f3 (by omega) hN (by omega) (by omega) (by omega) (fun z => by have := h.2.1 _ _ (by omega) (by omega) z; omega) (by omega) (by omega)) (fun _ hS => c6_split_3 hS h1 h2 h0 hs key hkey j hj p k1 k2 (by omega) (by omega) (by omega) (by omega)) rfl rfl rfl (qj_split h hj (by omega) k1 k2 (by omega) (by omega) (by omega)) (by omega) (by omega)
  · by_cases q : key = 0
    · subst q
      exact qo_thr h 0 rfl (p5_split_1b hfl) (fun _ hS => c6_split_1 hS h1 h2 h0 hs 0 hkey p) rfl
    · exact qo_thr h 0 rfl (p5_split_1 hfl key hkey (by omega)) (fun _ hS => c6_split_1 hS h1 h2 h0 hs key hkey p) rfl
theorem qo_join (hfl : l.stackTraces = false) (h : qJ S Y s A B nm ns c) (x : Int) (hx : -2147483648 ≤ x ∧ x < 2147483648) : qOut w l yX5_join cX5_join 5 (some .int) [.ref 1, .int (iI x)] yX6_join cX6_join 5 (some .int) 2 [.ref 34, .int (iI x)] ["java/lang/IndexOutOfBoundsException", "java/lang/IllegalStateException"] S Y s A B c := by
  obtain ⟨h1, h2, h0, hs, hT⟩ := h.1.1
  obtain ⟨u1, u2, u3, u4, u5, u6, u7⟩ := h.1.2.1
  have hns := hs.2.2.2.2.1
  have hN := h.1.2.2.1.1
  by_cases p : 0 ≤ x ∧ x < ns
  · obtain ⟨j, rfl⟩ : ∃ j : Nat, x = j := ⟨x.toNat, by omega⟩
    by_cases e : j + 1 < ns
    · obtain ⟨⟨r1, r2⟩, ⟨r3, r4⟩, -⟩ := h.1.2.2.2.2.1.1 j (by omega)
      obtain ⟨⟨x1, x2⟩, ⟨x3, x4⟩, -⟩ := h.1.2.2.2.2.1.1 (j + 1) e
      have b1 := h1 j
      have b2 := h1 (j + 1)
      by_cases q : S 8 j = S 8 (j + 1) ∧ S 9 j = -1 ∧ S 9 (j + 1) = -1
      · exact qo_suc (p5_join_3 ns u7 hns j (by omega) e hN (by omega)) (fun _ hS => c6_join_3 hS h1 h2 h0 hs j hx j rfl (by omega) e q.1 q.2.1 q.2.2) rfl rfl rfl (qj_join h e q.1 q.2.1 q.2.2) (by omega) (by omega)
      · exact qo_thr h 1 rfl (p5_join_2b hfl ns u7 hns j (by omega) e hN (by omega)) (fun _ hS => c6_join_2 hS h1 h2 h0 hs j hx j rfl (by omega) (fun z => q z.2)) rfl
    · exact qo_thr h 1 rfl (p5_join_2a hfl ns u7 hns j (by omega) (by omega)) (fun _ hS => c6_join_2 hS h1 h2 h0 hs j hx j rfl (by omega) (fun z => e z.1)) rfl
  · exact qo_thr h 0 rfl (p5_join_1 hfl x hx ns u7 hns p) (fun _ hS => c6_join_1 hS h1 h2 h0 hs x hx p) rfl
theorem qo_move (hfl : l.stackTraces = false) (h : qJ S Y s A B nm ns c) (x : Int) (hx : -2147483648 ≤ x ∧ x < 2147483648) (q : Int) (hq : -2147483648 ≤ q ∧ q < 2147483648) : qOut w l yX5_move cX5_move 5 (some .int) [.ref 1, .int (iI x), .int (iI q)] yX6_move cX6_move 4 (some .int) 2 [.ref 34, .int (iI x), .int (iI q)] ["java/lang/IndexOutOfBoundsException", "java/lang/IllegalStateException"] S Y s A B c := by
  obtain ⟨h1, h2, h0, hs, hT⟩ := h.1.1
  obtain ⟨u1, u2, u3, u4, u5, u6, u7⟩ := h.1.2.1
  have hnm := hs.2.1
  have hns := hs.2.2.2.2.1
  have hN := h.1.2.2.1
  by_cases p : 0 ≤ x ∧ x < ns
  · by_cases p2 : 0 ≤ q ∧ q < nm
    · obtain ⟨j, rfl⟩ : ∃ j : Nat, x = j := ⟨x.toNat, by omega⟩
      obtain ⟨mi, rfl⟩ : ∃ mi : Nat, q = mi := ⟨q.toNat, by omega⟩
      have hj : j < ns := by omega
      have hmi : mi < nm := by omega
      obtain ⟨⟨r1, r2⟩, ⟨r3, r4⟩, r5, r6, r7, r8⟩ := h.1.2.2.2.2.1.1 j hj
      obtain ⟨z1, z2⟩ := qr_isup h.1 hj
      have b1 := h1 j
      have e3 := (hN.2.2.1 mi hmi).2
      have d := (h2 mi).2.1
      have d2 := (h2 (S 8 j).toNat).2.1
      have u3r : Y 3 (Y 12 (s j)).toNat = 0 ∨ Y 3 (Y 12 (s j)).toNat = 1 := by
        by_cases e : 0 < nm ∧ S 2 (S 8 j).toNat = 0
        · exact Or.inr (z1 e)
        · exact Or.inl (z2 e)
      have u32 : Y 3 (mi + 1) = 0 ∨ Y 3 (mi + 1) = 1 := by omega
      by_cases e : S 8 j = mi ∨ S 9 j ≠ -1 ∨ S 2 mi = 1 ∨ S 2 (S 8 j).toNat = 1
      · exact qo_thr h 1 rfl (p5_move_2 hfl ns u7 hns j hj nm u2 hnm mi hmi u3r u32 hN.1 (fun z => by
          have : ¬ S 2 (S 8 j).toNat = 1 := fun z9 => by have := z2 (fun y => by omega); omega
          omega)) (fun _ hS => c6_move_2 hS h1 h2 h0 hs j hx mi hq j rfl hj mi rfl hmi e) rfl
      · have z1 := z1 ⟨by omega, by omega⟩
        exact qo_suc (p5_move_3 ns u7 hns j hj nm u2 hnm mi hmi u3r u32 hN.1 (by omega) (by omega) z1 (by omega)) (fun _ hS => c6_move_3 hS h1 h2 h0 hs j hx mi hq j rfl hj mi rfl hmi (by omega) (by omega) (by omega) (by omega)) r7.symm rfl rfl (qj_move h hj (by omega) hmi (by omega)) (by omega) (by omega)
    · exact qo_thr h 0 rfl (p5_move_1b hfl x hx q hq ns u7 hns nm u2 hnm p p2) (fun _ hS => c6_move_1b hS h1 h2 h0 hs x hx q hq p p2) rfl
  · exact qo_thr h 0 rfl (p5_move_1 hfl x hx q hq ns u7 hns p) (fun _ hS => c6_move_1 hS h1 h2 h0 hs x hx q hq p) rfl
theorem qo_callOff (hfl : l.stackTraces = false) (h : qJ S Y s A B nm ns c) (x : Int) (hx : -2147483648 ≤ x ∧ x < 2147483648) : qOut w l yX5_callOff cX5_callOff 3 (some .int) [.ref 1, .int (iI x)] yX6_callOff cX6_callOff 4 (some .int) 2 [.ref 34, .int (iI x)] ["java/lang/IndexOutOfBoundsException", "java/lang/IllegalStateException"] S Y s A B c := by
  obtain ⟨h1, h2, h0, hs, hT⟩ := h.1.1
  obtain ⟨u1, u2, u3, u4, u5, u6, u7⟩ := h.1.2.1
  have hns := hs.2.2.2.2.1
  have hN := h.1.2.2.1
  by_cases p : 0 ≤ x ∧ x < ns
  · obtain ⟨j, rfl⟩ : ∃ j : Nat, x = j := ⟨x.toNat, by omega⟩
    obtain ⟨⟨r1, r2⟩, ⟨r3, r4⟩, r5, r6, r7, r8⟩ := h.1.2.2.2.2.1.1 j (by omega)
    by_cases e : S 9 j = -1
    · exact qo_thr h 1 rfl (p5_callOff_2 hfl ns u7 hns j (by omega) hN.1 (by omega)) (fun _ hS => c6_callOff_2 hS h1 h2 h0 hs j hx j rfl (by omega) e) rfl
    · exact qo_suc (p5_callOff_3 ns u7 hns j (by omega) hN.1 (by omega)) (fun _ hS => c6_callOff_3 hS h1 h2 h0 hs j hx j rfl (by omega) e) r6.symm rfl rfl (qj_callOff h (by omega) e) (by omega) (by omega)
  · exact qo_thr h 0 rfl (p5_callOff_1 hfl x hx ns u7 hns p) (fun _ hS => c6_callOff_1 hS h1 h2 h0 hs x hx p) rfl
theorem qo_pass (hfl : l.stackTraces = false) (h : qJ S Y s A B nm ns c) (hc : c ≤ 512) (x : Int) (hx : -2147483648 ≤ x ∧ x < 2147483648) : qOut w l yX5_pass cX5_pass 3 (some .int) [.ref 1, .int (iI x)] yX6_pass cX6_pass 4 (some .int) 4 [.ref 34, .int (iI x)] ["java/lang/IllegalArgumentException", "java/lang/IllegalStateException"] S Y s A B c := by
  obtain ⟨h1, h2, h0, hs, hT⟩ := h.1.1
  obtain ⟨u1, u2, u3, u4, u5, u6, u7⟩ := h.1.2.1
  have hnm := hs.2.1
  have hns := hs.2.2.2.2.1
  have h01 := h0.1
  by_cases p : 1 ≤ x ∧ x ≤ 200
  · by_cases q : 2000 < S 0 1 + x
    · exact qo_thr h 1 rfl (p5_pass_2 hfl x hx (by omega) p (by omega)) (fun _ hS => c6_pass_2 hS h1 h2 h0 hs x hx p q) rfl
    · obtain ⟨n, rfl⟩ : ∃ n : Nat, x = n := ⟨x.toNat, by omega⟩
      obtain ⟨a1, a2, a3, a4, a5⟩ := qj_pass h hc (n := n) (by omega)
      refine Or.inr ⟨16 * n, 64 * n, Y 0 8 + n, _, _, _, _, _, nm, ns, p5_pass_3 nm u2 hnm ns u7 hns (by omega) n (by omega) (by omega) a3, fun _ hS => ?_, a5 n (Nat.le_refl _), a2, by rw [a4]; omega, by rw [a4]; omega⟩
      have K := c6_pass_3 (w := w) (l := l) hS h1 h2 h0 hs n hx p (by omega) a1
      rw [Int.toNat_natCast] at K
      rw [u1]; exact K
  · exact qo_thr h 0 rfl (p5_pass_1 hfl x hx p) (fun _ hS => c6_pass_1 hS h1 h2 h0 hs x hx p) rfl
theorem qo_shardOf (hfl : l.stackTraces = false) (h : qJ S Y s A B nm ns c) (key : Int) (hkey : -2147483648 ≤ key ∧ key < 2147483648) : qOut w l yX5_shardOf cX5_shardOf 2 (some .int) [.ref 1, .int (iI key)] yX6_shardOf cX6_shardOf 2 (some .int) 2 [.ref 34, .int (iI key)] ["java/lang/IndexOutOfBoundsException"] S Y s A B c := by
  obtain ⟨h1, h2, h0, hs, hT⟩ := h.1.1
  obtain ⟨u1, u2, u3, u4, u5, u6, u7⟩ := h.1.2.1
  have hns := hs.2.2.2.2.1
  by_cases p : 0 ≤ key ∧ key ≤ 999
  · obtain ⟨j, hj, k1, k2⟩ := qr_at hs p.1 p.2
    obtain ⟨f1, f2, f3⟩ := qr_key h.1 hj k1 k2
    exact qo_suc (p5_shardOf_2 key hkey ns u7 hns j hj (by omega) f1 f2 f3) (fun _ hS => c6_shardOf_2 hS h1 h2 h0 hs key hkey j hj p k1 k2) rfl rfl rfl (qj_thr 0 h) (by omega) (by omega)
  · exact qo_thr h 0 rfl (p5_shardOf_1 hfl key hkey (by omega)) (fun _ hS => c6_shardOf_1 hS h1 h2 h0 hs key hkey p) rfl
theorem qo_whereAnew (hfl : l.stackTraces = false) (h : qJ S Y s A B nm ns c) (key : Int) (hkey : -2147483648 ≤ key ∧ key < 2147483648) : qOut w l yX5_whereAnew cX5_whereAnew 3 (some .int) [.ref 1, .int (iI key)] yX6_whereAnew cX6_whereAnew 2 (some .int) 2 [.ref 34, .int (iI key)] ["java/lang/IndexOutOfBoundsException"] S Y s A B c := by
  obtain ⟨h1, h2, h0, hs, hT⟩ := h.1.1
  obtain ⟨u1, u2, u3, u4, u5, u6, u7⟩ := h.1.2.1
  have hnm := hs.2.1
  by_cases p : 0 ≤ key ∧ key ≤ 999
  · obtain ⟨j, hj, k1, k2⟩ := qr_at hs p.1 p.2
    have e := h.2.2.2.2.2.2.2.2 j hj key k1 k2
    have e2 : (if nm = 0 then -1 else 0 : Int) = if Y 0 5 = 0 then -1 else 0 := by
      by_cases z : nm = 0
      · rw [if_pos z, if_pos (by omega)]
      · rw [if_neg z, if_neg (by omega)]
    rw [e2] at e
    exact qo_suc (p5_whereAnew_2 key hkey nm u2 hnm (by omega) h.2.2.2.2.2.2.1) (fun _ hS => c6_whereAnew_2 hS h1 h2 h0 hs key hkey j hj p k1 k2) e rfl rfl (qj_thr 0 h) (by omega) (by omega)
  · exact qo_thr h 0 rfl (p5_whereAnew_1 hfl key hkey (by omega)) (fun _ hS => c6_whereAnew_1 hS h1 h2 h0 hs key hkey p) rfl
theorem qo_billAnew (hfl : l.stackTraces = false) (h : qJ S Y s A B nm ns c) (t : Int) (ht : -2147483648 ≤ t ∧ t < 2147483648) : qOut w l yX5_billAnew cX5_billAnew 4 (some .int) [.ref 1, .int (iI t)] yX6_billAnew cX6_billAnew 2 (some .int) 2 [.ref 34, .int (iI t)] ["java/lang/IndexOutOfBoundsException"] S Y s A B c := by
  obtain ⟨h1, h2, h0, hs, hT⟩ := h.1.1
  obtain ⟨u1, u2, u3, u4, u5, u6, u7⟩ := h.1.2.1
  by_cases p : 0 ≤ t ∧ t ≤ 3
  · obtain ⟨ti, rfl⟩ : ∃ ti : Nat, t = ti := ⟨t.toNat, by omega⟩
    have e := (h.2.2.2.2.2.1.2 ti (by omega)).1
    exact qo_suc (p5_billAnew_2 ti (by omega) h.2.2.2.2.2.1.1) (fun _ hS => c6_billAnew_2 hS h1 h2 h0 hs ti ht p) (by rw [Int.toNat_natCast, u1]; exact e) rfl rfl (qj_thr 0 h) (by omega) (by omega)
  · exact qo_thr h 0 rfl (p5_billAnew_1 hfl t ht (by omega)) (fun _ hS => c6_billAnew_1 hS h1 h2 h0 hs t ht p) rfl
theorem qo_tenant (hfl : l.stackTraces = false) (h : qJ S Y s A B nm ns c) (t : Int) (ht : -2147483648 ≤ t ∧ t < 2147483648) (a : Int) (ha : -2147483648 ≤ a ∧ a < 2147483648) : qOut w l yX5_tenant cX5_tenant 4 (some .int) [.ref 1, .int (iI t), .int (iI a)] yX6_tenant cX6_tenant 3 (some .int) 2 [.ref 34, .int (iI t), .int (iI a)] ["java/lang/IndexOutOfBoundsException", "java/lang/IllegalArgumentException"] S Y s A B c := by
  obtain ⟨h1, h2, h0, hs, hT⟩ := h.1.1
  by_cases p : 0 ≤ t ∧ t ≤ 3
  · obtain ⟨ti, rfl⟩ : ∃ ti : Nat, t = ti := ⟨t.toNat, by omega⟩
    have K := h.1.2.2.2.1.1 ti (by omega)
    by_cases q : 0 ≤ a ∧ a ≤ 2
    · have hm := fun hh (hS : gShM hh) => c6_tenant_3 (w := w) (l := l) hS h1 h2 h0 hs ti ht a ha p q
      have q3 : a = 0 ∨ a = 1 ∨ a = 2 := by omega
      rcases q3 with rfl | rfl | rfl
      · exact qo_suc (p5_tenant_3_0 ti (by omega)) hm (by unfold sten; rw [if_pos rfl]; exact K.1.symm) rfl rfl (qj_thr 0 h) (by omega) (by omega)
      · exact qo_suc (p5_tenant_3_1 ti (by omega)) hm (by unfold sten; rw [if_neg (by omega), if_pos rfl, Int.toNat_natCast]; exact K.2.1.symm) rfl rfl (qj_thr 0 h) (by omega) (by omega)
      · exact qo_suc (p5_tenant_3_2 ti (by omega)) hm (by unfold sten; rw [if_neg (by omega), if_neg (by omega), Int.toNat_natCast]; exact K.2.2.symm) rfl rfl (qj_thr 0 h) (by omega) (by omega)
    · exact qo_thr h 1 rfl (p5_tenant_2 hfl ti (by omega) a ha q) (fun _ hS => c6_tenant_2 hS h1 h2 h0 hs ti ht a ha p q) rfl
  · exact qo_thr h 0 rfl (p5_tenant_1 hfl t ht a ha (by omega)) (fun _ hS => c6_tenant_1 hS h1 h2 h0 hs t ht a ha p) rfl
theorem qr_cnt (h : qR S Y s nm ns) (m : Nat) : gcnt S m = ycnt Y s ns (m + 1) := by
  unfold gcnt ycnt
  rw [h.1.2.2.2.1.2.2.1, Int.toNat_natCast]
  refine gsum_congr 0 ns (fun i _ hi => ?_)
  obtain ⟨-, ⟨r3, -⟩, -⟩ := h.2.2.2.2.1.1 i (by omega)
  have b := h.1.1 i
  unfold gcntF ycntF
  by_cases e : S 8 i = m
  · rw [if_pos e, if_pos (by omega)]
  · rw [if_neg e, if_neg (by omega)]
theorem qo_machineOf (hfl : l.stackTraces = false) (h : qJ S Y s A B nm ns c) (x : Int) (hx : -2147483648 ≤ x ∧ x < 2147483648) (a : Int) (ha : -2147483648 ≤ a ∧ a < 2147483648) : qOut w l yX5_machineOf cX5_machineOf 4 (some .int) [.ref 1, .int (iI x), .int (iI a)] yX6_machineOf cX6_machineOf 5 (some .int) 4 [.ref 34, .int (iI x), .int (iI a)] ["java/lang/IndexOutOfBoundsException", "java/lang/IllegalArgumentException"] S Y s A B c := by
  obtain ⟨h1, h2, h0, hs, hT⟩ := h.1.1
  obtain ⟨u1, u2, u3, u4, u5, u6, u7⟩ := h.1.2.1
  have hnm := hs.2.1
  have hns := hs.2.2.2.2.1
  by_cases p : 0 ≤ x ∧ x < nm
  · obtain ⟨mi, rfl⟩ : ∃ mi : Nat, x = mi := ⟨x.toNat, by omega⟩
    have hmi : mi < nm := by omega
    have h01 := h.1.2.2.1.2.2.2 (mi + 1) (by omega)
    have e3 := (h.1.2.2.1.2.2.1 mi hmi).2
    have d := (h2 mi).2.1
    by_cases q : 0 ≤ a ∧ a ≤ 3
    · have hm := fun hh (hS : gShM hh) => c6_machineOf_3 (w := w) (l := l) hS h1 h2 h0 hs mi hx a ha p q
      have q3 : a = 0 ∨ a = 1 ∨ a = 2 ∨ a = 3 := by omega
      rcases q3 with rfl | rfl | rfl | rfl
      · exact qo_suc (p5_machineOf_3_0 nm u2 hnm ns u7 hns mi hmi h01) hm (by unfold smac; rw [if_pos rfl]; exact (h.1.2.2.2.2.2 mi (by omega)).symm) rfl rfl (qj_thr 0 h) (by omega) (by omega)
      · exact qo_suc (p5_machineOf_3_1 nm u2 hnm ns u7 hns mi hmi h01) hm (by unfold smac; rw [if_neg (by omega), if_pos rfl, Int.toNat_natCast]; split <;> omega) rfl rfl (qj_thr 0 h) (by omega) (by omega)
      · exact qo_suc (p5_machineOf_3_2 nm u2 hnm ns u7 hns mi hmi h01) hm (by unfold smac; rw [if_neg (by omega), if_neg (by omega), if_pos rfl]; have := qr_heats h.1 (mi + 1); rw [show (((mi + 1 : Nat) : Int)) - 1 = (mi : Int) by omega] at this; exact this) rfl rfl (qj_thr 0 h) (by omega) (by omega)
      · exact qo_suc (p5_machineOf_3_3 nm u2 hnm ns u7 hns mi hmi h01) hm (by unfold smac; rw [if_neg (by omega), if_neg (by omega), if_neg (by omega)]; exact qr_cnt h.1 mi) rfl rfl (qj_thr 0 h) (by omega) (by omega)
    · exact qo_thr h 1 rfl (p5_machineOf_2 hfl nm u2 hnm ns u7 hns mi hmi h01 a ha q) (fun _ hS => c6_machineOf_2 hS h1 h2 h0 hs mi hx a ha p q) rfl
  · exact qo_thr h 0 rfl (p5_machineOf_1 hfl x hx a ha nm u2 hnm p) (fun _ hS => c6_machineOf_1 hS h1 h2 h0 hs x hx a ha p) rfl
theorem qo_shard (hfl : l.stackTraces = false) (h : qJ S Y s A B nm ns c) (x : Int) (hx : -2147483648 ≤ x ∧ x < 2147483648) (a : Int) (ha : -2147483648 ≤ a ∧ a < 2147483648) : qOut w l yX5_shard cX5_shard 4 (some .int) [.ref 1, .int (iI x), .int (iI a)] yX6_shard cX6_shard 3 (some .int) 3 [.ref 34, .int (iI x), .int (iI a)] ["java/lang/IndexOutOfBoundsException", "java/lang/IllegalArgumentException"] S Y s A B c := by
  obtain ⟨h1, h2, h0, hs, hT⟩ := h.1.1
  obtain ⟨u1, u2, u3, u4, u5, u6, u7⟩ := h.1.2.1
  have hns := hs.2.2.2.2.1
  have hnm := hs.2.1
  have hN := h.1.2.2.1.1
  by_cases p : 0 ≤ x ∧ x < ns
  · obtain ⟨j, rfl⟩ : ∃ j : Nat, x = j := ⟨x.toNat, by omega⟩
    have hj : j < ns := by omega
    obtain ⟨⟨r1, r2⟩, ⟨r3, r4⟩, r5, r6, r7, r8⟩ := h.1.2.2.2.2.1.1 j hj
    have b := h1 j
    by_cases q : 0 ≤ a ∧ a ≤ 6
    · have hm := fun hh (hS : gShM hh) => c6_shard_3 (w := w) (l := l) hS h1 h2 h0 hs j hx a ha j rfl hj q
      have q3 : a = 0 ∨ a = 1 ∨ a = 2 ∨ a = 3 ∨ a = 4 ∨ a = 5 ∨ a = 6 := by omega
      rcases q3 with rfl | rfl | rfl | rfl | rfl | rfl | rfl
      · exact qo_suc (p5_shard_3_0 ns u7 hns j hj) hm r1.symm rfl rfl (qj_thr 0 h) (by omega) (by omega)
      · exact qo_suc (p5_shard_3_1 ns u7 hns j hj) hm r2.symm rfl rfl (qj_thr 0 h) (by omega) (by omega)
      · exact qo_suc (p5_shard_3_2 ns u7 hns j hj) hm (by rw [hN _ (by omega)]; show S 8 j = _; omega) rfl rfl (qj_thr 0 h) (by omega) (by omega)
      · exact qo_suc (p5_shard_3_3 ns u7 hns j hj) hm (by rw [hN _ (by omega)]; show S 9 j = _; omega) rfl rfl (qj_thr 0 h) (by omega) (by omega)
      · exact qo_suc (p5_shard_3_4 ns u7 hns j hj) hm r7.symm rfl rfl (qj_thr 0 h) (by omega) (by omega)
      · exact qo_suc (p5_shard_3_5 ns u7 hns j hj) hm r6.symm rfl rfl (qj_thr 0 h) (by omega) (by omega)
      · exact qo_suc (p5_shard_3_6 ns u7 hns j hj) hm r8.symm rfl rfl (qj_thr 0 h) (by omega) (by omega)
    · exact qo_thr h 1 rfl (p5_shard_2 hfl ns u7 hns j hj a ha q) (fun _ hS => c6_shard_2 hS h1 h2 h0 hs j hx a ha p q) rfl
  · exact qo_thr h 0 rfl (p5_shard_1 hfl x hx a ha ns u7 hns p) (fun _ hS => c6_shard_1 hS h1 h2 h0 hs x hx a ha p) rfl
end QV
