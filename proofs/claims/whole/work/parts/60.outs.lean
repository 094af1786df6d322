/-! BOTH SIDES: what each call does to both, method by method -/
/-- the class's call, then the reference's: either both throw (i: which one of Es), or both answer alike; both sides behind it -/
def qOut (w : gW) (l : Launch) (y5 : MethodName) (c5 : ByteArray) (n5 : Nat) (r5 : Option FieldType) (as5 : List Value) (y6 : MethodName) (c6 : ByteArray) (n6 : Nat) (r6 : Option FieldType) (d6 : Nat) (as6 : List Value) (Es : List String) (S Y : gS) (s : Nat → Nat) (A : List gCE) (B : List gOE) (c : Int) : Prop :=
  (∃ (i : Nat) (E : String) (b : Int) (S2 : gS) (nm ns : Nat), Es[i]? = some E ∧ gXt w l y5 c5 n5 r5 as5 Y s A B E ∧ (∀ h, gShM h → gMm w l y6 c6 n6 r6 d6 as6 h S (some (.int (iI b))) S2) ∧ S2 0 0 = (i : Int) + 1 ∧ S2 0 1 = S 0 1 ∧ qJ S2 Y s A B nm ns (c + 1)) ∨
  (∃ (mc ms : Nat) (a : Int) (Y2 : gS) (s2 : Nat → Nat) (A2 : List gCE) (B2 : List gOE) (S2 : gS) (nm ns : Nat), gXs w l y5 c5 n5 r5 mc ms as5 Y s A B (some (.int (iI a))) Y2 s2 A2 B2 ∧ (∀ h, gShM h → gMm w l y6 c6 n6 r6 d6 as6 h S (some (.int (iI a))) S2) ∧ S2 0 0 = 0 ∧ qJ S2 Y2 s2 A2 B2 nm ns (c + 1) ∧ (mc : Int) ≤ 8 + 16 * (S2 0 1 - S 0 1) ∧ (ms : Int) ≤ 64 + 64 * (S2 0 1 - S 0 1))
theorem qr_at {S : gS} {nm ns : Nat} (hs : gWS S nm ns) {x : Int} (h0 : 0 ≤ x) (h9 : x ≤ 999) : ∃ j, j < ns ∧ S 7 j ≤ x ∧ x < S 7 (j + 1) := by
  have L : ∀ k, k ≤ ns → (∃ j, j < k ∧ S 7 j ≤ x ∧ x < S 7 (j + 1)) ∨ S 7 k ≤ x := by
    intro k
    induction k with
    | zero => intro _; exact Or.inr (by rw [hs.2.2.2.2.2.1]; exact h0)
    | succ k ih =>
      intro hk
      rcases ih (by omega) with ⟨j, a, b⟩ | a
      · exact Or.inl ⟨j, by omega, b⟩
      · by_cases e : x < S 7 (k + 1)
        · exact Or.inl ⟨k, by omega, a, e⟩
        · exact Or.inr (by omega)
  rcases L ns (Nat.le_refl _) with a | a
  · exact a
  · rw [hs.2.2.2.2.2.2.1] at a; omega
section QO
variable {w : gW} {l : Launch} {S Y : gS} {s : Nat → Nat} {nm ns j : Nat} {A : List gCE} {B : List gOE} {c : Int}
variable {y5 y6 : MethodName} {c5 c6 : ByteArray} {n5 n6 d6 : Nat} {r5 r6 : Option FieldType} {as5 as6 : List Value} {Es : List String}
theorem qo_thr (h : qJ S Y s A B nm ns c) (i : Nat) {E : String} {b v : Int} (he : Es[i]? = some E) (hx : gXt w l y5 c5 n5 r5 as5 Y s A B E) (hm : ∀ h, gShM h → gMm w l y6 c6 n6 r6 d6 as6 h S (some (.int (iI b))) (su S 0 0 v)) (hv : v = (i : Int) + 1) : qOut w l y5 c5 n5 r5 as5 y6 c6 n6 r6 d6 as6 Es S Y s A B c :=
  Or.inl ⟨i, E, b, _, nm, ns, he, hx, hm, by rw [su_eq, hv], su_ne (by omega), qj_thr v h⟩
theorem qo_suc {mc ms : Nat} {a a2 : Int} {Y2 : gS} {s2 : Nat → Nat} {A2 : List gCE} {B2 : List gOE} {S2 : gS} {nm2 ns2 : Nat} (hx : gXs w l y5 c5 n5 r5 mc ms as5 Y s A B (some (.int (iI a))) Y2 s2 A2 B2) (hm : ∀ h, gShM h → gMm w l y6 c6 n6 r6 d6 as6 h S (some (.int (iI a2))) S2) (ea : a2 = a) (h0 : S2 0 0 = 0) (h1 : S2 0 1 = S 0 1) (hJ : qJ S2 Y2 s2 A2 B2 nm2 ns2 (c + 1)) (hmc : mc ≤ 8) (hms : ms ≤ 64) : qOut w l y5 c5 n5 r5 as5 y6 c6 n6 r6 d6 as6 Es S Y s A B c := by
  subst ea
  exact Or.inr ⟨mc, ms, a2, Y2, s2, A2, B2, S2, nm2, ns2, hx, hm, h0, hJ, by omega, by omega⟩
/-- the row's machine is up -/
theorem qr_isup (h : qR S Y s nm ns) (hj : j < ns) : (0 < nm ∧ S 2 (S 8 j).toNat = 0 → Y 3 (Y 12 (s j)).toNat = 1) ∧ (¬ (0 < nm ∧ S 2 (S 8 j).toNat = 0) → Y 3 (Y 12 (s j)).toNat = 0) := by
  obtain ⟨-, ⟨r3, -⟩, -⟩ := h.2.2.2.2.1.1 j hj
  have b := h.1.2.2.2.1.2.2.2.2.2.2.2.2 j hj
  have n := h.2.2.1
  by_cases e : 0 < nm
  · obtain ⟨m, hm⟩ : ∃ m : Nat, S 8 j = m := ⟨(S 8 j).toNat, by have := b.2.1 e; omega⟩
    have b2 := b.2.1 e
    have q := (n.2.2.1 m (by omega)).2
    have d := (h.1.2.1 m).2.1
    rw [show (Y 12 (s j)).toNat = m + 1 by omega, hm, Int.toNat_natCast]
    omega
  · have b1 := b.1 (by omega)
    rw [show (Y 12 (s j)).toNat = 0 by omega]
    exact ⟨fun z => absurd z.1 e, fun _ => n.2.1.2.1⟩
theorem qr_key (h : qR S Y s nm ns) (hj : j < ns) {key : Int} (k1 : S 7 j ≤ key) (k2 : key < S 7 (j + 1)) : (∀ i, i < ns → 0 ≤ Y 10 (s i) ∧ Y 10 (s i) ≤ 1000) ∧ Y 10 (s j) ≤ key ∧ ∀ i, j < i → i < ns → key < Y 10 (s i) := by
  have r := fun i hi => (h.2.2.2.2.1.1 i hi).1.1
  refine ⟨fun i hi => by rw [r i hi]; exact (h.1.1 i).1, by rw [r j hj]; exact k1, fun i h1 h2 => ?_⟩
  rw [r i h2]
  have := qr_mono h.1.2.2.2.1 (show j + 1 ≤ i from h1) (by omega)
  omega
theorem qo_machine (hfl : l.stackTraces = false) (h : qJ S Y s A B nm ns c) (x : Int) (hx : -2147483648 ≤ x ∧ x < 2147483648) : qOut w l yX5_machine cX5_machine 3 (some .int) [.ref 1, .int (iI x)] yX6_machine cX6_machine 3 (some .int) 1 [.ref 34, .int (iI x)] ["java/lang/IllegalArgumentException", "java/lang/IllegalStateException"] S Y s A B c := by
  obtain ⟨h1, h2, h0, hs, hT⟩ := h.1.1
  obtain ⟨u1, u2, u3, u4, u5, u6, u7⟩ := h.1.2.1
  have hnm := hs.2.1
  have hns := hs.2.2.2.2.1
  have hN := h.1.2.2.1.1
  by_cases p : 100 ≤ x ∧ x ≤ 10000
  · by_cases q : nm = 6
    · exact qo_thr h 1 rfl (p5_machine_2 hfl x hx nm u2 hnm p q) (fun _ hS => c6_machine_2 hS h1 h2 h0 hs x hx p q) rfl
    · by_cases q0 : nm = 0
      · exact qo_suc (p5_machine_4 x hx nm u2 hnm ns u7 hns hN p q0) (fun _ hS => c6_machine_4 hS h1 h2 h0 hs x hx p q0) (by rw [hs.1, q0]; rfl) rfl rfl (qj_mach4 h p q0) (by omega) (by omega)
      · exact qo_suc (p5_machine_3 x hx nm u2 hnm ns u7 hns hN p (by omega) (by omega)) (fun _ hS => c6_machine_3 hS h1 h2 h0 hs x hx p (by omega) (by omega)) rfl rfl rfl (qj_mach3 h p (by omega) (by omega)) (by omega) (by omega)
  · exact qo_thr h 0 rfl (p5_machine_1 hfl x hx p) (fun _ hS => c6_machine_1 hS h1 h2 h0 hs x hx p) rfl
theorem qo_down (hfl : l.stackTraces = false) (h : qJ S Y s A B nm ns c) (x : Int) (hx : -2147483648 ≤ x ∧ x < 2147483648) (b : Int) (hb : b = 0 ∨ b = 1) : qOut w l yX5_down cX5_down 5 (some .boolean) [.ref 1, .int (iI x), .int (iI b)] yX6_down cX6_down 5 (some .boolean) 2 [.ref 34, .int (iI x), .int (iI b)] ["java/lang/IndexOutOfBoundsException"] S Y s A B c := by
  obtain ⟨h1, h2, h0, hs, hT⟩ := h.1.1
  obtain ⟨u1, u2, u3, u4, u5, u6, u7⟩ := h.1.2.1
  have hnm := hs.2.1
  have hns := hs.2.2.2.2.1
  have hN := h.1.2.2.1.1
  by_cases p : 0 ≤ x ∧ x < nm
  · obtain ⟨mi, rfl⟩ : ∃ mi : Nat, x = mi := ⟨x.toNat, by omega⟩
    have e3 := (h.1.2.2.1.2.2.1 mi (by omega)).2
    have h01 := h.1.2.2.1.2.2.2 (mi + 1) (by omega)
    have d := (h2 mi).2.1
    have ea : S 2 mi = bI (Y 3 (mi + 1) = 0) := by
      unfold bI; split <;> omega
    rcases hb with rfl | rfl
    · exact qo_suc (p5_down_2 mi hx 0 (Or.inl rfl) nm u2 hnm mi rfl (by omega) h01 rfl) (fun _ hS => c6_down_2 hS h1 h2 h0 hs mi hx mi rfl (by omega)) ea rfl rfl (qj_up h (by omega) (Or.inl rfl)) (by omega) (by omega)
    · exact qo_suc (p5_down_3 mi hx 1 (Or.inr rfl) nm u2 hnm ns u7 hns mi rfl (by omega) h01 hN rfl) (fun _ hS => c6_down_3 hS h1 h2 h0 hs mi hx mi rfl (by omega)) ea (by rw [sdn_0 _ _ _ (by omega)]; rfl) (by rw [sdn_0 _ _ _ (by omega)]; rfl) (qj_down h (by omega)) (by omega) (by omega)
  · exact qo_thr h 0 rfl (p5_down_1 hfl x hx b hb nm u2 hnm p) (fun _ hS => c6_down_1 hS h1 h2 h0 hs x hx b hb p) rfl
theorem qo_quota (hfl : l.stackTraces = false) (h : qJ S Y s A B nm ns c) (t : Int) (ht : -2147483648 ≤ t ∧ t < 2147483648) (b : Int) (hb : -2147483648 ≤ b ∧ b < 2147483648) : qOut w l yX5_quota cX5_quota 4 (some .int) [.ref 1, .int (iI t), .int (iI b)] yX6_quota cX6_quota 4 (some .int) 2 [.ref 34, .int (iI t), .int (iI b)] ["java/lang/IndexOutOfBoundsException", "java/lang/IllegalArgumentException"] S Y s A B c := by
  obtain ⟨h1, h2, h0, hs, hT⟩ := h.1.1
  by_cases p : 0 ≤ t ∧ t ≤ 3
  · by_cases q : 0 ≤ b ∧ b ≤ 20000
    · exact qo_suc (p5_quota_3 t ht b hb (by omega) q) (fun _ hS => c6_quota_3 hS h1 h2 h0 hs t ht b hb p q) (h.1.2.2.2.1.1 t.toNat (by omega)).2.1.symm rfl rfl (qj_quota h (by omega) q) (by omega) (by omega)
    · exact qo_thr h 1 rfl (p5_quota_2 hfl t ht b hb (by omega) q) (fun _ hS => c6_quota_2 hS h1 h2 h0 hs t ht b hb p q) rfl
  · exact qo_thr h 0 rfl (p5_quota_1 hfl t ht b hb (by omega)) (fun _ hS => c6_quota_1 hS h1 h2 h0 hs t ht b hb p) rfl
theorem qo_limit (hfl : l.stackTraces = false) (h : qJ S Y s A B nm ns c) (x : Int) (hx : -2147483648 ≤ x ∧ x < 2147483648) : qOut w l yX5_limit cX5_limit 3 (some .int) [.ref 1, .int (iI x)] yX6_limit cX6_limit 3 (some .int) 1 [.ref 34, .int (iI x)] ["java/lang/IllegalArgumentException"] S Y s A B c := by
  obtain ⟨h1, h2, h0, hs, hT⟩ := h.1.1
  by_cases p : 0 ≤ x ∧ x ≤ 1000
  · exact qo_suc (p5_limit_2 x hx p) (fun _ hS => c6_limit_2 hS h1 h2 h0 hs x hx p) h.1.2.1.2.2.1.symm rfl rfl (qj_limit h p) (by omega) (by omega)
  · exact qo_thr h 0 rfl (p5_limit_1 hfl x hx p) (fun _ hS => c6_limit_1 hS h1 h2 h0 hs x hx p) rfl
theorem qo_write (hfl : l.stackTraces = false) (h : qJ S Y s A B nm ns c) (key : Int) (hkey : -2147483648 ≤ key ∧ key < 2147483648) (t : Int) (ht : -2147483648 ≤ t ∧ t < 2147483648) (b : Int) (hb : -2147483648 ≤ b ∧ b < 2147483648) : qOut w l yX5_write cX5_write 5 (some .int) [.ref 1, .int (iI key), .int (iI t), .int (iI b)] yX6_write cX6_write 8 (some .int) 3 [.ref 34, .int (iI key), .int (iI t), .int (iI b)] ["java/lang/IndexOutOfBoundsException", "java/lang/IllegalArgumentException", "java/lang/IllegalStateException"] S Y s A B c := by
  obtain ⟨h1, h2, h0, hs, hT⟩ := h.1.1
  obtain ⟨u1, u2, u3, u4, u5, u6, u7⟩ := h.1.2.1
  have hnm := hs.2.1
  have h13 := hs.2.2.1
  have hns := hs.2.2.2.2.1
  have hN := h.1.2.2.1
  by_cases p : 0 ≤ key ∧ key ≤ 999
  · by_cases p2 : 0 ≤ t ∧ t ≤ 3
    · obtain ⟨j, hj, k1, k2⟩ := qr_at hs p.1 p.2
      obtain ⟨f1, f2, f3⟩ := qr_key h.1 hj k1 k2
      by_cases q : 1 ≤ b ∧ b ≤ 100
      · obtain ⟨z1, z2⟩ := qr_isup h.1 hj
        obtain ⟨⟨r1, r2⟩, ⟨r3, r4⟩, r5, r6, r7, r8⟩ := h.1.2.2.2.2.1.1 j hj
        have K1 := h.1.2.2.2.1.1 t.toNat (by omega)
        have K2 := h.1.2.2.2.1.2.1 key.toNat
        have K3 := h.1.2.2.2.1.2.2 key.toNat (by omega)
        have g6 := (h2 key.toNat).2.2.2.2
        have g5 := (h2 key.toNat).2.2.2.1
        have b9 := hs.2.2.2.2.2.2.2.2 j hj
        have b1 := h1 j
        -- what the home holds
        have e4 : 0 ≤ Y 4 (Y 12 (s j)).toNat ∧ Y 4 (Y 12 (s j)).toNat ≤ 10000 ∧ 0 ≤ Y 2 (Y 12 (s j)).toNat ∧ Y 2 (Y 12 (s j)).toNat ≤ 10000 := by
          by_cases e : 0 < nm
          · have b2 := b9.2.1 e
            obtain ⟨m, hm⟩ : ∃ m : Nat, S 8 j = m := ⟨(S 8 j).toNat, by omega⟩
            rw [show (Y 12 (s j)).toNat = m + 1 by omega, h.1.2.2.2.2.2 m (by omega), (hN.2.2.1 m (by omega)).1]
            have a := h.2.2.1 m (by omega)
            have a2 := (h2 m).1
            have a3 := (gheld_le h1 h2 (by omega) m).1
            omega
          · rw [show (Y 12 (s j)).toNat = 0 by have := b9.1 (by omega); omega, hN.2.1.1, hN.2.1.2.2]
            omega
        have eg : ygiv Y t key.toNat = gbofF S t key.toNat := by
          unfold ygiv gbofF
          rw [K2]
          split at K3 <;> omega
        have hbof := gbof_le h2 t
        have e14 := h.1.2.2.2.2.1.2.2 (s j)
        have et : ((t.toNat : Nat) : Int) = t := by omega
        rw [et] at K1
        have gF : 0 ≤ gbofF S t key.toNat ∧ gbofF S t key.toNat ≤ 100 := by unfold gbofF; split <;> omega
        have k6 := (h2 t.toNat).2.2.1
        have u3r : Y 3 (Y 12 (s j)).toNat = 0 ∨ Y 3 (Y 12 (s j)).toNat = 1 := by
          by_cases e : 0 < nm ∧ S 2 (S 8 j).toNat = 0
          · exact Or.inr (z1 e)
          · exact Or.inl (z2 e)
        have h08 := h0.2.2
        have k9 : -1 ≤ Y 9 key.toNat ∧ Y 9 key.toNat ≤ 3 := by rw [K3]; split <;> omega
        by_cases cn : 0 < nm ∧ S 2 (S 8 j).toNat = 0 ∧ gheld S (S 8 j) - S 6 key.toNat + b ≤ S 1 (S 8 j).toNat ∧ gbof S t - gbofF S t key.toNat + b ≤ S 3 t.toNat ∧ S 0 8 < 600
        · obtain ⟨c1, c2, c3, c4, c5⟩ := cn
          have b2 := b9.2.1 c1
          obtain ⟨m, hm⟩ : ∃ m : Nat, S 8 j = m := ⟨(S 8 j).toNat, by omega⟩
          have ez : (Y 12 (s j)).toNat = m + 1 := by omega
          have e4m := h.1.2.2.2.2.2 m (by omega)
          have e2m := (hN.2.2.1 m (by omega)).1
          have hnb : ¬ b = 0 := by omega
          have W := (qj_write h (key := key.toNat) (t := t) (b := b) (tc := t) hj (by omega) (by omega) (by omega) c1 c5 p2 (by omega) (by rw [if_neg hnb]) c3).1
          have ek : ((key.toNat : Nat) : Int) = key := by omega
          rw [ek] at W
          have rg : -2147483648 ≤ ychg Y (s j) key.toNat t b 4 (ychg Y (s j) key.toNat t b 13 (s j)).toNat + (b - Y 8 key.toNat) ∧ ychg Y (s j) key.toNat t b 4 (ychg Y (s j) key.toNat t b 13 (s j)).toNat + (b - Y 8 key.toNat) < 2147483648 := by
            rw [(ychg_e Y (s j) key.toNat t b).1, ychg_4]
            split
            · omega
            · by_cases z0 : (Y 13 (s j)).toNat = 0
              · rw [z0, hN.2.1.2.2]; omega
              · obtain ⟨m2, hm2⟩ : ∃ m2 : Nat, S 9 j = m2 := ⟨(S 9 j).toNat, by omega⟩
                rw [show (Y 13 (s j)).toNat = m2 + 1 by omega, h.1.2.2.2.2.2 m2 (by omega)]
                have a := h.2.2.1 m2 (by omega)
                have a2 := (h2 m2).1
                have a3 := (gheld_le h1 h2 (by omega) m2).1
                omega
          have rg2 : -2147483648 ≤ ychg Y (s j) key.toNat t b 2 (ychg Y (s j) key.toNat t b 13 (s j)).toNat ∧ ychg Y (s j) key.toNat t b 2 (ychg Y (s j) key.toNat t b 13 (s j)).toNat < 2147483648 := by
            rw [(ychg_e Y (s j) key.toNat t b).1, (ychg_e Y (s j) key.toNat t b).2.2.2]
            by_cases z0 : (Y 13 (s j)).toNat = 0
            · rw [z0, hN.2.1.1]; omega
            · obtain ⟨m2, hm2⟩ : ∃ m2 : Nat, S 9 j = m2 := ⟨(S 9 j).toNat, by omega⟩
              rw [show (Y 13 (s j)).toNat = m2 + 1 by omega, (hN.2.2.1 m2 (by omega)).1]
              have a2 := (h2 m2).1
              omega
          have W5 := (W.1.2.2.2.1.1 t.toNat (by omega)).1
          rw [et] at W5
          refine qo_suc (p5_write_4 key hkey t ht b hb ns u7 hns j hj (by omega) f1 f2 f3 (by omega) q u3r (by omega) (by omega) (by omega) (by omega) (by omega) (by omega) k9 hN.1 (by omega) rg rg2 ⟨z1 ⟨c1, c2⟩, by omega⟩ ?_ ?_) (fun _ hS => c6_write_4 hS h1 h2 h0 hs key hkey t ht b hb p p2 j hj k1 k2 q c1 c2 c3 c4 c5) W5.symm ?_ ?_ W (by omega) (by omega)
          · rw [ez, e4m, e2m, K2]
            rw [hm, Int.toNat_natCast] at c3
            omega
          · rw [eg, K1.1, K1.2.1]; exact c4
          · rw [swf_0 _ _ _ (by omega)]; rfl
          · rw [swf_0 _ _ _ (by omega)]; rfl
        · refine qo_thr h 2 rfl (p5_write_3 hfl key hkey t ht b hb ns u7 hns j hj (by omega) f1 f2 f3 (by omega) q u3r (by omega) (by omega) (by omega) (by omega) (by omega) (by omega) (fun z => cn ?_)) (fun _ hS => c6_write_3 hS h1 h2 h0 hs key hkey t ht b hb p p2 j hj k1 k2 q cn) rfl
          obtain ⟨⟨d1, d2⟩, d3, d4⟩ := z
          have e : 0 < nm ∧ S 2 (S 8 j).toNat = 0 := Classical.byContradiction fun n => by have := z2 n; omega
          have b2 := b9.2.1 e.1
          obtain ⟨m, hm⟩ : ∃ m : Nat, S 8 j = m := ⟨(S 8 j).toNat, by omega⟩
          rw [show (Y 12 (s j)).toNat = m + 1 by omega, h.1.2.2.2.2.2 m (by omega), (hN.2.2.1 m (by omega)).1, K2] at d3
          rw [eg, K1.1, K1.2.1] at d4
          refine ⟨e.1, e.2, ?_, d4, by omega⟩
          rw [hm, Int.toNat_natCast]; omega
      · exact qo_thr h 1 rfl (p5_write_2 hfl key hkey t ht b hb (by omega) (by omega) q) (fun _ hS => c6_write_2 hS h1 h2 h0 hs key hkey t ht b hb p p2 j hj k1 k2 q) rfl
    · by_cases q : 1 ≤ b ∧ b ≤ 100
      · exact qo_thr h 0 rfl (p5_write_1b hfl key hkey t ht b hb (by omega) (by omega)) (fun _ hS => c6_write_1c hS h1 h2 h0 hs key hkey t ht b hb p p2 q) rfl
      · exact qo_thr h 0 rfl (p5_write_1b hfl key hkey t ht b hb (by omega) (by omega)) (fun _ hS => c6_write_1d hS h1 h2 h0 hs key hkey t ht b hb p p2 q) rfl
  · by_cases q : 1 ≤ b ∧ b ≤ 100
    · exact qo_thr h 0 rfl (p5_write_1 hfl key hkey t ht b hb (by omega)) (fun _ hS => c6_write_1 hS h1 h2 h0 hs key hkey t ht b hb p q) rfl
    · exact qo_thr h 0 rfl (p5_write_1 hfl key hkey t ht b hb (by omega)) (fun _ hS => c6_write_1b hS h1 h2 h0 hs key hkey t ht b hb p q) rfl
end QO
