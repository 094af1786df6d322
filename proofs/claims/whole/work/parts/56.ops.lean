/-! BOTH SIDES: what each call that answers leaves -/
/-- the two sides, after c calls -/
def qJ (S Y : gS) (s : Nat → Nat) (A : List gCE) (B : List gOE) (nm ns : Nat) (c : Int) : Prop := qR S Y s nm ns ∧ qI s ∧ qM S nm ∧ qH S ns c ∧ q11 S ∧ qL S A ∧ qB S nm ns B
theorem swf_g (U : gS) (key : Int) (j : Nat) {f : Nat} (h9 : f ≠ 9) (h0 : f ≠ 0) : swf U key j f = U f := by
  unfold swf
  split
  · rw [su_g h0, su_g h9]
  · rfl
theorem swf_0 (U : gS) (key : Int) (j : Nat) {i : Nat} (h : i ≠ 10) : swf U key j 0 i = U 0 i := by
  unfold swf
  split
  · rw [su_ne (Or.inr h), su_ne (by omega)]
  · rfl
theorem yfail_p (V : gS) (q : Nat) (v : Int) : yfail (su (su V 4 (V 13 q).toNat (V 4 (V 13 q).toNat + v)) 16 q (V 16 q + v)) q = yfail V q := by
  funext f i
  unfold yfail yaim
  simp only [su_f, Nat.reduceEqDiff, false_and, true_and, if_false, if_true, and_true, Nat.succ_ne_self]
  by_cases e0 : f = 0
  · subst e0; simp
  by_cases e4 : f = 4
  · subst e4
    simp
    by_cases ei : i = (V 13 q).toNat
    · simp [ei]; omega
    · simp [ei]
  by_cases e16 : f = 16
  · subst e16
    simp
    by_cases ei : i = q
    · simp [ei]
    · simp [ei]
  simp [e0, e4, e16]
theorem sdn_g (U : gS) (mi : Int) : ∀ (k : Nat) {g : Nat}, g ≠ 9 → g ≠ 0 → sdn U mi k g = U g
  | 0, _, _, _ => rfl
  | k + 1, g, h9, h0 => by
    rw [sdn]
    split
    · rw [su_g h0, su_g h9]; exact sdn_g U mi k h9 h0
    · exact sdn_g U mi k h9 h0
theorem sdn_0 (U : gS) (mi : Int) : ∀ (k : Nat) {i : Nat}, i ≠ 10 → sdn U mi k 0 i = U 0 i
  | 0, _, _ => rfl
  | k + 1, i, h => by
    rw [sdn]
    split
    · rw [su_ne (Or.inr h), su_ne (by omega)]; exact sdn_0 U mi k h
    · exact sdn_0 U mi k h
theorem yset_g (Y : gS) (s : Nat → Nat) (z : Nat) : ∀ (k : Nat) {g : Nat}, g ≠ 12 → yset Y s z k g = Y g
  | 0, _, _ => rfl
  | k + 1, g, h => by rw [yset, su_g h]; exact yset_g Y s z k h
theorem yset_12 (Y : gS) (s : Nat → Nat) (z : Nat) : ∀ (k : Nat) (i : Nat), i < k → yset Y s z k 12 (s i) = z
  | 0, i, h => by omega
  | k + 1, i, h => by
    rw [yset, su_f]
    by_cases e : s i = s k
    · rw [if_pos ⟨rfl, e⟩]
    · rw [if_neg (fun q => e q.2)]
      have : i ≠ k := fun q => e (by rw [q])
      exact yset_12 Y s z k i (by omega)
theorem gheld_0 {S : gS} (h : ∀ k, S 6 k = 0) (m : Int) : gheld S m = 0 := by
  unfold gheld
  refine qs_zero 0 _ (fun i _ _ => ?_)
  have a : gsize S i = 0 := qs_zero _ _ (fun k _ _ => h k)
  have b : gcop S i = 0 := by
    unfold gcop
    split
    · rfl
    · exact qs_zero _ _ (fun k _ _ => h k)
  unfold gheldF
  rw [a, b]; split <;> split <;> rfl
section QF
variable {S Y : gS} {s : Nat → Nat} {nm ns j : Nat} {A : List gCE} {B : List gOE} {c : Int}
theorem qj_thr (v : Int) (h : qJ S Y s A B nm ns c) : qJ (su S 0 0 v) Y s A B nm ns (c + 1) := by
  obtain ⟨a1, a2, a3, ⟨a4, a5⟩, a6, a7, a8⟩ := h
  exact ⟨a1, a2, a3, ⟨a4, by show gsum (S 12) 0 ns ≤ c + 1; omega⟩, a6, a7, a8⟩
theorem qj_quota (h : qJ S Y s A B nm ns c) {t : Nat} {b : Int} (ht : t < 4) (hb : 0 ≤ b ∧ b ≤ 20000) : qJ (su (su S 0 0 0) 3 t b) (su Y 6 t b) s A B nm ns (c + 1) := by
  obtain ⟨⟨⟨h1, h2, h0, hs, hT⟩, hU, hN, ⟨K1, K2, K3⟩, hZ, hG⟩, a2, a3, ⟨a4, a5⟩, a6, a7, a8⟩ := h
  refine ⟨⟨⟨h1, fun i => ?_, h0, hs, hT⟩, hU, hN, ⟨fun t2 ht2 => ⟨(K1 t2 ht2).1, ?_, (K1 t2 ht2).2.2⟩, K2, K3⟩, hZ, hG⟩, a2, a3, ⟨a4, by show gsum (S 12) 0 ns ≤ c + 1; omega⟩, a6, a7, a8⟩
  · have a := h2 i
    refine ⟨a.1, a.2.1, ?_, a.2.2.2⟩
    rw [su_f]; split
    · exact hb
    · exact a.2.2.1
  · rw [su_f, su_f]
    by_cases e : t2 = t
    · rw [if_pos ⟨rfl, e⟩, if_pos ⟨rfl, e⟩]
    · rw [if_neg (fun z => e z.2), if_neg (fun z => e z.2)]; exact (K1 t2 ht2).2.1
theorem qj_limit (h : qJ S Y s A B nm ns c) {x : Int} (hx : 0 ≤ x ∧ x ≤ 1000) : qJ (su (su S 0 0 0) 0 7 x) (su Y 0 9 x) s A B nm ns (c + 1) := by
  obtain ⟨⟨⟨h1, h2, ⟨h01, h07, h08⟩, hs, hT⟩, ⟨u1, u2, u3, u4, u5, u6, u7⟩, hN, hK, hZ, hG⟩, a2, a3, ⟨a4, a5⟩, a6, a7, a8⟩ := h
  exact ⟨⟨⟨h1, h2, ⟨h01, hx, h08⟩, hs, hT⟩, ⟨u1, u2, rfl, u4, u5, u6, u7⟩, hN, hK, hZ, hG⟩, a2, a3, ⟨a4, by show gsum (S 12) 0 ns ≤ c + 1; omega⟩, a6, a7, a8⟩
theorem qh_inc (h : qH S ns c) (hj : j < ns) {S' : gS} (e : S' 12 = va_up (S 12) j (S 12 j + 1)) : qH S' ns (c + 1) := by
  obtain ⟨a, b⟩ := h
  rw [qH, e]
  refine ⟨fun i hi => ?_, ?_⟩
  · unfold va_up
    have := a i hi
    have := a j hj
    split <;> omega
  · rw [qs_upd, if_pos ⟨by omega, by omega⟩]; omega
theorem qj_read (h : qJ S Y s A B nm ns c) (hj : j < ns) : qJ (su (su S 0 0 0) 12 j (S 12 j + 1)) (su Y 18 (s j) (Y 18 (s j) + 1)) s A B nm ns (c + 1) := by
  obtain ⟨a1, a2, a3, a4, a6, a7, a8⟩ := h
  have r := (a1.2.2.2.2.1.1 j hj).2.2.2.2.2
  refine ⟨?_, a2, a3, qh_inc a4 hj rfl, a6, a7, a8⟩
  rw [r]
  exact qr_heat (S := su S 0 0 0) a1 a2 hj
theorem qj_move (h : qJ S Y s A B nm ns c) (hj : j < ns) {m : Nat} (h9 : S 9 j = -1) (hm : m < nm) (h8 : S 8 j ≠ m) : qJ (su (su (su (su S 0 0 0) 9 j m) 10 j (S 7 j)) 11 j 0) (yaim Y (s j) (m + 1)) s A B nm ns (c + 1) := by
  obtain ⟨a1, a2, a3, ⟨a4, a5⟩, a6, a7, a8⟩ := h
  have K : qR (sbeg (su S 0 0 0) j m) (yaim Y (s j) (m + 1)) s nm ns := qr_aim (S := su S 0 0 0) a1 a2 hj h9 hm h8
  refine ⟨K, a2, qM_same a1 K (su_g (by omega) |>.trans (su_g (by omega)) |>.trans (su_g (by omega)) |>.trans (su_g (by omega))) rfl a3, ⟨a4, by show gsum (S 12) 0 ns ≤ c + 1; omega⟩, fun i => ?_, a7, a8⟩
  have a := a6 i
  show 0 ≤ va_up (S 11) j 0 i ∧ va_up (S 11) j 0 i ≤ 50 * S 0 1
  have b := a6 j
  unfold va_up
  split <;> omega
theorem qj_callOff (h : qJ S Y s A B nm ns c) (hj : j < ns) (h9 : S 9 j ≠ -1) : qJ (su (su (su S 0 0 0) 9 j (-1)) 0 10 (S 0 10 + 1)) (yfail Y (s j)) s A B nm ns (c + 1) := by
  obtain ⟨a1, a2, a3, ⟨a4, a5⟩, a6, a7, a8⟩ := h
  obtain ⟨K, L⟩ := qr_fail (S := su S 0 0 0) a1 a2 hj h9
  exact ⟨K, a2, fun m hm => Int.le_trans (L m) (a3 m hm), ⟨a4, by show gsum (S 12) 0 ns ≤ c + 1; omega⟩, a6, a7, a8⟩
theorem qr_up (h : qR S Y s nm ns) {mi : Nat} (hm : mi < nm) {v : Int} (hv : v = 0 ∨ v = 1) : qR (su S 2 mi v) (su Y 3 (mi + 1) (1 - v)) s nm ns := by
  obtain ⟨⟨h1, h2, h0, hs, t1, t2, t3⟩, hU, ⟨n1, ⟨n2, n3, n4⟩, n5, n6⟩, hK, hZ, hG⟩ := h
  refine ⟨⟨h1, fun i => ?_, h0, hs, t1, t2, fun m hm2 => ?_⟩, hU, ⟨n1, ⟨n2, ?_, n4⟩, fun m hm2 => ⟨(n5 m hm2).1, ?_⟩, fun z hz => ?_⟩, hK, hZ, hG⟩
  · have a := h2 i
    refine ⟨a.1, ?_, a.2.2⟩
    rw [su_f]; split
    · exact hv
    · exact a.2.1
  · rw [su_ne (by omega)]; exact t3 m hm2
  · rw [su_ne (by omega)]; exact n3
  · rw [su_f, su_f]
    by_cases e : m = mi
    · rw [if_pos ⟨rfl, by omega⟩, if_pos ⟨rfl, e⟩]
    · rw [if_neg (by omega), if_neg (by omega)]; exact (n5 m hm2).2
  · rw [su_f]; split
    · omega
    · exact n6 z hz
theorem qj_up (h : qJ S Y s A B nm ns c) {mi : Nat} (hm : mi < nm) {v : Int} (hv : v = 0 ∨ v = 1) : qJ (su (su S 0 0 0) 2 mi v) (su Y 3 (mi + 1) (1 - v)) s A B nm ns (c + 1) := by
  obtain ⟨a1, a2, a3, ⟨a4, a5⟩, a6, a7, a8⟩ := h
  exact ⟨qr_up (S := su S 0 0 0) a1 hm hv, a2, a3, ⟨a4, by show gsum (S 12) 0 ns ≤ c + 1; omega⟩, a6, a7, a8⟩
theorem qr_sdn (h : qR S Y s nm ns) (hM : qM S nm) (hi : qI s) (mi : Nat) : ∀ k, k ≤ ns → qR (sdn S mi k) (yfmo Y s (mi + 1) k) s nm ns ∧ qM (sdn S mi k) nm
  | 0, _ => ⟨h, hM⟩
  | k + 1, hk => by
    obtain ⟨a, b⟩ := qr_sdn h hM hi mi k (by omega)
    obtain ⟨-, ⟨r3, r4⟩, -⟩ := a.2.2.2.2.1.1 k (by omega)
    have b1 := a.1.1 k
    rw [sdn, yfmo]
    by_cases e : sdn S mi k 9 k ≠ -1 ∧ (sdn S mi k 8 k = mi ∨ sdn S mi k 9 k = mi)
    · rw [if_pos e, if_pos (by omega)]
      obtain ⟨K, L⟩ := qr_fail a hi (show k < ns by omega) e.1
      exact ⟨K, fun m hm => Int.le_trans (L m) (b m hm)⟩
    · rw [if_neg e, if_neg (by omega)]; exact ⟨a, b⟩
theorem qj_down (h : qJ S Y s A B nm ns c) {mi : Nat} (hm : mi < nm) : qJ (sdn (su (su S 0 0 0) 2 mi 1) mi ns) (yfmo (su Y 3 (mi + 1) 0) s (mi + 1) ns) s A B nm ns (c + 1) := by
  obtain ⟨a1, a2, a3, ⟨a4, a5⟩, a6, a7, a8⟩ := qj_up h hm (v := 1) (Or.inr rfl)
  obtain ⟨K, L⟩ := qr_sdn a1 a3 a2 mi ns (Nat.le_refl _)
  have g := fun (f : Nat) (x : f ≠ 9) (y : f ≠ 0) => sdn_g (su (su S 0 0 0) 2 mi 1) mi ns x y
  refine ⟨K, a2, L, ⟨?_, ?_⟩, ?_, ⟨a7.1, fun t ht => ?_⟩, qB_same (g 7 (by omega) (by omega)) (g 8 (by omega) (by omega)) a8⟩
  · rw [g 12 (by omega) (by omega)]; exact a4
  · rw [g 12 (by omega) (by omega)]; exact a5
  · unfold q11; rw [g 11 (by omega) (by omega), sdn_0 _ _ _ (by omega)]; exact a6
  · rw [g 4 (by omega) (by omega), sdn_0 _ _ _ (by omega), gbof_c (g 5 (by omega) (by omega)) (g 6 (by omega) (by omega))]; exact a7.2 t ht
theorem qj_mach3 (h : qJ S Y s A B nm ns c) {x : Int} (hx : 100 ≤ x ∧ x ≤ 10000) (hn : 0 < nm) (hn6 : nm < 6) : qJ (su (su (su S 0 0 0) 1 nm x) 0 2 ((nm : Int) + 1)) (su (su (su Y 2 (nm + 1) x) 3 (nm + 1) 1) 0 5 ((nm : Int) + 1)) s A B (nm + 1) ns (c + 1) := by
  obtain ⟨⟨⟨h1, h2, h0, ⟨s1, s2, s3, s4, s5, s6, s7, s8, s9⟩, t1, t2, t3⟩, ⟨u1, u2, u3, u4, u5, u6, u7⟩, ⟨n1, ⟨n2, n3, n4⟩, n5, n6⟩, hK, hZ, hG⟩, a2, a3, ⟨a4, a5⟩, a6, a7, b1, b2, b3⟩ := h
  have e2 : su (su (su S 0 0 0) 1 nm x) 0 2 ((nm : Int) + 1) 0 2 = (nm : Int) + 1 := su_eq
  refine ⟨⟨⟨h1, fun i => ?_, h0, ⟨by omega, by omega, s3, s4, s5, s6, s7, s8, fun i hi => ⟨fun z => by omega, fun _ => ?_, ?_, (s9 i hi).2.2.2⟩⟩, fun z => by omega, t2, fun m hm => t3 m (by omega)⟩, ⟨u1, by show (nm : Int) + 1 = ((nm + 1 : Nat) : Int); omega, u3, u4, u5, u6, u7⟩, ⟨n1, ⟨?_, ?_, n4⟩, fun m hm => ?_, fun z hz => ?_⟩, hK, hZ, hG⟩, a2, fun m hm => ?_, ⟨a4, by show gsum (S 12) 0 ns ≤ c + 1; omega⟩, a6, a7, b1, fun z => by omega, ?_⟩
  · have a := h2 i
    refine ⟨?_, a.2⟩
    show 0 ≤ va_up (S 1) nm x i ∧ va_up (S 1) nm x i ≤ 10000
    unfold va_up; split <;> omega
  · have := (s9 i hi).2.1 hn
    show 0 ≤ S 8 i ∧ S 8 i < ((nm + 1 : Nat) : Int)
    omega
  · have := (s9 i hi).2.2.1
    show S 9 i < ((nm + 1 : Nat) : Int)
    omega
  · show va_up (Y 2) (nm + 1) x 0 = 0
    unfold va_up; rw [if_neg (by omega)]; exact n2
  · show va_up (Y 3) (nm + 1) 1 0 = 0
    unfold va_up; rw [if_neg (by omega)]; exact n3
  · show va_up (Y 2) (nm + 1) x (m + 1) = va_up (S 1) nm x m ∧ va_up (Y 3) (nm + 1) 1 (m + 1) = 1 - S 2 m
    unfold va_up
    by_cases e : m = nm
    · rw [if_pos (by omega), if_pos e, if_pos (by omega), t3 m (by omega)]; exact ⟨rfl, rfl⟩
    · rw [if_neg (by omega), if_neg e, if_neg (by omega)]; exact n5 m (by omega)
  · show va_up (Y 3) (nm + 1) 1 z = 0 ∨ va_up (Y 3) (nm + 1) 1 z = 1
    unfold va_up; split
    · exact Or.inr rfl
    · exact n6 z hz
  · show gheld S m ≤ va_up (S 1) nm x m
    unfold va_up
    by_cases e : m = nm
    · rw [if_pos e, gheld_n s3, qs_zero 0 ns (fun i _ hi => ?_)]
      · omega
      · have w := s9 i (by omega)
        have w2 := w.2.1 hn
        have w3 := w.2.2.1
        unfold gheldF
        rw [if_neg (by omega), if_neg (by omega)]; rfl
    · rw [if_neg e]; exact a3 m (by omega)
  · rw [if_neg (by omega)] at b3 ⊢
    exact b3
theorem qj_mach4 (h : qJ S Y s A B nm ns c) {x : Int} (hx : 100 ≤ x ∧ x ≤ 10000) (hn : nm = 0) : qJ (su (son0 (su (su S 0 0 0) 1 nm x) ns) 0 2 (S 0 2 + 1)) (yset (su (su (su Y 2 (nm + 1) x) 3 (nm + 1) 1) 0 5 ((nm : Int) + 1)) s (nm + 1) ns) s A B (nm + 1) ns (c + 1) := by
  subst hn
  obtain ⟨⟨⟨h1, h2, h0, ⟨s1, s2, s3, s4, s5, s6, s7, s8, s9⟩, t1, t2, t3⟩, ⟨u1, u2, u3, u4, u5, u6, u7⟩, ⟨n1, ⟨n2, n3, n4⟩, n5, n6⟩, hK, ⟨Z1, Z2, Z3⟩, hG⟩, a2, a3, ⟨a4, a5⟩, a6, a7, b1, b2, b3⟩ := h
  have z6 := t1 rfl
  have h9 : ∀ i, i < ns → S 9 i = -1 := fun i hi => by
    have := (s9 i hi).2.2.1
    have := (h1 i).2.2.1
    omega
  have yg := fun (f : Nat) (hf : f ≠ 12) => yset_g (su (su (su Y 2 (0 + 1) x) 3 (0 + 1) 1) 0 5 (((0 : Nat) : Int) + 1)) s (0 + 1) ns hf
  have y12 := yset_12 (su (su (su Y 2 (0 + 1) x) 3 (0 + 1) 1) 0 5 (((0 : Nat) : Int) + 1)) s (0 + 1) ns
  generalize yset (su (su (su Y 2 (0 + 1) x) 3 (0 + 1) 1) 0 5 (((0 : Nat) : Int) + 1)) s (0 + 1) ns = V at *
  have e8 : ∀ i, su (son0 (su (su S 0 0 0) 1 0 x) ns) 0 2 (S 0 2 + 1) 8 i = if i < ns then 0 else S 8 i := fun i => rfl
  have hG' : ∀ m, gheld (su (son0 (su (su S 0 0 0) 1 0 x) ns) 0 2 (S 0 2 + 1)) m = 0 := fun m => gheld_0 (S := su (son0 (su (su S 0 0 0) 1 0 x) ns) 0 2 (S 0 2 + 1)) z6 m
  refine ⟨⟨⟨fun i => ?_, fun i => ?_, h0, ⟨?_, by omega, s3, s4, s5, s6, s7, s8, fun i hi => ⟨fun z => by omega, fun _ => ?_, ?_, (s9 i hi).2.2.2⟩⟩, fun z => by omega, fun i hi z => absurd (h9 i hi) z, fun m hm => t3 m (by omega)⟩, ⟨?_, ?_, ?_, ?_, ?_, ?_, ?_⟩, ⟨?_, ⟨?_, ?_, ?_⟩, fun m hm => ?_, fun z hz => ?_⟩, ⟨fun t ht => ?_, ?_, ?_⟩, ⟨fun i hi => ?_, fun i x1 x2 => ?_, fun q => ?_⟩, fun m hm => ?_⟩, a2, fun m hm => ?_, ⟨a4, by show gsum (S 12) 0 ns ≤ c + 1; omega⟩, a6, a7, b1, fun z => by omega, fun i hi k _ _ => ?_⟩
  · have a := h1 i
    refine ⟨a.1, ?_, a.2.2⟩
    rw [e8]; split <;> omega
  · have a := h2 i
    refine ⟨?_, a.2⟩
    show 0 ≤ va_up (S 1) 0 x i ∧ va_up (S 1) 0 x i ≤ 10000
    unfold va_up; split <;> omega
  · rw [su_eq]; omega
  · rw [e8, if_pos hi]; omega
  · show S 9 i < _
    rw [h9 i hi]; omega
  · rw [yg 0 (by omega)]; exact u1
  · rw [yg 0 (by omega)]; rfl
  · rw [yg 0 (by omega)]; exact u3
  · rw [yg 0 (by omega)]; exact u4
  · rw [yg 0 (by omega)]; exact u5
  · rw [yg 0 (by omega)]; exact u6
  · rw [yg 0 (by omega)]; exact u7
  · unfold gNu; rw [yg 1 (by omega)]; exact n1
  · rw [yg 2 (by omega)]; exact n2
  · rw [yg 3 (by omega)]; exact n3
  · rw [yg 4 (by omega)]; exact n4
  · have e : m = 0 := by omega
    subst e
    rw [yg 2 (by omega), yg 3 (by omega)]
    refine ⟨rfl, ?_⟩
    show (1 : Int) = 1 - S 2 0
    rw [t3 0 (by omega)]; rfl
  · rw [yg 3 (by omega)]
    show va_up (Y 3) (0 + 1) 1 z = 0 ∨ va_up (Y 3) (0 + 1) 1 z = 1
    unfold va_up; split
    · exact Or.inr rfl
    · exact n6 z hz
  · rw [yg 5 (by omega), yg 6 (by omega), yg 7 (by omega)]; exact hK.1 t ht
  · rw [yg 8 (by omega)]; exact hK.2.1
  · rw [yg 9 (by omega)]; exact hK.2.2
  · obtain ⟨r1, ⟨r3, r4⟩, r5, r6, r7, r8⟩ := Z1 i hi
    refine ⟨?_, ⟨?_, ?_⟩, ?_, ?_, ?_, ?_⟩
    · rw [yg 10 (by omega), yg 11 (by omega)]; exact r1
    · rw [y12 i hi, e8, if_pos hi]; rfl
    · rw [yg 13 (by omega)]; exact r4
    · rw [yg 14 (by omega), yg 15 (by omega)]; exact r5
    · rw [yg 16 (by omega)]; exact r6
    · rw [yg 17 (by omega)]; exact r7
    · rw [yg 18 (by omega)]; exact r8
  · rw [yg 13 (by omega), yg 16 (by omega)]; exact Z2 i x1 x2
  · rw [yg 14 (by omega)]; exact Z3 q
  · rw [hG', yg 4 (by omega)]
    have := hG m hm
    rw [gheld_0 z6] at this; exact this
  · rw [hG']
    show 0 ≤ va_up (S 1) 0 x m
    have := (h2 m).1
    unfold va_up; split <;> omega
  · rw [e8, if_pos hi, b2 rfl]
    rfl
end QF
