/-! BOTH SIDES: sums; the relation between the reference's S and the class's Y (s: the row of shards) -/
theorem qs_one {f g : Nat → Int} (a j : Nat) : ∀ n : Nat, (∀ i, a ≤ i → i < a + n → i ≠ j → g i = f i) → a ≤ j → j < a + n → gsum g a n = gsum f a n - f j + g j
  | 0, _, _, h => by omega
  | n + 1, h, h1, h2 => by
    rw [gsum, gsum]
    by_cases e : j = a + n
    · subst e
      rw [gsum_congr (f := g) (g := f) a n (fun i x y => h i x (by omega) (by omega))]
      omega
    · rw [qs_one a j n (fun i x y z => h i x (by omega) z) h1 (by omega), h (a + n) (by omega) (by omega) (by omega)]
      omega
theorem qs_app (f : Nat → Int) (a n : Nat) : ∀ m : Nat, gsum f a (n + m) = gsum f a n + gsum f (a + n) m
  | 0 => by simp [gsum]
  | m + 1 => by
    rw [← Nat.add_assoc, gsum, gsum, qs_app f a n m, Nat.add_assoc a n m]
    omega
theorem qs_shift {f g : Nat → Int} (a b : Nat) : ∀ n : Nat, (∀ i, i < n → g (b + i) = f (a + i)) → gsum g b n = gsum f a n
  | 0, _ => rfl
  | n + 1, h => by rw [gsum, gsum, qs_shift a b n (fun i hi => h i (by omega)), h n (by omega)]
/-- one place is made two -/
theorem qs_ins {f g : Nat → Int} {j : Nat} : ∀ d : Nat, (∀ i, i < j → g i = f i) → g j + g (j + 1) = f j → (∀ i, j < i → i < j + 1 + d → g (i + 1) = f i) → gsum g 0 (j + 1 + d + 1) = gsum f 0 (j + 1 + d)
  | 0, h1, h2, _ => by
    show gsum g 0 j + g (0 + j) + g (0 + (j + 1)) = gsum f 0 j + f (0 + j)
    rw [gsum_congr (f := g) (g := f) 0 j (fun i _ y => h1 i (by omega)), Nat.zero_add, Nat.zero_add]
    omega
  | d + 1, h1, h2, h3 => by
    show gsum g 0 (j + 1 + d + 1) + g (0 + (j + 1 + d + 1)) = gsum f 0 (j + 1 + d) + f (0 + (j + 1 + d))
    rw [qs_ins d h1 h2 (fun i x y => h3 i x (by omega)), Nat.zero_add, Nat.zero_add, h3 (j + 1 + d) (by omega) (by omega)]
theorem qs_ins' {f g : Nat → Int} {j n : Nat} (hj : j < n) (h1 : ∀ i, i < j → g i = f i) (h2 : g j + g (j + 1) = f j) (h3 : ∀ i, j < i → i < n → g (i + 1) = f i) : gsum g 0 (n + 1) = gsum f 0 n := by
  obtain ⟨d, rfl⟩ : ∃ d, n = j + 1 + d := ⟨n - (j + 1), by omega⟩
  exact qs_ins d h1 h2 h3
theorem qs_zero {f : Nat → Int} (a : Nat) : ∀ n : Nat, (∀ i, a ≤ i → i < a + n → f i = 0) → gsum f a n = 0
  | 0, _ => rfl
  | n + 1, h => by rw [gsum, qs_zero a n (fun i x y => h i x (by omega)), h (a + n) (by omega) (by omega)]; rfl
/-- a part of a sum of what isn't below 0 -/
theorem qs_at {f : Nat → Int} (a : Nat) : ∀ n : Nat, (∀ i, a ≤ i → i < a + n → 0 ≤ f i) → 0 ≤ gsum f a n ∧ ∀ i, a ≤ i → i < a + n → f i ≤ gsum f a n
  | 0, _ => ⟨Int.le_refl _, fun i x y => by omega⟩
  | n + 1, h => by
    obtain ⟨h1, h2⟩ := qs_at a n (fun i x y => h i x (by omega))
    have h3 := h (a + n) (by omega) (by omega)
    rw [gsum]
    refine ⟨by omega, fun i x y => ?_⟩
    by_cases e : i = a + n
    · subst e; omega
    · have := h2 i x (by omega); omega
theorem su_g {S : gS} {f i : Nat} {v : Int} {g : Nat} (h : g ≠ f) : su S f i v g = S g := if_neg h
theorem su_s (S : gS) (f i : Nat) : su S f i (S f i) = S := by
  funext g j
  rw [su_f]
  split
  · rename_i h; rw [h.1, h.2]
  · rfl
/-- rows: the shard j of the reference is the object q -/
def qrow (S Y : gS) (j q : Nat) : Prop := (Y 10 q = S 7 j ∧ Y 11 q = S 7 (j + 1) - 1) ∧ (Y 12 q = S 8 j + 1 ∧ Y 13 q = S 9 j + 1) ∧ (S 9 j ≠ -1 → Y 14 q = S 10 j ∧ Y 15 q = S 11 j) ∧ Y 16 q = gcop S j ∧ Y 17 q = gsize S j ∧ Y 18 q = S 12 j
def qT (S : gS) (nm ns : Nat) : Prop := (nm = 0 → ∀ k, S 6 k = 0) ∧ (∀ j, j < ns → S 9 j ≠ -1 → S 9 j ≠ S 8 j) ∧ ∀ m, nm ≤ m → S 2 m = 0
def qS (S : gS) (nm ns : Nat) : Prop := gW1 S ∧ gW2 S ∧ gW0 S ∧ gWS S nm ns ∧ qT S nm ns
def qU (S Y : gS) (nm ns : Nat) : Prop := Y 0 8 = S 0 1 ∧ Y 0 5 = nm ∧ Y 0 9 = S 0 7 ∧ Y 0 13 = S 0 8 ∧ Y 0 10 = S 0 9 ∧ Y 0 11 = S 0 10 ∧ Y 0 7 = ns
def qN (S Y : gS) (nm : Nat) : Prop := gNu Y ∧ (Y 2 0 = 0 ∧ Y 3 0 = 0 ∧ Y 4 0 = 0) ∧ (∀ m, m < nm → Y 2 (m + 1) = S 1 m ∧ Y 3 (m + 1) = 1 - S 2 m) ∧ ∀ z, z ≤ 6 → Y 3 z = 0 ∨ Y 3 z = 1
def qK (S Y : gS) : Prop := (∀ t : Nat, t < 4 → Y 5 t = gbof S t ∧ Y 6 t = S 3 t ∧ Y 7 t = S 4 t) ∧ (∀ k, Y 8 k = S 6 k) ∧ ∀ k, k < 1000 → Y 9 k = if S 6 k = 0 then -1 else S 5 k
def qZ (S Y : gS) (ns : Nat) (s : Nat → Nat) : Prop := (∀ j, j < ns → qrow S Y j (s j)) ∧ (∀ j, ns ≤ j → j < 16 → Y 13 (s j) = 0 ∧ Y 16 (s j) = 0) ∧ ∀ q, 0 ≤ Y 14 q ∧ Y 14 q ≤ 1000
def qG (S Y : gS) : Prop := ∀ m : Nat, m < 6 → Y 4 (m + 1) = gheld S m
def qI (s : Nat → Nat) : Prop := ∀ i j, i < 16 → j < 16 → s i = s j → i = j
def qR (S Y : gS) (s : Nat → Nat) (nm ns : Nat) : Prop := qS S nm ns ∧ qU S Y nm ns ∧ qN S Y nm ∧ qK S Y ∧ qZ S Y ns s ∧ qG S Y
/-- no machine holds more than its room -/
def qM (S : gS) (nm : Nat) : Prop := ∀ m : Nat, m < nm → gheld S m ≤ S 1 m
def qH (S : gS) (ns : Nat) (c : Int) : Prop := (∀ j, j < ns → 0 ≤ S 12 j) ∧ gsum (S 12) 0 ns ≤ c
def q11 (S : gS) : Prop := ∀ i, 0 ≤ S 11 i ∧ S 11 i ≤ 50 * S 0 1
theorem gsize_c {S S' : gS} {j : Nat} (h6 : S' 6 = S 6) (h7 : S' 7 j = S 7 j) (h8 : S' 7 (j + 1) = S 7 (j + 1)) : gsize S' j = gsize S j := by
  unfold gsize; rw [h6, h7, h8]
theorem gcop_c {S S' : gS} {j : Nat} (h6 : S' 6 = S 6) (h7 : S' 7 j = S 7 j) (h9 : S' 9 j = S 9 j) (h10 : S' 10 j = S 10 j) : gcop S' j = gcop S j := by
  unfold gcop; rw [h6, h7, h9, h10]
theorem gheldF_c {S S' : gS} {j : Nat} (m : Int) (h6 : S' 6 = S 6) (h7 : S' 7 = S 7) (e : ∀ f, 8 ≤ f → f ≤ 12 → S' f j = S f j) : gheldF S' m j = gheldF S m j := by
  unfold gheldF
  rw [gsize_c h6 (congrFun h7 _) (congrFun h7 _), gcop_c h6 (congrFun h7 _) (e 9 (by omega) (by omega)) (e 10 (by omega) (by omega)), e 8 (by omega) (by omega), e 9 (by omega) (by omega)]
theorem gheld_n {S : gS} {ns : Nat} (h : S 0 13 = ns) (m : Int) : gheld S m = gsum (gheldF S m) 0 ns := by
  unfold gheld; rw [h, Int.toNat_natCast]
theorem qrow_c {S S' Y Y' : gS} {j q : Nat} (h : qrow S Y j q) (h6 : S' 6 = S 6) (h7 : S' 7 = S 7) (e : ∀ f, 8 ≤ f → f ≤ 12 → S' f j = S f j) (eY : ∀ f, 10 ≤ f → f ≤ 18 → Y' f q = Y f q) : qrow S' Y' j q := by
  obtain ⟨⟨a1, a2⟩, ⟨a3, a4⟩, a5, a6, a7, a8⟩ := h
  unfold qrow
  rw [gsize_c h6 (congrFun h7 _) (congrFun h7 _), gcop_c h6 (congrFun h7 _) (e 9 (by omega) (by omega)) (e 10 (by omega) (by omega)), h7, e 8 (by omega) (by omega), e 9 (by omega) (by omega), e 10 (by omega) (by omega), e 11 (by omega) (by omega), e 12 (by omega) (by omega), eY 10 (by omega) (by omega), eY 11 (by omega) (by omega), eY 12 (by omega) (by omega), eY 13 (by omega) (by omega), eY 14 (by omega) (by omega), eY 15 (by omega) (by omega), eY 16 (by omega) (by omega), eY 17 (by omega) (by omega), eY 18 (by omega) (by omega)]
  exact ⟨⟨a1, a2⟩, ⟨a3, a4⟩, a5, a6, a7, a8⟩
/-- one row changes -/
theorem qZ_step {S S' Y Y' : gS} {s : Nat → Nat} {ns j : Nat} (hi : qI s) (hj : j < ns) (hns : ns ≤ 16) (h6 : S' 6 = S 6) (h7 : S' 7 = S 7) (e : ∀ f i, 8 ≤ f → f ≤ 12 → i ≠ j → S' f i = S f i) (eY : ∀ f q, 10 ≤ f → f ≤ 18 → q ≠ s j → Y' f q = Y f q) (hZ : qZ S Y ns s) (hr : qrow S' Y' j (s j)) (h14 : 0 ≤ Y' 14 (s j) ∧ Y' 14 (s j) ≤ 1000) : qZ S' Y' ns s := by
  obtain ⟨z1, z2, z3⟩ := hZ
  refine ⟨fun i hi2 => ?_, fun i h1 h2 => ?_, fun q => ?_⟩
  · by_cases ej : i = j
    · subst ej; exact hr
    · have hq : s i ≠ s j := fun z => ej (hi i j (by omega) (by omega) z)
      exact qrow_c (z1 i hi2) h6 h7 (fun f a b => e f i a b ej) (fun f a b => eY f _ a b hq)
  · have hq : s i ≠ s j := fun z => by have := hi i j (by omega) (by omega) z; omega
    rw [eY 13 _ (by omega) (by omega) hq, eY 16 _ (by omega) (by omega) hq]
    exact z2 i h1 h2
  · by_cases ej : q = s j
    · rw [ej]; exact h14
    · rw [eY 14 _ (by omega) (by omega) ej]; exact z3 q
theorem qheld_step {S S' : gS} {ns j : Nat} (hj : j < ns) (h0 : S 0 13 = ns) (h0' : S' 0 13 = ns) (h6 : S' 6 = S 6) (h7 : S' 7 = S 7) (e : ∀ f i, 8 ≤ f → f ≤ 12 → i ≠ j → S' f i = S f i) (m : Int) : gheld S' m = gheld S m - gheldF S m j + gheldF S' m j := by
  rw [gheld_n h0, gheld_n h0']
  exact qs_one 0 j ns (fun i _ _ z => gheldF_c m h6 h7 (fun f a b => e f i a b z)) (by omega) (by omega)
theorem qR_thr {S Y : gS} {s : Nat → Nat} {nm ns : Nat} (v : Int) (h : qR S Y s nm ns) : qR (su S 0 0 v) Y s nm ns := h
theorem qM_thr {S : gS} {nm : Nat} (v : Int) (h : qM S nm) : qM (su S 0 0 v) nm := h
theorem qH_thr {S : gS} {ns : Nat} {c : Int} (v : Int) (h : qH S ns c) : qH (su S 0 0 v) ns c := h
