/-! BOTH SIDES: at first -/
theorem squ_g (U : gS) : ∀ (k : Nat) {g : Nat}, g ≠ 3 → squ U k g = U g
  | 0, _, _ => rfl
  | k + 1, g, h => by rw [squ, su_g h, squ_g U k h]
theorem squ_3 (U : gS) : ∀ (k i : Nat), squ U k 3 i = if i < k then 1000 else U 3 i
  | 0, i => by rw [if_neg (by omega)]; rfl
  | k + 1, i => by
    rw [squ, su_f, squ_3 U k]
    by_cases e : i = k
    · rw [if_pos ⟨rfl, e⟩, if_pos (by omega)]
    · rw [if_neg (fun z => e z.2)]
      by_cases e2 : i < k
      · rw [if_pos e2, if_pos (by omega)]
      · rw [if_neg e2, if_neg (by omega)]
theorem qj_init : qJ gS0 gY0 (fun j => j) [] [] 0 1 0 := by
  have f7 : ∀ i, gS0 7 i = if i = 1 then 1000 else 0 := fun i => by
    show va_up (squ (su (fun _ _ => 0) 0 13 1) 4 7) 1 1000 i = _
    rw [squ_g _ 4 (by omega)]; rfl
  have f8 : ∀ i, gS0 8 i = if i = 0 then -1 else 0 := fun i => by
    show va_up (squ (su (fun _ _ => 0) 0 13 1) 4 8) 0 (-1) i = _
    rw [squ_g _ 4 (by omega)]; rfl
  have f9 : ∀ i, gS0 9 i = if i = 0 then -1 else 0 := fun i => by
    show va_up (squ (su (fun _ _ => 0) 0 13 1) 4 9) 0 (-1) i = _
    rw [squ_g _ 4 (by omega)]; rfl
  have f3 : ∀ i, gS0 3 i = if i < 4 then 1000 else 0 := fun i => squ_3 _ 4 i
  have f0 : ∀ i, gS0 0 i = if i = 13 then 1 else 0 := fun i => by
    show squ (su (fun _ _ => 0) 0 13 1) 4 0 i = _
    rw [squ_g _ 4 (by omega)]; rfl
  have fz : ∀ g, g ≠ 0 → g ≠ 3 → g ≠ 7 → g ≠ 8 → g ≠ 9 → ∀ i, gS0 g i = 0 := fun g a b c d e i => by
    unfold gS0
    rw [su_ne (Or.inl c), su_ne (Or.inl e), su_ne (Or.inl d), squ_g _ 4 b, su_ne (Or.inl a)]
  generalize gS0 = S at *
  have f6 := fz 6 (by omega) (by omega) (by omega) (by omega) (by omega)
  have f12 := fz 12 (by omega) (by omega) (by omega) (by omega) (by omega)
  have gb : ∀ t, gbof S t = 0 := fun t => qs_zero 0 1000 (fun i _ _ => by unfold gbofF; rw [f6]; split <;> rfl)
  have sz : ∀ j, gsize S j = 0 := fun j => qs_zero _ _ (fun k _ _ => f6 k)
  have cp : ∀ j, gcop S j = 0 := fun j => by
    unfold gcop; split
    · rfl
    · exact qs_zero _ _ (fun k _ _ => f6 k)
  refine ⟨⟨⟨fun i => ?_, fun i => ?_, ?_, ⟨?_, by omega, ?_, by omega, by omega, ?_, ?_, fun j hj => ?_, fun j hj => ?_⟩, fun _ => f6, fun j hj z => ?_, fun m _ => fz 2 (by omega) (by omega) (by omega) (by omega) (by omega) m⟩, ⟨?_, rfl, ?_, ?_, ?_, ?_, rfl⟩, ⟨fun z _ => rfl, ⟨rfl, rfl, rfl⟩, fun m hm => by omega, fun z _ => Or.inl rfl⟩, ⟨fun t ht => ⟨?_, ?_, ?_⟩, fun k => ?_, fun k hk => ?_⟩, ⟨fun j hj => ?_, fun j _ _ => ⟨rfl, rfl⟩, fun q => ⟨Int.le_refl _, by show (0 : Int) ≤ 1000; omega⟩⟩, fun m _ => ?_⟩, fun i j _ _ e => e, fun m hm => by omega, ⟨fun j _ => by rw [f12]; omega, ?_⟩, fun i => ?_, ⟨fun e he => (nomatch he), fun t ht => ⟨?_, ?_⟩⟩, fun e he => (nomatch he), fun _ => rfl, fun j hj k _ _ => ?_⟩
  · rw [f7, f8, f9, fz 10 (by omega) (by omega) (by omega) (by omega) (by omega)]
    refine ⟨?_, ?_, ?_, by omega⟩ <;> split <;> omega
  · rw [fz 1 (by omega) (by omega) (by omega) (by omega) (by omega), fz 2 (by omega) (by omega) (by omega) (by omega) (by omega), f3, fz 5 (by omega) (by omega) (by omega) (by omega) (by omega), f6]
    refine ⟨by omega, Or.inl rfl, ?_, by omega, by omega⟩
    split <;> omega
  · unfold gW0; rw [f0, f0, f0, if_neg (by omega), if_neg (by omega), if_neg (by omega)]; omega
  · rw [f0, if_neg (by omega)]; rfl
  · rw [f0, if_pos rfl]; rfl
  · rw [f7, if_neg (by omega)]
  · rw [f7, if_pos rfl]
  · have : j = 0 := by omega
    subst this
    rw [f7, f7, if_neg (by omega), if_pos (by omega)]; omega
  · have : j = 0 := by omega
    subst this
    rw [f8, f9, if_pos rfl]
    exact ⟨fun _ => rfl, fun z => by omega, by omega, fun z => absurd rfl z⟩
  · have : j = 0 := by omega
    subst this
    exact absurd (by rw [f9, if_pos rfl]) z
  · rw [f0, if_neg (by omega)]; rfl
  · rw [f0, if_neg (by omega)]; rfl
  · rw [f0, if_neg (by omega)]; rfl
  · rw [f0, if_neg (by omega)]; rfl
  · rw [f0, if_neg (by omega)]; rfl
  · rw [gb]; rfl
  · rw [f3, if_pos ht]; rfl
  · rw [fz 4 (by omega) (by omega) (by omega) (by omega) (by omega)]; rfl
  · rw [f6]; rfl
  · rw [f6, if_pos rfl]
    show (if k < 1000 then (-1 : Int) else 0) = -1
    rw [if_pos hk]
  · have : j = 0 := by omega
    subst this
    refine ⟨⟨?_, ?_⟩, ⟨?_, ?_⟩, fun z => absurd (by rw [f9, if_pos rfl]) z, ?_, ?_, ?_⟩
    · rw [f7, if_neg (by omega)]; rfl
    · rw [f7, if_pos (by omega)]; rfl
    · rw [f8, if_pos rfl]; rfl
    · rw [f9, if_pos rfl]; rfl
    · rw [cp]; rfl
    · rw [sz]; rfl
    · rw [f12]; rfl
  · rw [gheld_0 f6]; rfl
  · have : gsum (S 12) 0 1 = 0 := qs_zero 0 1 (fun i _ _ => f12 i)
    rw [this]; omega
  · rw [fz 11 (by omega) (by omega) (by omega) (by omega) (by omega), f0, if_neg (by omega)]; omega
  · rw [fz 4 (by omega) (by omega) (by omega) (by omega) (by omega)]; rfl
  · rw [gb]; rfl
  · have : j = 0 := by omega
    subst this
    rw [f8, if_pos rfl]; rfl
