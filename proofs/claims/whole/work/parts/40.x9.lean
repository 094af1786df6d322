/-! THE CLASS: its constructor (rows laid by wip/whole/gen/x9.py) -/
theorem gI_newp {h : gH} {k : Nat × Nat} {b x : Nat} : gI (gnew h k) b x = if b = gn h + 1 then 0 else gI h b x := by
  show (if b = gn h + 1 then (fun _ => (0 : Int)) else gI h b) x = _
  split <;> rfl
theorem gR_newp {h : gH} {k : Nat × Nat} {b x : Nat} : gR (gnew h k) b x = if b = gn h + 1 then none else gR h b x := by
  show (if b = gn h + 1 then (fun _ => (none : Option Nat)) else gR h b) x = _
  split <;> rfl
theorem gK_newp {h : gH} {k : Nat × Nat} {b : Nat} : gK (gnew h k) b = if b = gn h + 1 then k else gK h b := rfl
/-- the kinds of the class's first cells -/
def ikd (a : Nat) : Nat × Nat := if a = 1 then (5, 15) else if a = 2 then (2, 4) else if a ≤ 4 then (7, 1000) else if a = 5 then (12, 4) else if a ≤ 9 then (4, 3) else if a = 10 then (10, 6) else if a ≤ 16 then (2, 4) else if a = 17 then (11, 16) else (3, 9)
def icI (i4 a x : Nat) : Int := if a = 2 then (if x = 0 then -1 else 0) else if a = 4 then (if x < i4 then -1 else 0) else if 6 ≤ a ∧ a ≤ 9 then (if x = 1 then 1000 else 0) else if 11 ≤ a ∧ a ≤ 16 then (if x = 0 then (a : Int) - 11 else 0) else if 18 ≤ a then (if x = 1 then 999 else 0) else 0
def icM (m x : Nat) : Option Nat := if x < m then (if x = 0 then some 2 else if x = 1 then some 3 else if x = 2 then some 4 else if x = 3 then some 5 else if x = 4 then some 10 else if x = 6 then some 17 else none) else none
def icR (m kT kM kS a x : Nat) : Option Nat := if a = 1 then icM m x else if a = 5 then (if x < kT then some (6 + x) else none) else if a = 10 then (if x < kM then some (11 + x) else none) else if a = 17 then (if x < kS then some (18 + x) else none) else if 18 ≤ a then (if x = 2 ∨ x = 3 then some 2 else none) else none
/-- the heap while the object is made: n cells -/
def xIn (n i4 m kT kM kS : Nat) (h : gH) : Prop := gn h = n ∧ ∀ a, 1 ≤ a → a ≤ n → gK h a = ikd a ∧ (∀ x, gI h a x = icI i4 a x) ∧ ∀ x, gR h a x = icR m kT kM kS a x

theorem xIn.nw {h : gH} (H : xIn 1 0 0 0 0 0 h) : xIn 2 0 1 0 0 0 (gputR (gputI (gnew h (2, 4)) 2 0 (-1)) 1 0 (some 2)) := by
  obtain ⟨h1, h2⟩ := H
  refine ⟨by show gn h + 1 = _; omega, fun a ha hb => ?_⟩
  by_cases e : a = 2
  · subst e
    refine ⟨?_, fun x => ?_, fun x => ?_⟩
    · first | (simp only [gI_putR, gputI_I, gI_newp, gputR_R, gR_putI, gR_newp, gK_putI, gK_putR, gK_newp, gn_putI, gn_putR, h1, ↓reduceIte, true_and, and_true, false_and, and_false]; done) | (simp only [gI_putR, gputI_I, gI_newp, gputR_R, gR_putI, gR_newp, gK_putI, gK_putR, gK_newp, gn_putI, gn_putR, h1, ↓reduceIte, true_and, and_true, false_and, and_false]; rfl) | skip
      all_goals (simp only [gI_putR, gputI_I, gI_newp, gputR_R, gR_putI, gR_newp, gK_putI, gK_putR, gK_newp, gn_putI, gn_putR, h1, ↓reduceIte, true_and, and_true, false_and, and_false]; unfold ikd; repeat' split)
      all_goals first | rfl | omega | contradiction | (congr 1; omega)
    · simp only [gI_putR, gputI_I, gI_newp, gputR_R, gR_putI, gR_newp, gK_putI, gK_putR, gK_newp, gn_putI, gn_putR, h1, ↓reduceIte, true_and, and_true, false_and, and_false]
      unfold icI
      repeat' split
      all_goals first | rfl | omega | contradiction | (congr 1; omega)
    · simp only [gI_putR, gputI_I, gI_newp, gputR_R, gR_putI, gR_newp, gK_putI, gK_putR, gK_newp, gn_putI, gn_putR, h1, ↓reduceIte, true_and, and_true, false_and, and_false]
      unfold icR icM
      repeat' split
      all_goals first | rfl | omega | contradiction | (congr 1; omega)
  · obtain ⟨k1, k2, k3⟩ := h2 a ha (by omega)
    have e0 : ¬ a = 1 + 1 := by omega
    refine ⟨?_, fun x => ?_, fun x => ?_⟩
    · simp only [gK_putI, gK_putR, gK_newp, h1, if_neg e0]
      exact k1
    · simp only [gI_putR, gputI_I, gI_newp, h1, if_neg e0, e0, e, false_and, if_false]
      exact k2 x
    · simp only [gputR_R, gR_putI, gR_newp, h1, if_neg e0, e0, e, false_and, if_false]
      rw [k3 x]
      by_cases eT : a = 1
      · subst eT
        by_cases ex : x = 0
        · subst ex
          unfold icR icM
          repeat' split
          all_goals first | rfl | omega | contradiction | (congr 1; omega)
        · simp only [ex, and_false, if_false]
          unfold icR icM
          repeat' split
          all_goals first | rfl | omega | contradiction | (congr 1; omega)
      · simp only [eT, false_and, if_false]
        unfold icR
        simp only [if_neg eT]

theorem xIn.a3 {h : gH} (H : xIn 2 0 1 0 0 0 h) : xIn 3 0 2 0 0 0 (gputR (gnew h (7, 1000)) 1 1 (some 3)) := by
  obtain ⟨h1, h2⟩ := H
  refine ⟨by show gn h + 1 = _; omega, fun a ha hb => ?_⟩
  by_cases e : a = 3
  · subst e
    refine ⟨?_, fun x => ?_, fun x => ?_⟩
    · first | (simp only [gI_putR, gputI_I, gI_newp, gputR_R, gR_putI, gR_newp, gK_putI, gK_putR, gK_newp, gn_putI, gn_putR, h1, ↓reduceIte, true_and, and_true, false_and, and_false]; done) | (simp only [gI_putR, gputI_I, gI_newp, gputR_R, gR_putI, gR_newp, gK_putI, gK_putR, gK_newp, gn_putI, gn_putR, h1, ↓reduceIte, true_and, and_true, false_and, and_false]; rfl) | skip
      all_goals (simp only [gI_putR, gputI_I, gI_newp, gputR_R, gR_putI, gR_newp, gK_putI, gK_putR, gK_newp, gn_putI, gn_putR, h1, ↓reduceIte, true_and, and_true, false_and, and_false]; unfold ikd; repeat' split)
      all_goals first | rfl | omega | contradiction | (congr 1; omega)
    · simp only [gI_putR, gputI_I, gI_newp, gputR_R, gR_putI, gR_newp, gK_putI, gK_putR, gK_newp, gn_putI, gn_putR, h1, ↓reduceIte, true_and, and_true, false_and, and_false]
      unfold icI
      repeat' split
      all_goals first | rfl | omega | contradiction | (congr 1; omega)
    · simp only [gI_putR, gputI_I, gI_newp, gputR_R, gR_putI, gR_newp, gK_putI, gK_putR, gK_newp, gn_putI, gn_putR, h1, ↓reduceIte, true_and, and_true, false_and, and_false]
      unfold icR icM
      repeat' split
      all_goals first | rfl | omega | contradiction | (congr 1; omega)
  · obtain ⟨k1, k2, k3⟩ := h2 a ha (by omega)
    have e0 : ¬ a = 2 + 1 := by omega
    refine ⟨?_, fun x => ?_, fun x => ?_⟩
    · simp only [gK_putI, gK_putR, gK_newp, h1, if_neg e0]
      exact k1
    · simp only [gI_putR, gputI_I, gI_newp, h1, if_neg e0, e0, e, false_and, if_false]
      exact k2 x
    · simp only [gputR_R, gR_putI, gR_newp, h1, if_neg e0, e0, e, false_and, if_false]
      rw [k3 x]
      by_cases eT : a = 1
      · subst eT
        by_cases ex : x = 1
        · subst ex
          unfold icR icM
          repeat' split
          all_goals first | rfl | omega | contradiction | (congr 1; omega)
        · simp only [ex, and_false, if_false]
          unfold icR icM
          repeat' split
          all_goals first | rfl | omega | contradiction | (congr 1; omega)
      · simp only [eT, false_and, if_false]
        unfold icR
        simp only [if_neg eT]

theorem xIn.a4 {h : gH} (H : xIn 3 0 2 0 0 0 h) : xIn 4 0 3 0 0 0 (gputR (gnew h (7, 1000)) 1 2 (some 4)) := by
  obtain ⟨h1, h2⟩ := H
  refine ⟨by show gn h + 1 = _; omega, fun a ha hb => ?_⟩
  by_cases e : a = 4
  · subst e
    refine ⟨?_, fun x => ?_, fun x => ?_⟩
    · first | (simp only [gI_putR, gputI_I, gI_newp, gputR_R, gR_putI, gR_newp, gK_putI, gK_putR, gK_newp, gn_putI, gn_putR, h1, ↓reduceIte, true_and, and_true, false_and, and_false]; done) | (simp only [gI_putR, gputI_I, gI_newp, gputR_R, gR_putI, gR_newp, gK_putI, gK_putR, gK_newp, gn_putI, gn_putR, h1, ↓reduceIte, true_and, and_true, false_and, and_false]; rfl) | skip
      all_goals (simp only [gI_putR, gputI_I, gI_newp, gputR_R, gR_putI, gR_newp, gK_putI, gK_putR, gK_newp, gn_putI, gn_putR, h1, ↓reduceIte, true_and, and_true, false_and, and_false]; unfold ikd; repeat' split)
      all_goals first | rfl | omega | contradiction | (congr 1; omega)
    · simp only [gI_putR, gputI_I, gI_newp, gputR_R, gR_putI, gR_newp, gK_putI, gK_putR, gK_newp, gn_putI, gn_putR, h1, ↓reduceIte, true_and, and_true, false_and, and_false]
      unfold icI
      repeat' split
      all_goals first | rfl | omega | contradiction | (congr 1; omega)
    · simp only [gI_putR, gputI_I, gI_newp, gputR_R, gR_putI, gR_newp, gK_putI, gK_putR, gK_newp, gn_putI, gn_putR, h1, ↓reduceIte, true_and, and_true, false_and, and_false]
      unfold icR icM
      repeat' split
      all_goals first | rfl | omega | contradiction | (congr 1; omega)
  · obtain ⟨k1, k2, k3⟩ := h2 a ha (by omega)
    have e0 : ¬ a = 3 + 1 := by omega
    refine ⟨?_, fun x => ?_, fun x => ?_⟩
    · simp only [gK_putI, gK_putR, gK_newp, h1, if_neg e0]
      exact k1
    · simp only [gI_putR, gputI_I, gI_newp, h1, if_neg e0, e0, e, false_and, if_false]
      exact k2 x
    · simp only [gputR_R, gR_putI, gR_newp, h1, if_neg e0, e0, e, false_and, if_false]
      rw [k3 x]
      by_cases eT : a = 1
      · subst eT
        by_cases ex : x = 2
        · subst ex
          unfold icR icM
          repeat' split
          all_goals first | rfl | omega | contradiction | (congr 1; omega)
        · simp only [ex, and_false, if_false]
          unfold icR icM
          repeat' split
          all_goals first | rfl | omega | contradiction | (congr 1; omega)
      · simp only [eT, false_and, if_false]
        unfold icR
        simp only [if_neg eT]

theorem xIn.st {h : gH} {i : Nat} (hi : i < 1000) (H : xIn 4 i 3 0 0 0 h) : xIn 4 (i + 1) 3 0 0 0 (gputI h 4 i (-1)) := by
  obtain ⟨h1, h2⟩ := H
  refine ⟨h1, fun a ha hb => ?_⟩
  obtain ⟨k1, k2, k3⟩ := h2 a ha hb
  refine ⟨k1, fun x => ?_, k3⟩
  rw [gputI_I, k2 x]
  unfold icI
  by_cases e : a = 4
  · subst e
    repeat' split
    all_goals first | rfl | omega | contradiction | (congr 1; omega)
  · simp only [e, false_and, if_false]

theorem xIn.a5 {h : gH} (H : xIn 4 1000 3 0 0 0 h) : xIn 5 1000 4 0 0 0 (gputR (gnew h (12, 4)) 1 3 (some 5)) := by
  obtain ⟨h1, h2⟩ := H
  refine ⟨by show gn h + 1 = _; omega, fun a ha hb => ?_⟩
  by_cases e : a = 5
  · subst e
    refine ⟨?_, fun x => ?_, fun x => ?_⟩
    · first | (simp only [gI_putR, gputI_I, gI_newp, gputR_R, gR_putI, gR_newp, gK_putI, gK_putR, gK_newp, gn_putI, gn_putR, h1, ↓reduceIte, true_and, and_true, false_and, and_false]; done) | (simp only [gI_putR, gputI_I, gI_newp, gputR_R, gR_putI, gR_newp, gK_putI, gK_putR, gK_newp, gn_putI, gn_putR, h1, ↓reduceIte, true_and, and_true, false_and, and_false]; rfl) | skip
      all_goals (simp only [gI_putR, gputI_I, gI_newp, gputR_R, gR_putI, gR_newp, gK_putI, gK_putR, gK_newp, gn_putI, gn_putR, h1, ↓reduceIte, true_and, and_true, false_and, and_false]; unfold ikd; repeat' split)
      all_goals first | rfl | omega | contradiction | (congr 1; omega)
    · simp only [gI_putR, gputI_I, gI_newp, gputR_R, gR_putI, gR_newp, gK_putI, gK_putR, gK_newp, gn_putI, gn_putR, h1, ↓reduceIte, true_and, and_true, false_and, and_false]
      unfold icI
      repeat' split
      all_goals first | rfl | omega | contradiction | (congr 1; omega)
    · simp only [gI_putR, gputI_I, gI_newp, gputR_R, gR_putI, gR_newp, gK_putI, gK_putR, gK_newp, gn_putI, gn_putR, h1, ↓reduceIte, true_and, and_true, false_and, and_false]
      unfold icR icM
      repeat' split
      all_goals first | rfl | omega | contradiction | (congr 1; omega)
  · obtain ⟨k1, k2, k3⟩ := h2 a ha (by omega)
    have e0 : ¬ a = 4 + 1 := by omega
    refine ⟨?_, fun x => ?_, fun x => ?_⟩
    · simp only [gK_putI, gK_putR, gK_newp, h1, if_neg e0]
      exact k1
    · simp only [gI_putR, gputI_I, gI_newp, h1, if_neg e0, e0, e, false_and, if_false]
      exact k2 x
    · simp only [gputR_R, gR_putI, gR_newp, h1, if_neg e0, e0, e, false_and, if_false]
      rw [k3 x]
      by_cases eT : a = 1
      · subst eT
        by_cases ex : x = 3
        · subst ex
          unfold icR icM
          repeat' split
          all_goals first | rfl | omega | contradiction | (congr 1; omega)
        · simp only [ex, and_false, if_false]
          unfold icR icM
          repeat' split
          all_goals first | rfl | omega | contradiction | (congr 1; omega)
      · simp only [eT, false_and, if_false]
        unfold icR
        simp only [if_neg eT]

theorem xIn.t {h : gH} {i : Nat} (hi : i < 4) (H : xIn (5 + i) 1000 4 i 0 0 h) : xIn (5 + i + 1) 1000 4 (i + 1) 0 0 (gputR (gputI (gnew h (4, 3)) (5 + i + 1) 1 1000) 5 i (some (5 + i + 1))) := by
  obtain ⟨h1, h2⟩ := H
  refine ⟨by show gn h + 1 = _; omega, fun a ha hb => ?_⟩
  by_cases e : a = (5 + i + 1)
  · subst e
    refine ⟨?_, fun x => ?_, fun x => ?_⟩
    · first | (simp only [gI_putR, gputI_I, gI_newp, gputR_R, gR_putI, gR_newp, gK_putI, gK_putR, gK_newp, gn_putI, gn_putR, h1, ↓reduceIte, true_and, and_true, false_and, and_false]; done) | (simp only [gI_putR, gputI_I, gI_newp, gputR_R, gR_putI, gR_newp, gK_putI, gK_putR, gK_newp, gn_putI, gn_putR, h1, ↓reduceIte, true_and, and_true, false_and, and_false]; rfl) | skip
      all_goals (simp only [gI_putR, gputI_I, gI_newp, gputR_R, gR_putI, gR_newp, gK_putI, gK_putR, gK_newp, gn_putI, gn_putR, h1, ↓reduceIte, true_and, and_true, false_and, and_false]; unfold ikd; repeat' split)
      all_goals first | rfl | omega | contradiction | (congr 1; omega)
    · simp only [gI_putR, gputI_I, gI_newp, gputR_R, gR_putI, gR_newp, gK_putI, gK_putR, gK_newp, gn_putI, gn_putR, h1, ↓reduceIte, true_and, and_true, false_and, and_false]
      unfold icI
      repeat' split
      all_goals first | rfl | omega | contradiction | (congr 1; omega)
    · simp only [gI_putR, gputI_I, gI_newp, gputR_R, gR_putI, gR_newp, gK_putI, gK_putR, gK_newp, gn_putI, gn_putR, h1, ↓reduceIte, true_and, and_true, false_and, and_false]
      unfold icR icM
      repeat' split
      all_goals first | rfl | omega | contradiction | (congr 1; omega)
  · obtain ⟨k1, k2, k3⟩ := h2 a ha (by omega)
    have e0 : ¬ a = 5 + i + 1 := by omega
    refine ⟨?_, fun x => ?_, fun x => ?_⟩
    · simp only [gK_putI, gK_putR, gK_newp, h1, if_neg e0]
      exact k1
    · simp only [gI_putR, gputI_I, gI_newp, h1, if_neg e0, e0, e, false_and, if_false]
      exact k2 x
    · simp only [gputR_R, gR_putI, gR_newp, h1, if_neg e0, e0, e, false_and, if_false]
      rw [k3 x]
      by_cases eT : a = 5
      · subst eT
        by_cases ex : x = i
        · subst ex
          unfold icR icM
          repeat' split
          all_goals first | rfl | omega | contradiction | (congr 1; omega)
        · simp only [ex, and_false, if_false]
          unfold icR icM
          repeat' split
          all_goals first | rfl | omega | contradiction | (congr 1; omega)
      · simp only [eT, false_and, if_false]
        unfold icR
        simp only [if_neg eT]

theorem xIn.a10 {h : gH} (H : xIn 9 1000 4 4 0 0 h) : xIn 10 1000 5 4 0 0 (gputR (gnew h (10, 6)) 1 4 (some 10)) := by
  obtain ⟨h1, h2⟩ := H
  refine ⟨by show gn h + 1 = _; omega, fun a ha hb => ?_⟩
  by_cases e : a = 10
  · subst e
    refine ⟨?_, fun x => ?_, fun x => ?_⟩
    · first | (simp only [gI_putR, gputI_I, gI_newp, gputR_R, gR_putI, gR_newp, gK_putI, gK_putR, gK_newp, gn_putI, gn_putR, h1, ↓reduceIte, true_and, and_true, false_and, and_false]; done) | (simp only [gI_putR, gputI_I, gI_newp, gputR_R, gR_putI, gR_newp, gK_putI, gK_putR, gK_newp, gn_putI, gn_putR, h1, ↓reduceIte, true_and, and_true, false_and, and_false]; rfl) | skip
      all_goals (simp only [gI_putR, gputI_I, gI_newp, gputR_R, gR_putI, gR_newp, gK_putI, gK_putR, gK_newp, gn_putI, gn_putR, h1, ↓reduceIte, true_and, and_true, false_and, and_false]; unfold ikd; repeat' split)
      all_goals first | rfl | omega | contradiction | (congr 1; omega)
    · simp only [gI_putR, gputI_I, gI_newp, gputR_R, gR_putI, gR_newp, gK_putI, gK_putR, gK_newp, gn_putI, gn_putR, h1, ↓reduceIte, true_and, and_true, false_and, and_false]
      unfold icI
      repeat' split
      all_goals first | rfl | omega | contradiction | (congr 1; omega)
    · simp only [gI_putR, gputI_I, gI_newp, gputR_R, gR_putI, gR_newp, gK_putI, gK_putR, gK_newp, gn_putI, gn_putR, h1, ↓reduceIte, true_and, and_true, false_and, and_false]
      unfold icR icM
      repeat' split
      all_goals first | rfl | omega | contradiction | (congr 1; omega)
  · obtain ⟨k1, k2, k3⟩ := h2 a ha (by omega)
    have e0 : ¬ a = 9 + 1 := by omega
    refine ⟨?_, fun x => ?_, fun x => ?_⟩
    · simp only [gK_putI, gK_putR, gK_newp, h1, if_neg e0]
      exact k1
    · simp only [gI_putR, gputI_I, gI_newp, h1, if_neg e0, e0, e, false_and, if_false]
      exact k2 x
    · simp only [gputR_R, gR_putI, gR_newp, h1, if_neg e0, e0, e, false_and, if_false]
      rw [k3 x]
      by_cases eT : a = 1
      · subst eT
        by_cases ex : x = 4
        · subst ex
          unfold icR icM
          repeat' split
          all_goals first | rfl | omega | contradiction | (congr 1; omega)
        · simp only [ex, and_false, if_false]
          unfold icR icM
          repeat' split
          all_goals first | rfl | omega | contradiction | (congr 1; omega)
      · simp only [eT, false_and, if_false]
        unfold icR
        simp only [if_neg eT]

theorem xIn.m {h : gH} {i : Nat} (hi : i < 6) (H : xIn (10 + i) 1000 5 4 i 0 h) : xIn (10 + i + 1) 1000 5 4 (i + 1) 0 (gputR (gputI (gnew h (2, 4)) (10 + i + 1) 0 (i : Int)) 10 i (some (10 + i + 1))) := by
  obtain ⟨h1, h2⟩ := H
  refine ⟨by show gn h + 1 = _; omega, fun a ha hb => ?_⟩
  by_cases e : a = (10 + i + 1)
  · subst e
    refine ⟨?_, fun x => ?_, fun x => ?_⟩
    · first | (simp only [gI_putR, gputI_I, gI_newp, gputR_R, gR_putI, gR_newp, gK_putI, gK_putR, gK_newp, gn_putI, gn_putR, h1, ↓reduceIte, true_and, and_true, false_and, and_false]; done) | (simp only [gI_putR, gputI_I, gI_newp, gputR_R, gR_putI, gR_newp, gK_putI, gK_putR, gK_newp, gn_putI, gn_putR, h1, ↓reduceIte, true_and, and_true, false_and, and_false]; rfl) | skip
      all_goals (simp only [gI_putR, gputI_I, gI_newp, gputR_R, gR_putI, gR_newp, gK_putI, gK_putR, gK_newp, gn_putI, gn_putR, h1, ↓reduceIte, true_and, and_true, false_and, and_false]; unfold ikd; repeat' split)
      all_goals first | rfl | omega | contradiction | (congr 1; omega)
    · simp only [gI_putR, gputI_I, gI_newp, gputR_R, gR_putI, gR_newp, gK_putI, gK_putR, gK_newp, gn_putI, gn_putR, h1, ↓reduceIte, true_and, and_true, false_and, and_false]
      unfold icI
      repeat' split
      all_goals first | rfl | omega | contradiction | (congr 1; omega)
    · simp only [gI_putR, gputI_I, gI_newp, gputR_R, gR_putI, gR_newp, gK_putI, gK_putR, gK_newp, gn_putI, gn_putR, h1, ↓reduceIte, true_and, and_true, false_and, and_false]
      unfold icR icM
      repeat' split
      all_goals first | rfl | omega | contradiction | (congr 1; omega)
  · obtain ⟨k1, k2, k3⟩ := h2 a ha (by omega)
    have e0 : ¬ a = 10 + i + 1 := by omega
    refine ⟨?_, fun x => ?_, fun x => ?_⟩
    · simp only [gK_putI, gK_putR, gK_newp, h1, if_neg e0]
      exact k1
    · simp only [gI_putR, gputI_I, gI_newp, h1, if_neg e0, e0, e, false_and, if_false]
      exact k2 x
    · simp only [gputR_R, gR_putI, gR_newp, h1, if_neg e0, e0, e, false_and, if_false]
      rw [k3 x]
      by_cases eT : a = 10
      · subst eT
        by_cases ex : x = i
        · subst ex
          unfold icR icM
          repeat' split
          all_goals first | rfl | omega | contradiction | (congr 1; omega)
        · simp only [ex, and_false, if_false]
          unfold icR icM
          repeat' split
          all_goals first | rfl | omega | contradiction | (congr 1; omega)
      · simp only [eT, false_and, if_false]
        unfold icR
        simp only [if_neg eT]

theorem xIn.a17 {h : gH} (H : xIn 16 1000 5 4 6 0 h) : xIn 17 1000 7 4 6 0 (gputR (gnew h (11, 16)) 1 6 (some 17)) := by
  obtain ⟨h1, h2⟩ := H
  refine ⟨by show gn h + 1 = _; omega, fun a ha hb => ?_⟩
  by_cases e : a = 17
  · subst e
    refine ⟨?_, fun x => ?_, fun x => ?_⟩
    · first | (simp only [gI_putR, gputI_I, gI_newp, gputR_R, gR_putI, gR_newp, gK_putI, gK_putR, gK_newp, gn_putI, gn_putR, h1, ↓reduceIte, true_and, and_true, false_and, and_false]; done) | (simp only [gI_putR, gputI_I, gI_newp, gputR_R, gR_putI, gR_newp, gK_putI, gK_putR, gK_newp, gn_putI, gn_putR, h1, ↓reduceIte, true_and, and_true, false_and, and_false]; rfl) | skip
      all_goals (simp only [gI_putR, gputI_I, gI_newp, gputR_R, gR_putI, gR_newp, gK_putI, gK_putR, gK_newp, gn_putI, gn_putR, h1, ↓reduceIte, true_and, and_true, false_and, and_false]; unfold ikd; repeat' split)
      all_goals first | rfl | omega | contradiction | (congr 1; omega)
    · simp only [gI_putR, gputI_I, gI_newp, gputR_R, gR_putI, gR_newp, gK_putI, gK_putR, gK_newp, gn_putI, gn_putR, h1, ↓reduceIte, true_and, and_true, false_and, and_false]
      unfold icI
      repeat' split
      all_goals first | rfl | omega | contradiction | (congr 1; omega)
    · simp only [gI_putR, gputI_I, gI_newp, gputR_R, gR_putI, gR_newp, gK_putI, gK_putR, gK_newp, gn_putI, gn_putR, h1, ↓reduceIte, true_and, and_true, false_and, and_false]
      unfold icR icM
      repeat' split
      all_goals first | rfl | omega | contradiction | (congr 1; omega)
  · obtain ⟨k1, k2, k3⟩ := h2 a ha (by omega)
    have e0 : ¬ a = 16 + 1 := by omega
    refine ⟨?_, fun x => ?_, fun x => ?_⟩
    · simp only [gK_putI, gK_putR, gK_newp, h1, if_neg e0]
      exact k1
    · simp only [gI_putR, gputI_I, gI_newp, h1, if_neg e0, e0, e, false_and, if_false]
      exact k2 x
    · simp only [gputR_R, gR_putI, gR_newp, h1, if_neg e0, e0, e, false_and, if_false]
      rw [k3 x]
      by_cases eT : a = 1
      · subst eT
        by_cases ex : x = 6
        · subst ex
          unfold icR icM
          repeat' split
          all_goals first | rfl | omega | contradiction | (congr 1; omega)
        · simp only [ex, and_false, if_false]
          unfold icR icM
          repeat' split
          all_goals first | rfl | omega | contradiction | (congr 1; omega)
      · simp only [eT, false_and, if_false]
        unfold icR
        simp only [if_neg eT]

theorem xIn.s {h : gH} {i : Nat} (hi : i < 16) (H : xIn (17 + i) 1000 7 4 6 i h) : xIn (17 + i + 1) 1000 7 4 6 (i + 1) (gputR (gputR (gputR (gputI (gnew h (3, 9)) (17 + i + 1) 1 999) (17 + i + 1) 2 (some 2)) (17 + i + 1) 3 (some 2)) 17 i (some (17 + i + 1))) := by
  obtain ⟨h1, h2⟩ := H
  refine ⟨by show gn h + 1 = _; omega, fun a ha hb => ?_⟩
  by_cases e : a = (17 + i + 1)
  · subst e
    refine ⟨?_, fun x => ?_, fun x => ?_⟩
    · first | (simp only [gI_putR, gputI_I, gI_newp, gputR_R, gR_putI, gR_newp, gK_putI, gK_putR, gK_newp, gn_putI, gn_putR, h1, ↓reduceIte, true_and, and_true, false_and, and_false]; done) | (simp only [gI_putR, gputI_I, gI_newp, gputR_R, gR_putI, gR_newp, gK_putI, gK_putR, gK_newp, gn_putI, gn_putR, h1, ↓reduceIte, true_and, and_true, false_and, and_false]; rfl) | skip
      all_goals (simp only [gI_putR, gputI_I, gI_newp, gputR_R, gR_putI, gR_newp, gK_putI, gK_putR, gK_newp, gn_putI, gn_putR, h1, ↓reduceIte, true_and, and_true, false_and, and_false]; unfold ikd; repeat' split)
      all_goals first | rfl | omega | contradiction | (congr 1; omega)
    · simp only [gI_putR, gputI_I, gI_newp, gputR_R, gR_putI, gR_newp, gK_putI, gK_putR, gK_newp, gn_putI, gn_putR, h1, ↓reduceIte, true_and, and_true, false_and, and_false]
      unfold icI
      repeat' split
      all_goals first | rfl | omega | contradiction | (congr 1; omega)
    · simp only [gI_putR, gputI_I, gI_newp, gputR_R, gR_putI, gR_newp, gK_putI, gK_putR, gK_newp, gn_putI, gn_putR, h1, ↓reduceIte, true_and, and_true, false_and, and_false]
      unfold icR icM
      repeat' split
      all_goals first | rfl | omega | contradiction | (congr 1; omega)
  · obtain ⟨k1, k2, k3⟩ := h2 a ha (by omega)
    have e0 : ¬ a = 17 + i + 1 := by omega
    refine ⟨?_, fun x => ?_, fun x => ?_⟩
    · simp only [gK_putI, gK_putR, gK_newp, h1, if_neg e0]
      exact k1
    · simp only [gI_putR, gputI_I, gI_newp, h1, if_neg e0, e0, e, false_and, if_false]
      exact k2 x
    · simp only [gputR_R, gR_putI, gR_newp, h1, if_neg e0, e0, e, false_and, if_false]
      rw [k3 x]
      by_cases eT : a = 17
      · subst eT
        by_cases ex : x = i
        · subst ex
          unfold icR icM
          repeat' split
          all_goals first | rfl | omega | contradiction | (congr 1; omega)
        · simp only [ex, and_false, if_false]
          unfold icR icM
          repeat' split
          all_goals first | rfl | omega | contradiction | (congr 1; omega)
      · simp only [eT, false_and, if_false]
        unfold icR
        simp only [if_neg eT]

/-- the first state -/
def gY0 : gS := fun f i => if f = 0 then (if i = 7 then 1 else 0) else if f = 1 then (i : Int) - 1 else if f = 6 then 1000 else if f = 9 then (if i < 1000 then -1 else 0) else if f = 11 then 999 else 0
theorem xIn.fin {h : gH} (H : xIn 33 1000 7 4 6 16 h) : RX gY0 (fun j => j) [] [] (gputI h 1 7 1) := by
  obtain ⟨h1, h2⟩ := H
  have hK : ∀ a, 1 ≤ a → a ≤ 33 → gK (gputI h 1 7 1) a = ikd a := fun a ha hb => (h2 a ha hb).1
  have hR : ∀ a, 1 ≤ a → a ≤ 33 → ∀ x, gR (gputI h 1 7 1) a x = icR 7 4 6 16 a x := fun a ha hb => (h2 a ha hb).2.2
  have hI : ∀ a, 1 ≤ a → a ≤ 33 → ∀ x, gI (gputI h 1 7 1) a x = if a = 1 ∧ x = 7 then 1 else icI 1000 a x := fun a ha hb x => by rw [gputI_I, (h2 a ha hb).2.1]
  have hg : ∀ z, z ≤ 6 → 1 ≤ gma z ∧ gma z ≤ 33 ∧ ((z = 0 ∧ gma z = 2) ∨ (1 ≤ z ∧ gma z = 10 + z)) := fun z hz => by unfold gma; split <;> omega
  refine ⟨by show 33 ≤ gn h; omega, ⟨hK 1 (by omega) (by omega), fun z hz => ?_, hK 3 (by omega) (by omega), hK 4 (by omega) (by omega), hK 5 (by omega) (by omega), fun t ht => ?_, hK 10 (by omega) (by omega), hK 17 (by omega) (by omega), fun q hq => ?_⟩, ⟨⟨hR 1 (by omega) (by omega) _, hR 1 (by omega) (by omega) _, hR 1 (by omega) (by omega) _, hR 1 (by omega) (by omega) _, hR 1 (by omega) (by omega) _, hR 1 (by omega) (by omega) _⟩, fun t ht => ?_, fun i hi => ?_, fun j hj => ⟨hj, ?_⟩⟩, ⟨funext fun x => ?_, funext fun x => ?_, funext fun x => ?_, fun t ht i hi => ?_, fun z hz i hi => ?_, fun q hq i hi n2 n3 => ?_, fun q hq i hi => ⟨?_, ?_⟩⟩, hR 1 (by omega) (by omega) _, hR 1 (by omega) (by omega) _⟩
  · obtain ⟨a1, a2, a3⟩ := hg z hz
    rw [hK _ a1 a2]
    unfold ikd
    repeat' split
    all_goals first | rfl | omega | contradiction
  · rw [hK _ (by omega) (by omega)]
    unfold ikd
    repeat' split
    all_goals first | rfl | omega | contradiction
  · rw [hK _ (by omega) (by omega)]
    unfold ikd
    repeat' split
    all_goals first | rfl | omega | contradiction
  · rw [hR 5 (by omega) (by omega), icR, if_neg (by omega), if_pos rfl, if_pos ht]
  · rw [hR 10 (by omega) (by omega), icR, if_neg (by omega), if_neg (by omega), if_pos rfl, if_pos hi]
  · rw [hR 17 (by omega) (by omega), icR, if_neg (by omega), if_neg (by omega), if_neg (by omega), if_pos rfl, if_pos hj]
  · rw [hI 1 (by omega) (by omega)]
    unfold gY0 icI
    repeat' split
    all_goals first | rfl | omega | contradiction
  · rw [hI 3 (by omega) (by omega)]
    unfold gY0 icI
    repeat' split
    all_goals first | rfl | omega | contradiction
  · rw [hI 4 (by omega) (by omega)]
    unfold gY0 icI
    repeat' split
    all_goals first | rfl | omega | contradiction
  · rw [hI _ (by omega) (by omega)]
    unfold gY0 icI
    repeat' split
    all_goals first | rfl | omega | contradiction
  · obtain ⟨a1, a2, a3⟩ := hg z hz
    rw [hI _ a1 a2]
    unfold gY0 icI
    repeat' split
    all_goals first | rfl | omega | contradiction
  · rw [hI _ (by omega) (by omega)]
    unfold gY0 icI
    repeat' split
    all_goals first | rfl | omega | contradiction
  · unfold gY0
    repeat' split
    all_goals omega
  · rw [hR _ (by omega) (by omega)]
    have e : gY0 (10 + i) q = 0 := by
      unfold gY0
      repeat' split
      all_goals first | rfl | omega | contradiction
    rw [e, icR, if_neg (by omega), if_neg (by omega), if_neg (by omega), if_neg (by omega), if_pos (by omega), if_pos hi]
    rfl
