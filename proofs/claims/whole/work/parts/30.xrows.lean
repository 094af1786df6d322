/-! THE CLASS: its heap as a state Y (Y 0 its numbers; machines z: Y 1 number, Y 2 room, Y 3 up, Y 4 held, z = 0 nowhere; tenants: Y 5 bytes, Y 6 quota, Y 7 bill; keys: Y 8 bytes, Y 9 tenant; shards q: Y 10 first, 11 last, 12 home, 13 target, 14 next, 15 may copy, 16 copied, 17 bytes, 18 heat), the row s of the shards, the logs A (changes) and B (cut overs) -/
def gma (z : Nat) : Nat := if z = 0 then 2 else 10 + z
theorem gma_inj {a b : Nat} (ha : a ≤ 6) (hb : b ≤ 6) (h : gma a = gma b) : a = b := by
  unfold gma at h
  split at h <;> split at h <;> omega
theorem gma_lt {a : Nat} (ha : a ≤ 6) : gma a = 2 ∨ (11 ≤ gma a ∧ gma a ≤ 16) := by
  unfold gma
  split <;> omega
/-- a change: hour, tenant and bytes before, tenant and bytes behind -/
abbrev gCE : Type := Int × Int × Int × Int × Int
/-- a cut over: first, last, machine -/
abbrev gOE : Type := Int × Int × Int
def gchA (h : gH) : Option Nat → List gCE → Prop
  | o, [] => o = none
  | o, e :: t => ∃ c, o = some c ∧ 34 ≤ c ∧ c ≤ gn h ∧ gK h c = (0, 6) ∧ gI h c 0 = e.1 ∧ gI h c 2 = e.2.1 ∧ gI h c 3 = e.2.2.1 ∧ gI h c 4 = e.2.2.2.1 ∧ gI h c 5 = e.2.2.2.2 ∧ gchA h (gR h c 1) t
def gchB (h : gH) : Option Nat → List gOE → Prop
  | o, [] => o = none
  | o, e :: t => ∃ c, o = some c ∧ 34 ≤ c ∧ c ≤ gn h ∧ gK h c = (1, 4) ∧ gI h c 0 = e.1 ∧ gI h c 1 = e.2.1 ∧ gI h c 2 = e.2.2 ∧ gchB h (gR h c 3) t
/-- from 34 on, what was there stays -/
def FrX (h h' : gH) : Prop := gn h ≤ gn h' ∧ ∀ a, 34 ≤ a → a ≤ gn h → gK h' a = gK h a ∧ gI h' a = gI h a ∧ gR h' a = gR h a ∧ gJ h' a = gJ h a
theorem FrX.rf (h : gH) : FrX h h := ⟨Nat.le_refl _, fun _ _ _ => ⟨rfl, rfl, rfl, rfl⟩⟩
theorem FrX.tr {h1 h2 h3 : gH} (a : FrX h1 h2) (b : FrX h2 h3) : FrX h1 h3 := ⟨Nat.le_trans a.1 b.1, fun q h4 h5 => by
  obtain ⟨x1, x2, x3, x4⟩ := a.2 q h4 h5
  obtain ⟨y1, y2, y3, y4⟩ := b.2 q h4 (Nat.le_trans h5 a.1)
  exact ⟨y1.trans x1, y2.trans x2, y3.trans x3, y4.trans x4⟩⟩
theorem gchA.fr {h h' : gH} (F : FrX h h') : ∀ (A : List gCE) (o : Option Nat), gchA h o A → gchA h' o A
  | [], _, hc => hc
  | _ :: t, _, ⟨c, e1, e2, e3, e4, e5, e6, e7, e8, e9, e10⟩ => by
    obtain ⟨x1, x2, x3, -⟩ := F.2 c e2 e3
    refine ⟨c, e1, e2, Nat.le_trans e3 F.1, by rw [x1]; exact e4, by rw [x2]; exact e5, by rw [x2]; exact e6, by rw [x2]; exact e7, by rw [x2]; exact e8, by rw [x2]; exact e9, ?_⟩
    rw [x3]
    exact gchA.fr F t _ e10
theorem gchB.fr {h h' : gH} (F : FrX h h') : ∀ (A : List gOE) (o : Option Nat), gchB h o A → gchB h' o A
  | [], _, hc => hc
  | _ :: t, _, ⟨c, e1, e2, e3, e4, e5, e6, e7, e10⟩ => by
    obtain ⟨x1, x2, x3, -⟩ := F.2 c e2 e3
    refine ⟨c, e1, e2, Nat.le_trans e3 F.1, by rw [x1]; exact e4, by rw [x2]; exact e5, by rw [x2]; exact e6, by rw [x2]; exact e7, ?_⟩
    rw [x3]
    exact gchB.fr F t _ e10
/-- where the class's cells lie -/
def RXK (h : gH) : Prop := gK h 1 = (5, 15) ∧ (∀ z, z ≤ 6 → gK h (gma z) = (2, 4)) ∧ gK h 3 = (7, 1000) ∧ gK h 4 = (7, 1000) ∧ gK h 5 = (12, 4) ∧ (∀ t, t < 4 → gK h (6 + t) = (4, 3)) ∧ gK h 10 = (10, 6) ∧ gK h 17 = (11, 16) ∧ ∀ q, q < 16 → gK h (18 + q) = (3, 9)
def RXR (s : Nat → Nat) (h : gH) : Prop := (gR h 1 0 = some 2 ∧ gR h 1 1 = some 3 ∧ gR h 1 2 = some 4 ∧ gR h 1 3 = some 5 ∧ gR h 1 4 = some 10 ∧ gR h 1 6 = some 17) ∧ (∀ t, t < 4 → gR h 5 t = some (6 + t)) ∧ (∀ i, i < 6 → gR h 10 i = some (11 + i)) ∧ ∀ j, j < 16 → s j < 16 ∧ gR h 17 j = some (18 + s j)
def RXI (Y : gS) (h : gH) : Prop := gI h 1 = Y 0 ∧ gI h 3 = Y 8 ∧ gI h 4 = Y 9 ∧ (∀ t, t < 4 → ∀ i, i < 3 → gI h (6 + t) i = Y (5 + i) t) ∧ (∀ z, z ≤ 6 → ∀ i, i < 4 → gI h (gma z) i = Y (1 + i) z) ∧ (∀ q, q < 16 → ∀ i, i < 9 → i ≠ 2 → i ≠ 3 → gI h (18 + q) i = Y (10 + i) q) ∧
  ∀ q, q < 16 → ∀ i, i = 2 ∨ i = 3 → (0 ≤ Y (10 + i) q ∧ Y (10 + i) q ≤ 6) ∧ gR h (18 + q) i = some (gma (Y (10 + i) q).toNat)
def RX (Y : gS) (s : Nat → Nat) (A : List gCE) (B : List gOE) (h : gH) : Prop := 33 ≤ gn h ∧ RXK h ∧ RXR s h ∧ RXI Y h ∧ gchA h (gR h 1 12) A ∧ gchB h (gR h 1 14) B
theorem gputI_I {h : gH} {a i : Nat} {v : Int} {b j : Nat} : gI (gputI h a i v) b j = if b = a ∧ j = i then v else gI h b j := by
  rw [gI_putI]
  by_cases e : b = a
  · subst e
    rw [if_pos rfl]
    unfold va_up
    by_cases e2 : j = i
    · rw [if_pos e2, if_pos ⟨rfl, e2⟩]
    · rw [if_neg e2, if_neg (fun z => e2 z.2)]
  · rw [if_neg e, if_neg (fun z => e z.1)]
theorem gputR_R {h : gH} {a i : Nat} {v : Option Nat} {b j : Nat} : gR (gputR h a i v) b j = if b = a ∧ j = i then v else gR h b j := by
  rw [gR_putR]
  by_cases e : b = a
  · subst e
    rw [if_pos rfl]
    unfold va_up
    by_cases e2 : j = i
    · rw [if_pos e2, if_pos ⟨rfl, e2⟩]
    · rw [if_neg e2, if_neg (fun z => e2 z.2)]
  · rw [if_neg e, if_neg (fun z => e z.1)]
theorem su_f {S : gS} {f i : Nat} {v : Int} {g j : Nat} : su S f i v g j = if g = f ∧ j = i then v else S g j := by
  unfold su va_up
  by_cases e : g = f
  · subst e
    rw [if_pos rfl]
    by_cases e2 : j = i
    · rw [if_pos e2, if_pos ⟨rfl, e2⟩]
    · rw [if_neg e2, if_neg (fun z => e2 z.2)]
  · rw [if_neg e, if_neg (fun z => e z.1)]
theorem FrX.putI {h : gH} {a i : Nat} {v : Int} (ha : a ≤ 33) : FrX h (gputI h a i v) := ⟨Nat.le_refl _, fun b h1 h2 => ⟨rfl, by rw [gI_putI, if_neg (by omega)], rfl, rfl⟩⟩
theorem FrX.putR {h : gH} {a i : Nat} {v : Option Nat} (ha : a ≤ 33) : FrX h (gputR h a i v) := ⟨Nat.le_refl _, fun b h1 h2 => ⟨rfl, rfl, by rw [gR_putR, if_neg (by omega)], rfl⟩⟩
section RXputs
variable {Y : gS} {s : Nat → Nat} {A : List gCE} {B : List gOE} {h : gH}
/-- a number of a cell of the class has changed: the state is su Y f j v -/
theorem RX.putI (H : RX Y s A B h) {a i f j : Nat} {v : Int} (ha : a ≤ 33)
    (h1 : ∀ x, (if 1 = a ∧ x = i then v else Y 0 x) = su Y f j v 0 x) (h3 : ∀ x, (if 3 = a ∧ x = i then v else Y 8 x) = su Y f j v 8 x) (h4 : ∀ x, (if 4 = a ∧ x = i then v else Y 9 x) = su Y f j v 9 x)
    (ht : ∀ t, t < 4 → ∀ x, x < 3 → (if 6 + t = a ∧ x = i then v else Y (5 + x) t) = su Y f j v (5 + x) t)
    (hz : ∀ z, z ≤ 6 → ∀ x, x < 4 → (if gma z = a ∧ x = i then v else Y (1 + x) z) = su Y f j v (1 + x) z)
    (hq : ∀ q, q < 16 → ∀ x, x < 9 → x ≠ 2 → x ≠ 3 → (if 18 + q = a ∧ x = i then v else Y (10 + x) q) = su Y f j v (10 + x) q)
    (hr : ∀ q, q < 16 → ∀ x, x = 2 ∨ x = 3 → Y (10 + x) q = su Y f j v (10 + x) q) : RX (su Y f j v) s A B (gputI h a i v) := by
  obtain ⟨g1, g2, g3, ⟨k1, k2, k3, k4, k5, k6, k7⟩, g5, g6⟩ := H
  refine ⟨g1, g2, g3, ⟨funext fun x => ?_, funext fun x => ?_, funext fun x => ?_, fun t h5 x h6 => ?_, fun z h5 x h6 => ?_, fun q h5 x h6 h7 h8 => ?_, fun q h5 x h6 => ?_⟩, gchA.fr (FrX.putI ha) A _ g5, gchB.fr (FrX.putI ha) B _ g6⟩
  · rw [gputI_I, k1]; exact h1 x
  · rw [gputI_I, k2]; exact h3 x
  · rw [gputI_I, k3]; exact h4 x
  · rw [gputI_I, k4 t h5 x h6]; exact ht t h5 x h6
  · rw [gputI_I, k5 z h5 x h6]; exact hz z h5 x h6
  · rw [gputI_I, k6 q h5 x h6 h7 h8]; exact hq q h5 x h6 h7 h8
  · rw [← hr q h5 x h6]; exact k7 q h5 x h6
theorem RX.main (H : RX Y s A B h) (i : Nat) (v : Int) : RX (su Y 0 i v) s A B (gputI h 1 i v) := by
  refine H.putI (by omega) (fun x => ?_) (fun x => ?_) (fun x => ?_) (fun t h5 x h6 => ?_) (fun z h5 x h6 => ?_) (fun q h5 x h6 h7 h8 => ?_) (fun q h5 x h6 => ?_)
  · rw [su_f]; simp
  · rw [su_f]; simp
  · rw [su_f]; simp
  · rw [su_f, if_neg (by omega), if_neg (by omega)]
  · have := gma_lt h5; rw [su_f, if_neg (by omega), if_neg (by omega)]
  · rw [su_f, if_neg (by omega), if_neg (by omega)]
  · rw [su_f, if_neg (by omega)]
theorem RX.byt (H : RX Y s A B h) (i : Nat) (v : Int) : RX (su Y 8 i v) s A B (gputI h 3 i v) := by
  refine H.putI (by omega) (fun x => ?_) (fun x => ?_) (fun x => ?_) (fun t h5 x h6 => ?_) (fun z h5 x h6 => ?_) (fun q h5 x h6 h7 h8 => ?_) (fun q h5 x h6 => ?_)
  · rw [su_f]; simp
  · rw [su_f]; simp
  · rw [su_f]; simp
  · rw [su_f, if_neg (by omega), if_neg (by omega)]
  · have := gma_lt h5; rw [su_f, if_neg (by omega), if_neg (by omega)]
  · rw [su_f, if_neg (by omega), if_neg (by omega)]
  · rw [su_f, if_neg (by omega)]
theorem RX.own (H : RX Y s A B h) (i : Nat) (v : Int) : RX (su Y 9 i v) s A B (gputI h 4 i v) := by
  refine H.putI (by omega) (fun x => ?_) (fun x => ?_) (fun x => ?_) (fun t h5 x h6 => ?_) (fun z h5 x h6 => ?_) (fun q h5 x h6 h7 h8 => ?_) (fun q h5 x h6 => ?_)
  · rw [su_f]; simp
  · rw [su_f]; simp
  · rw [su_f]; simp
  · rw [su_f, if_neg (by omega), if_neg (by omega)]
  · have := gma_lt h5; rw [su_f, if_neg (by omega), if_neg (by omega)]
  · rw [su_f, if_neg (by omega), if_neg (by omega)]
  · rw [su_f, if_neg (by omega)]
theorem RX.ten (H : RX Y s A B h) {t i : Nat} (ht : t < 4) (hi : i < 3) (v : Int) : RX (su Y (5 + i) t v) s A B (gputI h (6 + t) i v) := by
  refine H.putI (by omega) (fun x => ?_) (fun x => ?_) (fun x => ?_) (fun t2 h5 x h6 => ?_) (fun z h5 x h6 => ?_) (fun q h5 x h6 h7 h8 => ?_) (fun q h5 x h6 => ?_)
  · rw [su_f, if_neg (by omega), if_neg (by omega)]
  · rw [su_f, if_neg (by omega), if_neg (by omega)]
  · rw [su_f, if_neg (by omega), if_neg (by omega)]
  · rw [su_f]
    by_cases e : 6 + t2 = 6 + t ∧ x = i
    · rw [if_pos e, if_pos (by omega)]
    · rw [if_neg e, if_neg (by omega)]
  · have := gma_lt h5; rw [su_f, if_neg (by omega), if_neg (by omega)]
  · rw [su_f, if_neg (by omega), if_neg (by omega)]
  · rw [su_f, if_neg (by omega)]
theorem RX.mac (H : RX Y s A B h) {z i : Nat} (hz : z ≤ 6) (hi : i < 4) (v : Int) : RX (su Y (1 + i) z v) s A B (gputI h (gma z) i v) := by
  have hg := gma_lt hz
  refine H.putI (by omega) (fun x => ?_) (fun x => ?_) (fun x => ?_) (fun t2 h5 x h6 => ?_) (fun z2 h5 x h6 => ?_) (fun q h5 x h6 h7 h8 => ?_) (fun q h5 x h6 => ?_)
  · rw [su_f, if_neg (by omega), if_neg (by omega)]
  · rw [su_f, if_neg (by omega), if_neg (by omega)]
  · rw [su_f, if_neg (by omega), if_neg (by omega)]
  · rw [su_f, if_neg (by omega), if_neg (by omega)]
  · rw [su_f]
    by_cases e : z2 = z ∧ x = i
    · rw [if_pos ⟨by rw [e.1], e.2⟩, if_pos ⟨by omega, e.1⟩]
    · rw [if_neg (fun w => e ⟨gma_inj h5 hz w.1, w.2⟩), if_neg (by omega)]
  · rw [su_f, if_neg (by omega), if_neg (by omega)]
  · rw [su_f, if_neg (by omega)]
theorem RX.sha (H : RX Y s A B h) {q i : Nat} (hq : q < 16) (hi : i < 9) (h2 : i ≠ 2) (h3 : i ≠ 3) (v : Int) : RX (su Y (10 + i) q v) s A B (gputI h (18 + q) i v) := by
  refine H.putI (by omega) (fun x => ?_) (fun x => ?_) (fun x => ?_) (fun t2 h5 x h6 => ?_) (fun z2 h5 x h6 => ?_) (fun q2 h5 x h6 h7 h8 => ?_) (fun q h5 x h6 => ?_)
  · rw [su_f, if_neg (by omega), if_neg (by omega)]
  · rw [su_f, if_neg (by omega), if_neg (by omega)]
  · rw [su_f, if_neg (by omega), if_neg (by omega)]
  · rw [su_f, if_neg (by omega), if_neg (by omega)]
  · have := gma_lt h5; rw [su_f, if_neg (by omega), if_neg (by omega)]
  · rw [su_f]
    by_cases e : q2 = q ∧ x = i
    · rw [if_pos (by omega), if_pos (by omega)]
    · rw [if_neg (by omega), if_neg (by omega)]
  · rw [su_f, if_neg (by omega)]
/-- a shard's home or target is the machine z -/
theorem RX.shr (H : RX Y s A B h) {q i z : Nat} (hq : q < 16) (hi : i = 2 ∨ i = 3) (hz : z ≤ 6) : RX (su Y (10 + i) q z) s A B (gputR h (18 + q) i (some (gma z))) := by
  obtain ⟨g1, g2, ⟨r1, r2, r3, r4⟩, ⟨k1, k2, k3, k4, k5, k6, k7⟩, g5, g6⟩ := H
  refine ⟨g1, g2, ⟨⟨?_, ?_, ?_, ?_, ?_, ?_⟩, fun t ht => ?_, fun x hx => ?_, fun j hj => ⟨(r4 j hj).1, ?_⟩⟩, ⟨funext fun x => ?_, funext fun x => ?_, funext fun x => ?_, fun t h5 x h6 => ?_, fun y h5 x h6 => ?_, fun p h5 x h6 h7 h8 => ?_, fun p h5 x h6 => ?_⟩, ?_, ?_⟩
  · rw [gputR_R, if_neg (by omega)]; exact r1.1
  · rw [gputR_R, if_neg (by omega)]; exact r1.2.1
  · rw [gputR_R, if_neg (by omega)]; exact r1.2.2.1
  · rw [gputR_R, if_neg (by omega)]; exact r1.2.2.2.1
  · rw [gputR_R, if_neg (by omega)]; exact r1.2.2.2.2.1
  · rw [gputR_R, if_neg (by omega)]; exact r1.2.2.2.2.2
  · rw [gputR_R, if_neg (by omega)]; exact r2 t ht
  · rw [gputR_R, if_neg (by omega)]; exact r3 x hx
  · rw [gputR_R, if_neg (by omega)]; exact (r4 j hj).2
  · rw [gI_putR, k1, su_f, if_neg (by omega)]
  · rw [gI_putR, k2, su_f, if_neg (by omega)]
  · rw [gI_putR, k3, su_f, if_neg (by omega)]
  · rw [gI_putR, k4 t h5 x h6, su_f, if_neg (by omega)]
  · rw [gI_putR, k5 y h5 x h6, su_f, if_neg (by omega)]
  · rw [gI_putR, k6 p h5 x h6 h7 h8, su_f, if_neg (by omega)]
  · rw [su_f, gputR_R]
    by_cases e : p = q ∧ x = i
    · rw [if_pos (by omega), if_pos (by omega)]
      exact ⟨by omega, by rw [Int.toNat_natCast]⟩
    · rw [if_neg (by omega), if_neg (by omega)]
      exact k7 p h5 x h6
  · rw [gputR_R, if_neg (by omega)]
    exact gchA.fr (FrX.putR (by omega)) A _ g5
  · rw [gputR_R, if_neg (by omega)]
    exact gchB.fr (FrX.putR (by omega)) B _ g6
/-- a place of the row of the shards -/
theorem RX.row (H : RX Y s A B h) {j q : Nat} (hj : j < 16) (hq : q < 16) : RX Y (va_up s j q) A B (gputR h 17 j (some (18 + q))) := by
  obtain ⟨g1, g2, ⟨r1, r2, r3, r4⟩, ⟨k1, k2, k3, k4, k5, k6, k7⟩, g5, g6⟩ := H
  refine ⟨g1, g2, ⟨⟨?_, ?_, ?_, ?_, ?_, ?_⟩, fun t ht => ?_, fun x hx => ?_, fun i hi => ?_⟩, ⟨k1, k2, k3, k4, k5, k6, fun p h5 x h6 => ⟨(k7 p h5 x h6).1, ?_⟩⟩, ?_, ?_⟩
  · rw [gputR_R, if_neg (by omega)]; exact r1.1
  · rw [gputR_R, if_neg (by omega)]; exact r1.2.1
  · rw [gputR_R, if_neg (by omega)]; exact r1.2.2.1
  · rw [gputR_R, if_neg (by omega)]; exact r1.2.2.2.1
  · rw [gputR_R, if_neg (by omega)]; exact r1.2.2.2.2.1
  · rw [gputR_R, if_neg (by omega)]; exact r1.2.2.2.2.2
  · rw [gputR_R, if_neg (by omega)]; exact r2 t ht
  · rw [gputR_R, if_neg (by omega)]; exact r3 x hx
  · rw [gputR_R]
    unfold va_up
    by_cases e : i = j
    · rw [if_pos e, if_pos ⟨rfl, e⟩]; exact ⟨hq, rfl⟩
    · rw [if_neg e, if_neg (fun z => e z.2)]; exact r4 i hi
  · rw [gputR_R, if_neg (by omega)]; exact (k7 p h5 x h6).2
  · rw [gputR_R, if_neg (by omega)]
    exact gchA.fr (FrX.putR (by omega)) A _ g5
  · rw [gputR_R, if_neg (by omega)]
    exact gchB.fr (FrX.putR (by omega)) B _ g6
end RXputs
