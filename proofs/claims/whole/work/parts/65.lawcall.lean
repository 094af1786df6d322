/-! THE LAW: one call of both, through a wrapper -/
theorem gchA_c {h h' : gH} (hn : gn h ≤ gn h') (hc : ∀ a, 34 ≤ a → a ≤ gn h → (gK h a = (0, 6) ∨ gK h a = (1, 4)) → gK h' a = gK h a ∧ gI h' a = gI h a ∧ gR h' a = gR h a) : ∀ (A : List gCE) (o : Option Nat), gchA h o A → gchA h' o A
  | [], _, q => q
  | e :: t, o, ⟨c, h1, h2, h3, h4, h5, h6, h7, h8, h9, h10⟩ => by
    obtain ⟨x1, x2, x3⟩ := hc c h2 h3 (Or.inl h4)
    exact ⟨c, h1, h2, by omega, by rw [x1]; exact h4, by rw [x2]; exact h5, by rw [x2]; exact h6, by rw [x2]; exact h7, by rw [x2]; exact h8, by rw [x2]; exact h9, by rw [x3]; exact gchA_c hn hc t _ h10⟩
theorem gchB_c {h h' : gH} (hn : gn h ≤ gn h') (hc : ∀ a, 34 ≤ a → a ≤ gn h → (gK h a = (0, 6) ∨ gK h a = (1, 4)) → gK h' a = gK h a ∧ gI h' a = gI h a ∧ gR h' a = gR h a) : ∀ (B : List gOE) (o : Option Nat), gchB h o B → gchB h' o B
  | [], _, q => q
  | e :: t, o, ⟨c, h1, h2, h3, h4, h5, h6, h7, h8⟩ => by
    obtain ⟨x1, x2, x3⟩ := hc c h2 h3 (Or.inr h4)
    exact ⟨c, h1, h2, by omega, by rw [x1]; exact h4, by rw [x2]; exact h5, by rw [x2]; exact h6, by rw [x2]; exact h7, by rw [x3]; exact gchB_c hn hc t _ h8⟩
theorem RX.cong {Y : gS} {s : Nat → Nat} {A : List gCE} {B : List gOE} {h h' : gH} (H : RX Y s A B h) (hn : gn h ≤ gn h') (lo : ∀ a, a ≤ 33 → gK h' a = gK h a ∧ gI h' a = gI h a ∧ gR h' a = gR h a) (hc : ∀ a, 34 ≤ a → a ≤ gn h → (gK h a = (0, 6) ∨ gK h a = (1, 4)) → gK h' a = gK h a ∧ gI h' a = gI h a ∧ gR h' a = gR h a) : RX Y s A B h' := by
  obtain ⟨h1, ⟨k1, k2, k3, k4, k5, k6, k7, k8, k9⟩, ⟨⟨a1, a2, a3, a4, a5, a6⟩, r2, r3, r4⟩, ⟨i1, i2, i3, i4, i5, i6, i7⟩, cA, cB⟩ := H
  have gm : ∀ z, z ≤ 6 → gma z ≤ 33 := fun z hz => by unfold gma; split <;> omega
  have K := fun a (ha : a ≤ 33) => (lo a ha).1
  have I := fun a (ha : a ≤ 33) => (lo a ha).2.1
  have R := fun a (ha : a ≤ 33) => (lo a ha).2.2
  refine ⟨by omega, ⟨?_, fun z hz => ?_, ?_, ?_, ?_, fun t ht => ?_, ?_, ?_, fun q hq => ?_⟩, ⟨⟨?_, ?_, ?_, ?_, ?_, ?_⟩, fun t ht => ?_, fun i hi => ?_, fun j hj => ?_⟩, ⟨?_, ?_, ?_, fun t ht i hi => ?_, fun z hz i hi => ?_, fun q hq i hi x2 x3 => ?_, fun q hq i hi => ?_⟩, ?_, ?_⟩
  · rw [K 1 (by omega)]; exact k1
  · rw [K _ (gm z hz)]; exact k2 z hz
  · rw [K 3 (by omega)]; exact k3
  · rw [K 4 (by omega)]; exact k4
  · rw [K 5 (by omega)]; exact k5
  · rw [K _ (by omega)]; exact k6 t ht
  · rw [K 10 (by omega)]; exact k7
  · rw [K 17 (by omega)]; exact k8
  · rw [K _ (by omega)]; exact k9 q hq
  · rw [R 1 (by omega)]; exact a1
  · rw [R 1 (by omega)]; exact a2
  · rw [R 1 (by omega)]; exact a3
  · rw [R 1 (by omega)]; exact a4
  · rw [R 1 (by omega)]; exact a5
  · rw [R 1 (by omega)]; exact a6
  · rw [R 5 (by omega)]; exact r2 t ht
  · rw [R 10 (by omega)]; exact r3 i hi
  · rw [R 17 (by omega)]; exact r4 j hj
  · rw [I 1 (by omega)]; exact i1
  · rw [I 3 (by omega)]; exact i2
  · rw [I 4 (by omega)]; exact i3
  · rw [I _ (by omega)]; exact i4 t ht i hi
  · rw [I _ (gm z hz)]; exact i5 z hz i hi
  · rw [I _ (by omega)]; exact i6 q hq i hi x2 x3
  · rw [R _ (by omega)]; exact i7 q hq i hi
  · rw [R 1 (by omega)]; exact gchA_c hn hc A _ cA
  · rw [R 1 (by omega)]; exact gchB_c hn hc B _ cB
theorem gMk_no {f : Nat} (hf : f ≤ 12) : gMk f ≠ (0, 6) ∧ gMk f ≠ (1, 4) := by
  have : f = 0 ∨ f = 1 ∨ f = 2 ∨ f = 3 ∨ f = 4 ∨ f = 5 ∨ f = 6 ∨ f = 7 ∨ f = 8 ∨ f = 9 ∨ f = 10 ∨ f = 11 ∨ f = 12 := by omega
  rcases this with rfl | rfl | rfl | rfl | rfl | rfl | rfl | rfl | rfl | rfl | rfl | rfl | rfl <;> decide
theorem RX.wr {Y : gS} {s : Nat → Nat} {A : List gCE} {B : List gOE} {h : gH} (H : RX Y s A B h) (hS : gShM h) (S : gS) : RX Y s A B (gwr h S) := by
  have e : ∀ a, ¬ (34 ≤ a ∧ a ≤ 46) → gI (gwr h S) a = gI h a := fun a ha => by
    show (if 34 ≤ a ∧ a ≤ 46 then S (a - 34) else gI h a) = gI h a
    rw [if_neg ha]
  refine H.cong (Nat.le_refl _) (fun a ha => ⟨rfl, e a (by omega), rfl⟩) (fun a h1 h2 hk => ⟨rfl, e a (fun z => ?_), rfl⟩)
  have g := hS.1 (a - 34) (by omega)
  rw [show 34 + (a - 34) = a by omega] at g
  have n := gMk_no (f := a - 34) (by omega)
  rcases hk with hk | hk
  · exact n.1 (g.symm.trans hk)
  · exact n.2 (g.symm.trans hk)
/-- the heap at the head of the loop, after c calls: the class's object, the reference's, out -/
def qSt (h : gH) (k u : Nat) (S Y : gS) (s : Nat → Nat) (A : List gCE) (B : List gOE) (nm ns : Nat) (c : Int) : Prop :=
  RX Y s A B h ∧ gShM h ∧ gwr h S = h ∧ gK h 47 = (9, 1) ∧ 47 ≤ gn h ∧ qJ S Y s A B nm ns c ∧ (k : Int) ≤ 100 + 8 * c + 16 * S 0 1 ∧ (u : Int) ≤ 5000 + 64 * c + 64 * S 0 1
theorem gShM.fr {h h' : gH} (F : FrX h h') (hn : 46 ≤ gn h) (H : gShM h) : gShM h' :=
  ⟨fun f hf => by rw [(F.2 (34 + f) (by omega) (by omega)).1]; exact H.1 f hf, fun f h1 hf => by rw [(F.2 34 (by omega) (by omega)).2.2.1]; exact H.2 f h1 hf⟩
theorem gwr_fr {h h' : gH} {S : gS} (F : FrX h h') (hn : 46 ≤ gn h) (H : gwr h S = h) : gwr h' S = h' :=
  gwr_self (fun f hf => by rw [(F.2 (34 + f) (by omega) (by omega)).2.1, ← H]; exact gwr_I h S hf)
theorem gwr_wr (h : gH) (S S2 : gS) : gwr (gwr h S) S2 = gwr h S2 := by
  refine Prod.ext rfl (Prod.ext rfl (Prod.ext ?_ rfl))
  funext b
  show (if 34 ≤ b ∧ b ≤ 46 then S2 (b - 34) else if 34 ≤ b ∧ b ≤ 46 then S (b - 34) else gI h b) = if 34 ≤ b ∧ b ≤ 46 then S2 (b - 34) else gI h b
  split <;> rfl
section LC
variable {w : gW} {l : Launch} {h : gH} {k u : Nat} {S Y : gS} {s : Nat → Nat} {A : List gCE} {B : List gOE} {nm ns : Nat} {c : Int}
variable {y5 y6 yL : MethodName} {c5 c6 cL : ByteArray} {n5 n6 d6 nL : Nat} {r5 r6 : Option FieldType} {as5 as6 asL : List Value} {Es : List String} {hh : List (Nat × Nat × Nat × Nat)} {F : Int32 → Int64}
theorem law_call (H : qSt h k u S Y s A B nm ns c) (hc : c ≤ 512) (hO : qOut w l y5 c5 n5 r5 as5 y6 c6 n6 r6 d6 as6 Es S Y s A B c) (hlen : Es.length ≤ 3) (hnd : Es.Nodup)
    (hW : ∀ {mc ms : Nat} {post2 : Option Value → gH → Prop} {px2 : String → gH → Prop}, gCx w l y5 c5 n5 r5 7 mc ms as5 h post2 px2 → gK h 1 = (5, 15) → (∀ r h', post2 r h' → gK h' 47 = (9, 1) ∧ ∃ a, r = some (.int (iI a))) → (∀ E h', px2 E h' → ∃ i : Nat, Es[i]? = some E) → gCw w l yL cL nL (some .int) hh 8 mc ms asL h (qWp Es px2 post2 (fun a => F (iI a)))) :
    ∃ (mc ms : Nat) (post : Option Value → gH → Prop), gCw w l yL cL nL (some .int) hh 8 mc ms asL h post ∧ k + mc ≤ 601024 ∧ u + ms ≤ 7293034 ∧
      ∀ r h1, post r h1 → ∃ (q : Int) (b : Int) (S2 Y2 : gS) (s2 : Nat → Nat) (A2 : List gCE) (B2 : List gOE) (nm2 ns2 : Nat), r = some (.int (iI q)) ∧ (0 ≤ q ∧ q ≤ 3) ∧ gShM h1 ∧ gCt w l y6 c6 n6 r6 d6 0 0 as6 h1 (fun z h' => z = some (.int (iI b)) ∧ h' = gwr h1 S2) ∧ S2 0 0 = q ∧ (q = 0 → gJ h1 47 = F (iI b)) ∧ qSt (gwr h1 S2) (k + mc) (u + ms) S2 Y2 s2 A2 B2 nm2 ns2 (c + 1) := by
  obtain ⟨H1, H2, H3, H4, H5, H6, H7, H8⟩ := H
  have h01 := H6.1.1.2.2.1.1
  rcases hO with ⟨i, E, b, S2, nm2, ns2, he, hx, hm, e1, e2, hJ⟩ | ⟨mc, ms, a, Y2, s2, A2, B2, S2, nm2, ns2, hx, hm, e1, hJ, hmc, hms⟩
  · have hil : i < Es.length := (List.getElem?_eq_some_iff.mp he).1
    refine ⟨1, 6, _, hW (hx h H1) H1.2.1.1 (fun _ _ z => z.elim) (fun E2 h' z => ⟨i, by rw [z.1]; exact he⟩), by omega, by omega, fun r h1 hp => ?_⟩
    rcases hp with ⟨i2, E2, he2, ⟨rfl, hR, hF⟩, hr⟩ | ⟨-, a, h9, hp, -⟩
    · have hi : i2 = i := (List.getElem?_inj (List.getElem?_eq_some_iff.mp he2).1 hnd).mp (he2.trans he.symm)
      subst hi
      have g1 := H2.fr hF (by omega)
      have g2 := gwr_fr hF (by omega) H3
      have K := hm h1 g1
      unfold gMm at K
      rw [g2] at K
      have k47 := hF.2 47 (by omega) H5
      refine ⟨(i2 : Int) + 1, b, S2, Y, s, A, B, nm2, ns2, hr, by omega, g1, K, e1, fun z => by omega, hR.wr g1 S2, g1, gwr_wr h1 S2 S2, by show gK h1 47 = _; rw [k47.1]; exact H4, by show 47 ≤ gn h1; have := hF.1; omega, hJ, by omega, by omega⟩
    · exact hp.elim
  · have h02 := hJ.1.1.2.2.1.1
    refine ⟨mc, ms, _, hW (hx h H1) H1.2.1.1 (fun r h' z => ⟨by rw [(z.2.2.2 47 (by omega) H5).1]; exact H4, a, z.1⟩) (fun _ _ z => z.elim), by omega, by omega, fun r h1 hp => ?_⟩
    rcases hp with ⟨i2, E2, he2, z, -⟩ | ⟨hr, a2, h9, ⟨ha, hR, hF⟩, rfl⟩
    · exact z.elim
    · have g1 := H2.fr hF (by omega)
      have g2 := gwr_fr hF (by omega) H3
      have k47 := hF.2 47 (by omega) H5
      have ea : iI a2 = iI a := Value.int.inj (Option.some.inj ha)
      have g3 : gwr (gputJ h9 47 (F (iI a2))) S = gputJ h9 47 (F (iI a2)) := by
        show gputJ (gwr h9 S) 47 (F (iI a2)) = gputJ h9 47 (F (iI a2))
        rw [g2]
      have R9 : RX Y2 s2 A2 B2 (gputJ h9 47 (F (iI a2))) := hR.cong (Nat.le_refl _) (fun _ _ => ⟨rfl, rfl, rfl⟩) (fun _ _ _ _ => ⟨rfl, rfl, rfl⟩)
      have g4 : gShM (gputJ h9 47 (F (iI a2))) := g1
      have K := hm _ g4
      unfold gMm at K
      rw [g3] at K
      refine ⟨0, a, S2, Y2, s2, A2, B2, nm2, ns2, hr, by omega, g4, K, e1, fun _ => ?_, R9.wr g4 S2, g4, gwr_wr _ S2 S2, by show gK h9 47 = _; rw [k47.1]; exact H4, by show 47 ≤ gn h9; have := hF.1; omega, hJ, by omega, by omega⟩
      rw [← ea]
      show (if (47 : Nat) = 47 then F (iI a2) else gJ h9 47) = _
      rw [if_pos rfl]
end LC
