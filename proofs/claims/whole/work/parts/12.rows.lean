/-! THE LAYER: arrays, new cells, calls, throws -/
/-- what a new object of the class ci holds -/
def gBorn (ci N : Nat) : Prop := ∃ (C : String) (T : u_T) (ty : Nat → FieldType), gCls ci C T N ∧ (∀ k, k < N → parseFieldDescriptor (T k).2.2.1 = some (ty k)) ∧ ∀ k, k < N → defaultValue (ty k) = if gRf ci k then .null else .int 0
theorem gI_putR' (h : gH) (a i : Nat) (x : Option Nat) : gI (gputR h a i x) = gI h := rfl
section GA
variable {w : gW} {l : Launch} {y : MethodName} {cc : ByteArray} {nL : Nat} {ret : Option FieldType} {d mc ms : Nat} {post : Option Value → gH → Prop} {px : String → gH → Prop} {m : MethodId} {Wp : Heap → List Loc → Nat → Nat → JFrame → Prop}
variable {h : gH} {k u : Nat} {lo : List (Option Value)} {st : List Value} {pc : Nat}
theorem g_iald (C : gC w l y cc nL ret d mc ms post px m Wp) {a n : Nat} {x : Int} (hK : gK h a = (7, n)) (j : Nat) (hx : x = (j : Int)) (hj : j < n) (hn : n < 2147483648) (hd : decode cc pc = .ok (.iaload, 1)) (kk : gG w m nL Wp h k u lo (.int (iI (gI h a j)) :: st) (pc + 1)) : gG w m nL Wp h k u lo (.int (iI x) :: .ref a :: st) pc := by
  obtain ⟨p, e, s, args, below, meth, c, rfl, hx9, hb, hml, hown, hts, hkn, hr, hlocks, -⟩ := C
  subst hx
  rw [iI_nI]
  intro H locs ls h1 h2 h3
  have hat := (h1.2.2.2.1 a).2.1
  rw [hK] at hat
  have hcell := hat (Or.inl rfl)
  have hr := (hkn.2.2.1.2 0 (wcy w 7, .int) rfl).1 n (fun j => .int (iI (gI h a j)))
  have hcl : (nI j).toNatClampNeg = j := nI_clamp (by omega)
  exact W.iald (v := .int (iI (gI h a j))) hx9 hb hcell hr (fun q => by cases q) (by show ¬ (nI j < 0 ∨ (arrV _ _ _).slots.size ≤ _); rw [arrV_size]; exact vp_in_nI hj (by omega)) (by show (arrV _ _ _).slots[_]? = _; rw [hcl, arrV_read _ _ hj]) rfl rfl hd (kk H locs ls h1 h2 h3)
theorem g_bald (C : gC w l y cc nL ret d mc ms post px m Wp) {a n : Nat} {x : Int} (hK : gK h a = (8, n)) (j : Nat) (hx : x = (j : Int)) (hj : j < n) (hn : n < 2147483648) (hd : decode cc pc = .ok (.baload, 1)) (kk : gG w m nL Wp h k u lo (.int (iI (gI h a j)) :: st) (pc + 1)) : gG w m nL Wp h k u lo (.int (iI x) :: .ref a :: st) pc := by
  obtain ⟨p, e, s, args, below, meth, c, rfl, hx9, hb, hml, hown, hts, hkn, hr, hlocks, -⟩ := C
  subst hx
  rw [iI_nI]
  intro H locs ls h1 h2 h3
  have hat := (h1.2.2.2.1 a).2.1
  rw [hK] at hat
  have hcell := hat (Or.inr rfl)
  have hr := (hkn.2.2.1.2 1 (wcy w 8, .boolean) rfl).1 n (fun j => .int (iI (gI h a j)))
  have hcl : (nI j).toNatClampNeg = j := nI_clamp (by omega)
  exact W.zald (v := .int (iI (gI h a j))) hx9 hb hcell hr (fun q => by cases q) (by show ¬ (nI j < 0 ∨ (arrV _ _ _).slots.size ≤ _); rw [arrV_size]; exact vp_in_nI hj (by omega)) (by show (arrV _ _ _).slots[_]? = _; rw [hcl, arrV_read _ _ hj]) rfl rfl hd (kk H locs ls h1 h2 h3)
theorem g_lald (C : gC w l y cc nL ret d mc ms post px m Wp) {a : Nat} (hK : gK h a = (9, 1)) (hd : decode cc pc = .ok (.laload, 1)) (kk : gG w m nL Wp h k u lo (.long (gJ h a) :: st) (pc + 1)) : gG w m nL Wp h k u lo (.int (iI 0) :: .ref a :: st) pc := by
  obtain ⟨p, e, s, args, below, meth, c, rfl, hx9, hb, hml, hown, hts, hkn, hr, hlocks, -⟩ := C
  intro H locs ls h1 h2 h3
  have hat := (h1.2.2.2.1 a).2.2.1
  rw [hK] at hat
  have hcell := hat rfl
  have hin : vp_in (0 : Int32) 1 := by rw [← nI_0]; exact vp_in_nI (by omega) (by omega)
  have hP : va_P (wD w) vwCl [(gρ w a, .inl (wcy w 9, 1, .inr (.inl (fun j => if j = 0 then gJ h a else 0))))] H := fun q z hz => by
    cases q with
    | zero => cases hz; exact hcell
    | succ q => simp at hz
  exact va_lald hx9 hb hkn.2.2.1 hP 0 2 rfl rfl hin hd (kk H locs ls h1 h2 h3)
theorem g_aald (C : gC w l y cc nL ret d mc ms post px m Wp) {a n q : Nat} {x : Int} (hK : gK h a = (q, n)) (hq : q = 10 ∨ q = 11 ∨ q = 12) (j : Nat) (hx : x = (j : Int)) (hj : j < n) (hn : n < 2147483648) (b : Nat) (hb9 : gR h a j = some b) (hd : decode cc pc = .ok (.aaload, 1)) (kk : gG w m nL Wp h k u lo (.ref b :: st) (pc + 1)) : gG w m nL Wp h k u lo (.int (iI x) :: .ref a :: st) pc := by
  obtain ⟨p, e, s, args, below, meth, c, rfl, hx9, hb, hml, hown, hts, hkn, hr, hlocks, -⟩ := C
  subst hx
  rw [iI_nI]
  intro H locs ls h1 h2 h3
  have hat := (h1.2.2.2.1 a).2.2.2
  rw [hK] at hat
  have hcell := hat hq
  have hin := vp_in_nI hj (show n < 2 ^ 31 by omega)
  have hcl : (nI j).toNatClampNeg = j := nI_clamp (by omega)
  have hP : va_P (wD w) vwCl [(gρ w a, .inl (wcy w q, n, .inr (.inr (.inr (.inr (fun j => (gR h a j).map (gρ w)))))))] H := fun z y hz => by
    cases z with
    | zero => cases hz; exact hcell
    | succ z => simp at hz
  have hv : va_rf ((gR h a (nI j).toNatClampNeg).map (gρ w)) = gv w (.ref b) := by rw [hcl, hb9]; rfl
  have hkk := kk H locs ls h1 h2 h3
  rw [List.map_cons, ← hv] at hkk
  rcases hq with rfl | rfl | rfl
  · exact va_aldq hx9 hb hkn.2.2.1 hP 0 3 rfl rfl hin hd hkk
  · exact va_aldq hx9 hb hkn.2.2.1 hP 0 4 rfl rfl hin hd hkk
  · exact va_aldq hx9 hb hkn.2.2.1 hP 0 5 rfl rfl hin hd hkk
theorem g_iast (C : gC w l y cc nL ret d mc ms post px m Wp) {a n : Nat} {x v : Int} (hK : gK h a = (7, n)) (j : Nat) (hx : x = (j : Int)) (hj : j < n) (hn : n < 2147483648) (hd : decode cc pc = .ok (.iastore, 1)) (kk : gG w m nL Wp (gputI h a j v) k u lo st (pc + 1)) : gG w m nL Wp h k u lo (.int (iI v) :: .int (iI x) :: .ref a :: st) pc := by
  obtain ⟨p, e, s, args, below, meth, c, rfl, hx9, hb, hml, hown, hts, hkn, hr, hlocks, -⟩ := C
  subst hx
  rw [iI_nI]
  intro H locs ls h1 h2 h3
  have hpos := (h1.pos hK (by omega)).1
  have hat := (h1.2.2.2.1 a).2.1
  rw [hK] at hat
  have hcell := hat (Or.inl rfl)
  have hr := (hkn.2.2.1.2 0 (wcy w 7, .int) rfl).1 n (fun j => .int (iI (gI h a j)))
  have hcl : (nI j).toNatClampNeg = j := nI_clamp (by omega)
  refine W.iast (x := iI v) hx9 hb hcell hr (fun q => by cases q) (by show ¬ (nI j < 0 ∨ (arrV _ _ _).slots.size ≤ _); rw [arrV_size]; exact vp_in_nI hj (by omega)) rfl rfl hd fun H1 e z oq => ?_
  refine kk H1 _ _ (h1.one hkn.2.1 hpos z oq rfl rfl (fun b hb => by rw [gI_putI, if_neg hb]) (fun b _ => rfl) (fun b _ => rfl) ?_) (fun z hz => ?_) h3
  · rw [hK]
    refine ⟨fun z => absurd z (by simp), fun _ => ?_, fun z => absurd z (by simp), fun z => absurd z (by simp)⟩
    rw [e, vp_cell_i, vp_cell_i, arrV_store, gI_putI, if_pos rfl, hcl]
    congr 2
    funext q
    by_cases hq : q = j
    · subst hq; simp [updV, va_up]
    · simp [updV, va_up, hq]
  · rcases List.mem_append.mp hz with z1 | z1
    · exact h2 z z1
    · rw [List.mem_singleton] at z1
      subst z1
      exact gA_ρ hpos
theorem g_bast (C : gC w l y cc nL ret d mc ms post px m Wp) {a n : Nat} {x v : Int} (hK : gK h a = (8, n)) (j : Nat) (hx : x = (j : Int)) (hj : j < n) (hn : n < 2147483648) (hv : v = 0 ∨ v = 1) (hd : decode cc pc = .ok (.bastore, 1)) (kk : gG w m nL Wp (gputI h a j v) k u lo st (pc + 1)) : gG w m nL Wp h k u lo (.int (iI v) :: .int (iI x) :: .ref a :: st) pc := by
  obtain ⟨p, e, s, args, below, meth, c, rfl, hx9, hb, hml, hown, hts, hkn, hr, hlocks, -⟩ := C
  subst hx
  rw [iI_nI]
  intro H locs ls h1 h2 h3
  have hpos := (h1.pos hK (by omega)).1
  have hat := (h1.2.2.2.1 a).2.1
  rw [hK] at hat
  have hcell := hat (Or.inr rfl)
  have hr := (hkn.2.2.1.2 1 (wcy w 8, .boolean) rfl).1 n (fun j => .int (iI (gI h a j)))
  have hcl : (nI j).toNatClampNeg = j := nI_clamp (by omega)
  have hnv : narrow .boolean (.int (iI v)) = .int (iI v) := by rcases hv with e | e <;> subst e <;> rfl
  refine W.zast (x := iI v) hx9 hb hcell hr (fun q => by cases q) (by show ¬ (nI j < 0 ∨ (arrV _ _ _).slots.size ≤ _); rw [arrV_size]; exact vp_in_nI hj (by omega)) rfl rfl hd fun H1 e z oq => ?_
  refine kk H1 _ _ (h1.one hkn.2.1 hpos z oq rfl rfl (fun b hb => by rw [gI_putI, if_neg hb]) (fun b _ => rfl) (fun b _ => rfl) ?_) (fun z hz => ?_) h3
  · rw [hK]
    refine ⟨fun z => absurd z (by simp), fun _ => ?_, fun z => absurd z (by simp), fun z => absurd z (by simp)⟩
    rw [e, vp_cell_i, vp_cell_i, arrV_store, gI_putI, if_pos rfl, hcl, hnv]
    congr 2
    funext q
    by_cases hq : q = j
    · subst hq; simp [updV, va_up]
    · simp [updV, va_up, hq]
  · rcases List.mem_append.mp hz with z1 | z1
    · exact h2 z z1
    · rw [List.mem_singleton] at z1
      subst z1
      exact gA_ρ hpos
theorem g_last (C : gC w l y cc nL ret d mc ms post px m Wp) {a : Nat} {v : Int64} (hK : gK h a = (9, 1)) (hd : decode cc pc = .ok (.lastore, 1)) (kk : gG w m nL Wp (gputJ h a v) k u lo st (pc + 1)) : gG w m nL Wp h k u lo (.long v :: .int (iI 0) :: .ref a :: st) pc := by
  obtain ⟨p, e, s, args, below, meth, c, rfl, hx9, hb, hml, hown, hts, hkn, hr, hlocks, -⟩ := C
  intro H locs ls h1 h2 h3
  have hpos := (h1.pos hK (by omega)).1
  have hat := (h1.2.2.2.1 a).2.2.1
  rw [hK] at hat
  have hcell := hat rfl
  have hr := (hkn.2.2.1.2 2 (wcy w 9, .long) rfl).1 1 (fun j => .long (if j = 0 then gJ h a else 0))
  have hin : vp_in (0 : Int32) 1 := by rw [← nI_0]; exact vp_in_nI (by omega) (by omega)
  refine W.last (x := v) hx9 hb hcell hr (fun q => by cases q) (by show ¬ ((0 : Int32) < 0 ∨ (arrV _ _ _).slots.size ≤ _); rw [arrV_size]; exact hin) rfl rfl hd fun H1 e z oq => ?_
  refine kk H1 _ _ (h1.one hkn.2.1 hpos z oq rfl rfl (fun b hb => rfl) (fun b _ => rfl) (fun b hb => by show (if b = a then v else gJ h b) = gJ h b; rw [if_neg hb]) ?_) (fun z hz => ?_) h3
  · rw [hK]
    refine ⟨fun z => absurd z (by simp), fun z => absurd z (by simp), fun _ => ?_, fun z => absurd z (by simp)⟩
    have e0 : gJ (gputJ h a v) a = v := by show (if a = a then v else gJ h a) = v; rw [if_pos rfl]
    have e00 : (iI 0).toNatClampNeg = 0 := rfl
    rw [e, vp_cell_l, vp_cell_l, arrV_store, e0, e00]
    congr 2
    funext q
    by_cases hq : q = 0
    · subst hq; simp [updV]
    · simp [updV, hq]
  · rcases List.mem_append.mp hz with z1 | z1
    · exact h2 z z1
    · rw [List.mem_singleton] at z1
      subst z1
      exact gA_ρ hpos
theorem g_aast (C : gC w l y cc nL ret d mc ms post px m Wp) {a n q b N : Nat} {x : Int} (hK : gK h a = (q + 8, n)) (hq : q = 2 ∨ q = 3 ∨ q = 4) (hKb : gK h b = (q, N)) (j : Nat) (hx : x = (j : Int)) (hj : j < n) (hn : n < 2147483648) (hd : decode cc pc = .ok (.aastore, 1)) (kk : gG w m nL Wp (gputR h a j (some b)) k u lo st (pc + 1)) : gG w m nL Wp h k u lo (.ref b :: .int (iI x) :: .ref a :: st) pc := by
  obtain ⟨p, e, s, args, below, meth, c, rfl, hx9, hb, hml, hown, hts, hkn, hr, hlocks, -⟩ := C
  subst hx
  rw [iI_nI]
  intro H locs ls h1 h2 h3
  have hpos := (h1.pos hK (by omega)).1
  have hat := (h1.2.2.2.1 a).2.2.2
  rw [hK] at hat
  have hcell := hat (by dsimp only; omega)
  have hin := vp_in_nI hj (show n < 2 ^ 31 by omega)
  have hcl : (nI j).toNatClampNeg = j := nI_clamp (by omega)
  have h0 : ¬ nI j < 0 := fun z => hin (Or.inl z)
  have hatb := (h1.2.2.2.1 b).1
  rw [hKb] at hatb
  obtain ⟨cellV, g1, g2, g3, -⟩ := hatb (by dsimp only; omega)
  obtain ⟨r, hr⟩ : ∃ r : vw_C, vwCl[q]? = some r ∧ (gtys w)[q + 1]? = some (wcy w (q + 8), .object r.1) := by
    rcases hq with rfl | rfl | rfl
    · exact ⟨_, rfl, rfl⟩
    · exact ⟨_, rfl, rfl⟩
    · exact ⟨_, rfl, rfl⟩
  have hcls := (hkn.2.2.1.1 q r hr.1).2
  obtain ⟨kA, comp, k1, k2, k3, -⟩ := (hkn.2.2.1.2 (q + 1) _ hr.2).2
  have hcomp : comp = (wD w).1 q := Option.some.inj (k3.symm.trans hcls.1)
  subst hcomp
  obtain ⟨kC, hkC, -⟩ := hcls.2
  refine W.aast hx9 hb hcell (fun q h => by cases h) (fun h => by cases h) k1 k2 rfl hkC ⟨h0, by show _ < (arrV _ _ _).slots.size; rw [arrV_size, hcl]; exact hj⟩ g1 (fun q h => by rw [g3] at h; cases h) (by rw [g2]; exact hkC) (by rw [g2]; exact va_assign hcls) rfl rfl hd fun H1 e z oq => ?_
  refine kk H1 _ _ (h1.one hkn.2.1 hpos z oq rfl rfl (fun b _ => rfl) (fun b hb => by rw [gR_putR, if_neg hb]) (fun b _ => rfl) ?_) (fun z hz => ?_) h3
  · rw [hK]
    refine ⟨fun z => absurd z (by dsimp only; omega), fun z => absurd z (by dsimp only; omega), fun z => absurd z (by dsimp only; omega), fun _ => ?_⟩
    rw [e, vp_cell_q, vp_cell_q, arrV_store, gR_putR, if_pos rfl, hcl]
    congr 2
    funext q
    by_cases hq : q = j
    · subst hq; simp [updV, va_up, va_rf]
    · simp [updV, va_up, hq]
  · rcases List.mem_append.mp hz with z1 | z1
    · exact h2 z z1
    · rw [List.mem_singleton] at z1
      subst z1
      exact gA_ρ hpos
/-- a new cell -/
theorem gRep.new {w : gW} {h : gH} {H H1 : Heap} (hR : gRep w h H) (kd : Nat × Nat) (hz : H1.size = H.size + 1) (hq : ∀ q, q < H.size → H1[q]? = H[q]?) (hat : gat w kd (fun _ => 0) (fun _ => none) 0 H.size H1) : gRep w (gnew h kd) H1 := by
  obtain ⟨r1, r2, r3, r4, r5⟩ := hR
  have en : gn (gnew h kd) = gn h + 1 := rfl
  have eK : ∀ b, gK (gnew h kd) b = if b = gn h + 1 then kd else gK h b := fun _ => rfl
  have eI : ∀ b, gI (gnew h kd) b = if b = gn h + 1 then (fun _ => 0) else gI h b := fun _ => rfl
  have eR : ∀ b, gR (gnew h kd) b = if b = gn h + 1 then (fun _ => none) else gR h b := fun _ => rfl
  have eJ : ∀ b, gJ (gnew h kd) b = if b = gn h + 1 then 0 else gJ h b := fun _ => rfl
  refine ⟨by rw [hz, en, r1]; omega, by rw [eK, if_neg (by omega)]; exact r2, fun a ha => by rw [eK, if_neg (by omega)]; exact r3 a (by omega), fun b => ?_, fun q hlt => ?_⟩
  · by_cases e : b = gn h + 1
    · rw [eK, eI, eR, eJ, if_pos e, if_pos e, if_pos e, if_pos e, show gρ w b = H.size by rw [gρ_pos (by omega), r1]; omega]
      exact hat
    · rw [eK, eI, eR, eJ, if_neg e, if_neg e, if_neg e, if_neg e]
      by_cases e0 : b = 0 ∨ gn h < b
      · have : gK h b = (13, 0) := by
          rcases e0 with rfl | e0
          · exact r2
          · exact r3 b e0
        rw [this]
        exact gat.dead
      · refine (r4 b).kept (hq _ ?_)
        rw [gρ_pos (by omega), r1]; omega
  · rw [hq q (by rw [r1]; omega)]
    exact r5 q hlt
theorem g_new (C : gC w l y cc nL ret d mc ms post px m Wp) {idx ci N : Nat} (hB : gBorn ci N) (hw : ∃ r, vwCl[ci]? = some r ∧ r.2.2 = N ∧ Cond.classLink y.cls idx r.1 ∈ gTb ∧ Cond.instantiable r.1 N ∈ gTb ∧ Cond.initialized r.1 ∈ gTb) (hk : k + 1 ≤ mc) (hu : u + N ≤ ms) (hd : decode cc pc = .ok (.new idx, 3)) (kk : gG w m nL Wp (gnew h (ci, N)) (k + 1) (u + N) lo (.ref (gn h + 1) :: st) (pc + 3)) : gG w m nL Wp h k u lo st pc := by
  obtain ⟨p, e, s, args, below, meth, c, rfl, hx9, hb, hml, hown, hts, hkn, hr, hlocks, -⟩ := C
  obtain ⟨r, hr1, hr2, w1, w2, w3⟩ := hw
  obtain ⟨C0, T0, ty, ⟨hcl, hin, -, -⟩, hty, hdf⟩ := hB
  cases hcl.symm.trans hr1
  intro H locs ls h1 h2 h3
  have hKn := hkn.2.2.1.1 ci _ hcl
  refine W.newcK (n := N) hx9 hb hown (hts _ w1) (hts _ w2) (hts _ w3) rfl hd hk hu hKn.2.1 rfl fun H1 kC hkC e1 z1 o1 => ?_
  have hat : gat w (ci, N) (fun _ => 0) (fun _ => none) 0 H.size H1 := by
    have hc7 : ci < 7 := (List.getElem?_eq_some_iff.mp hcl).1
    refine ⟨fun _ => (u_born ty hts hin hKn hkC e1 hty).to (fun j hj => ?_), fun z => absurd z (by dsimp only; omega), fun z => absurd z (by dsimp only; omega), fun z => absurd z (by dsimp only; omega)⟩
    rw [hdf j hj]
    unfold gfv
    split <;> rfl
  have := kk H1 locs ls (h1.new (ci, N) z1 o1 hat) h2 h3
  rw [List.map_cons] at this
  rw [show gv w (.ref (gn h + 1)) = .ref H.size by show Value.ref (gρ w (gn h + 1)) = _; rw [gρ_pos (by omega), h1.1]; congr 1] at this
  exact this
theorem g_newI (C : gC w l y cc nL ret d mc ms post px m Wp) {x : Int} (n : Nat) (hx : x = (n : Int)) (hn : n < 100000) (hw : Cond.arrayClass .int ∈ gTb) (hk : k + 1 ≤ mc) (hu : u + n ≤ ms) (hd : decode cc pc = .ok (.newarray .int, 2)) (kk : gG w m nL Wp (gnew h (7, n)) (k + 1) (u + n) lo (.ref (gn h + 1) :: st) (pc + 2)) : gG w m nL Wp h k u lo (.int (iI x) :: st) pc := by
  obtain ⟨p, e, s, args, below, meth, c, rfl, hx9, hb, hml, hown, hts, hkn, hr, hlocks, -⟩ := C
  subst hx
  rw [iI_nI]
  intro H locs ls h1 h2 h3
  refine va_newaK (atype := .int) (N := n) hx9 hb (hts _ hw) rfl hd rfl (nI_pos (by omega)) (nI_clamp (by omega)) (by show n * 4 ≤ _; omega) hk hu rfl fun H1 cA e1 z1 o1 hAr hNm => ?_
  have hcA : wcy w 7 = cA := Option.some.inj ((hkn.2.2.1.2 0 (wcy w 7, .int) rfl).2.symm.trans hNm)
  have hat : gat w (7, n) (fun _ => 0) (fun _ => none) 0 H.size H1 := by
    refine ⟨fun z => absurd z (by simp), fun _ => ?_, fun z => absurd z (by simp), fun z => absurd z (by simp)⟩
    rw [e1, ← hcA]; rfl
  have := kk H1 locs ls (h1.new (7, n) z1 o1 hat) h2 h3
  rw [List.map_cons] at this
  rw [show gv w (.ref (gn h + 1)) = .ref H.size by show Value.ref (gρ w (gn h + 1)) = _; rw [gρ_pos (by omega), h1.1]; congr 1] at this
  exact this
theorem g_newZ (C : gC w l y cc nL ret d mc ms post px m Wp) {x : Int} (n : Nat) (hx : x = (n : Int)) (hn : n < 100000) (hw : Cond.arrayClass .boolean ∈ gTb) (hk : k + 1 ≤ mc) (hu : u + n ≤ ms) (hd : decode cc pc = .ok (.newarray .boolean, 2)) (kk : gG w m nL Wp (gnew h (8, n)) (k + 1) (u + n) lo (.ref (gn h + 1) :: st) (pc + 2)) : gG w m nL Wp h k u lo (.int (iI x) :: st) pc := by
  obtain ⟨p, e, s, args, below, meth, c, rfl, hx9, hb, hml, hown, hts, hkn, hr, hlocks, -⟩ := C
  subst hx
  rw [iI_nI]
  intro H locs ls h1 h2 h3
  refine va_newaK (atype := .boolean) (N := n) hx9 hb (hts _ hw) rfl hd rfl (nI_pos (by omega)) (nI_clamp (by omega)) (by show n * 1 ≤ _; omega) hk hu rfl fun H1 cA e1 z1 o1 hAr hNm => ?_
  have hcA : wcy w 8 = cA := Option.some.inj ((hkn.2.2.1.2 1 (wcy w 8, .boolean) rfl).2.symm.trans hNm)
  have hat : gat w (8, n) (fun _ => 0) (fun _ => none) 0 H.size H1 := by
    refine ⟨fun z => absurd z (by simp), fun _ => ?_, fun z => absurd z (by simp), fun z => absurd z (by simp)⟩
    rw [e1, ← hcA]; rfl
  have := kk H1 locs ls (h1.new (8, n) z1 o1 hat) h2 h3
  rw [List.map_cons] at this
  rw [show gv w (.ref (gn h + 1)) = .ref H.size by show Value.ref (gρ w (gn h + 1)) = _; rw [gρ_pos (by omega), h1.1]; congr 1] at this
  exact this
end GA
