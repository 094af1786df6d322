/-! rows for programs that lay them: stores with the new locals named, ranges; the reference's own rows, over its state S: S 0 its fields, S 1 .. S 12 its arrays (room, isDown, quota, bill, owner, bytes, first, on, to, next, left, heat) -/
section GW
variable {w : gW} {l : Launch} {y : MethodName} {cc : ByteArray} {nL : Nat} {ret : Option FieldType} {d mc ms : Nat} {post : Option Value → gH → Prop} {px : String → gH → Prop} {m : MethodId} {Wp : Heap → List Loc → Nat → Nat → JFrame → Prop}
variable {h : gH} {k u : Nat} {lo lo' : List (Option Value)} {st : List Value} {pc : Nat}
theorem s_istore_n (C : gC w l y cc nL ret d mc ms post px m Wp) {f : Fin 4} (i : Nat) {x : Int} (hd : decode cc pc = .ok (.istore_n f, 1)) (hi : (f : Nat) = i) (hn : i < nL) (hlo : lo.set i (some (.int (iI x))) = lo') (kk : gG w m nL Wp h k u lo' st (pc + 1)) : gG w m nL Wp h k u lo (.int (iI x) :: st) pc := g_istore_n C i hd hi hn (by rw [hlo]; exact kk)
theorem s_istore (C : gC w l y cc nL ret d mc ms post px m Wp) {i : Nat} {x : Int} (hd : decode cc pc = .ok (.istore i, 2)) (hn : i < nL) (hlo : lo.set i (some (.int (iI x))) = lo') (kk : gG w m nL Wp h k u lo' st (pc + 2)) : gG w m nL Wp h k u lo (.int (iI x) :: st) pc := g_istore C hd hn (by rw [hlo]; exact kk)
theorem s_astore_n (C : gC w l y cc nL ret d mc ms post px m Wp) {f : Fin 4} (i : Nat) {x : Nat} (hd : decode cc pc = .ok (.astore_n f, 1)) (hi : (f : Nat) = i) (hn : i < nL) (hlo : lo.set i (some (.ref x)) = lo') (kk : gG w m nL Wp h k u lo' st (pc + 1)) : gG w m nL Wp h k u lo (.ref x :: st) pc := g_astore_n C i hd hi hn (by rw [hlo]; exact kk)
theorem s_astore (C : gC w l y cc nL ret d mc ms post px m Wp) {i : Nat} {x : Nat} (hd : decode cc pc = .ok (.astore i, 2)) (hn : i < nL) (hlo : lo.set i (some (.ref x)) = lo') (kk : gG w m nL Wp h k u lo' st (pc + 2)) : gG w m nL Wp h k u lo (.ref x :: st) pc := g_astore C hd hn (by rw [hlo]; exact kk)
theorem s_iinc (C : gC w l y cc nL ret d mc ms post px m Wp) {i : Nat} {n : Int} {x : Int} (hd : decode cc pc = .ok (.iinc i n, 3)) (hl : lo[i]? = some (some (.int (iI x)))) (hn : i < nL) (hlo : lo.set i (some (.int (iI (x + n)))) = lo') (kk : gG w m nL Wp h k u lo' st (pc + 3)) : gG w m nL Wp h k u lo st pc := g_iinc C hd hl hn (by rw [hlo]; exact kk)
/-- the same frame in other words -/
theorem g_as {h' : gH} {st' : List Value} (kk : gG w m nL Wp h' k u lo' st' pc) (eh : h' = h) (el : lo' = lo) (es : st' = st) : gG w m nL Wp h k u lo st pc := by
  rw [← eh, ← el, ← es]; exact kk
end GW
abbrev gS : Type := Nat → Nat → Int
def gwr (h : gH) (S : gS) : gH := (h.1, h.2.1, (fun b => if 34 ≤ b ∧ b ≤ 46 then S (b - 34) else h.2.2.1 b), h.2.2.2.1, h.2.2.2.2)
def su (S : gS) (f i : Nat) (v : Int) : gS := fun g => if g = f then va_up (S g) i v else S g
def gMk (f : Nat) : Nat × Nat := match f with
  | 0 => (6, 20)
  | 1 => (7, 6)
  | 2 => (8, 6)
  | 3 => (7, 4)
  | 4 => (7, 4)
  | 5 => (7, 1000)
  | 6 => (7, 1000)
  | _ => (7, 18)
def gMs (f : Nat) : Nat := match f with
  | 1 => 3
  | 2 => 4
  | 3 => 5
  | 4 => 6
  | 5 => 11
  | 6 => 12
  | f => f + 7
/-- the reference lies at 34 .. 46 -/
def gShM (h : gH) : Prop := (∀ f, f ≤ 12 → gK h (34 + f) = gMk f) ∧ ∀ f, 1 ≤ f → f ≤ 12 → gR h 34 (gMs f) = some (34 + f)
theorem gwr_I (h : gH) (S : gS) {f : Nat} (hf : f ≤ 12) : gI (gwr h S) (34 + f) = S f := by
  show (if 34 ≤ 34 + f ∧ 34 + f ≤ 46 then S (34 + f - 34) else gI h (34 + f)) = S f
  rw [if_pos (by omega), show 34 + f - 34 = f by omega]
theorem gwr_put (h : gH) (S : gS) {f : Nat} (hf : f ≤ 12) (i : Nat) (v : Int) : gputI (gwr h S) (34 + f) i v = gwr h (su S f i v) := by
  unfold gputI gwr su
  refine Prod.ext rfl (Prod.ext rfl (Prod.ext ?_ rfl))
  funext b
  dsimp only
  by_cases e : b = 34 + f
  · subst e
    rw [if_pos rfl, if_pos (by omega), if_pos (by omega), if_pos (by omega), show 34 + f - 34 = f by omega]
  · rw [if_neg e]
    by_cases e2 : 34 ≤ b ∧ b ≤ 46
    · rw [if_pos e2, if_pos e2, if_neg (by omega)]
    · rw [if_neg e2, if_neg e2]
section GX
variable {w : gW} {l : Launch} {y : MethodName} {cc : ByteArray} {nL : Nat} {ret : Option FieldType} {d mc ms : Nat} {post : Option Value → gH → Prop} {px : String → gH → Prop} {m : MethodId} {Wp : Heap → List Loc → Nat → Nat → JFrame → Prop}
variable {h : gH} {S : gS} {k u : Nat} {lo lo' : List (Option Value)} {st : List Value} {pc : Nat}
theorem m_fld (C : gC w l y cc nL ret d mc ms post px m Wp) (hS : gShM h) {idx i : Nat} {ty : FieldType} {fin : Bool} (hf : gF y idx 6 20 i ty fin) (hr : gRf 6 i = false) (hd : decode cc pc = .ok (.getfield idx, 3)) (kk : gG w m nL Wp (gwr h S) k u lo (.int (iI (S 0 i)) :: st) (pc + 3)) : gG w m nL Wp (gwr h S) k u lo (.ref 34 :: st) pc :=
  g_geti C hf hr (hS.1 0 (by omega)) hd (by rw [show gI (gwr h S) 34 i = S 0 i from congrFun (gwr_I h S (f := 0) (by omega)) i]; exact kk)
theorem m_arr (C : gC w l y cc nL ret d mc ms post px m Wp) (hS : gShM h) {idx : Nat} (f : Nat) {ty : FieldType} {fin : Bool} (h1 : 1 ≤ f) (h2 : f ≤ 12) (hf : gF y idx 6 20 (gMs f) ty fin) (hr : gRf 6 (gMs f) = true) (hd : decode cc pc = .ok (.getfield idx, 3)) (kk : gG w m nL Wp (gwr h S) k u lo (.ref (34 + f) :: st) (pc + 3)) : gG w m nL Wp (gwr h S) k u lo (.ref 34 :: st) pc :=
  g_getr C hf hr (hS.1 0 (by omega)) (34 + f) (hS.2 f h1 h2) hd kk
theorem m_put (C : gC w l y cc nL ret d mc ms post px m Wp) (hS : gShM h) {idx i : Nat} {x : Int} (hf : gF y idx 6 20 i .int false) (hr : gRf 6 i = false) (hd : decode cc pc = .ok (.putfield idx, 3)) (kk : gG w m nL Wp (gwr h (su S 0 i x)) k u lo st (pc + 3)) : gG w m nL Wp (gwr h S) k u lo (.int (iI x) :: .ref 34 :: st) pc :=
  g_puti C hf hr (Or.inl rfl) (hS.1 0 (by omega)) hd (by rw [gwr_put h S (f := 0) (by omega)]; exact kk)
theorem m_iald (C : gC w l y cc nL ret d mc ms post px m Wp) (hS : gShM h) {f n : Nat} {x : Int} (hf : f ≤ 12) (hk : gMk f = (7, n)) (hn : n < 2000) (j : Nat) (hx : x = (j : Int)) (hj : j < n) (hd : decode cc pc = .ok (.iaload, 1)) (kk : gG w m nL Wp (gwr h S) k u lo (.int (iI (S f j)) :: st) (pc + 1)) : gG w m nL Wp (gwr h S) k u lo (.int (iI x) :: .ref (34 + f) :: st) pc :=
  g_iald C ((hS.1 f hf).trans hk) j hx hj (by omega) hd (by rw [gwr_I h S hf]; exact kk)
theorem m_bald (C : gC w l y cc nL ret d mc ms post px m Wp) (hS : gShM h) {x : Int} (j : Nat) (hx : x = (j : Int)) (hj : j < 6) (hd : decode cc pc = .ok (.baload, 1)) (kk : gG w m nL Wp (gwr h S) k u lo (.int (iI (S 2 j)) :: st) (pc + 1)) : gG w m nL Wp (gwr h S) k u lo (.int (iI x) :: .ref (34 + 2) :: st) pc :=
  g_bald C (hS.1 2 (by omega)) j hx hj (by omega) hd (by rw [gwr_I h S (f := 2) (by omega)]; exact kk)
theorem m_iast (C : gC w l y cc nL ret d mc ms post px m Wp) (hS : gShM h) {f n : Nat} {x v : Int} (hf : f ≤ 12) (hk : gMk f = (7, n)) (hn : n < 2000) (j : Nat) (hx : x = (j : Int)) (hj : j < n) (hd : decode cc pc = .ok (.iastore, 1)) (kk : gG w m nL Wp (gwr h (su S f j v)) k u lo st (pc + 1)) : gG w m nL Wp (gwr h S) k u lo (.int (iI v) :: .int (iI x) :: .ref (34 + f) :: st) pc :=
  g_iast C ((hS.1 f hf).trans hk) j hx hj (by omega) hd (by rw [gwr_put h S hf]; exact kk)
theorem m_bast (C : gC w l y cc nL ret d mc ms post px m Wp) (hS : gShM h) {x v : Int} (j : Nat) (hx : x = (j : Int)) (hj : j < 6) (hv : v = 0 ∨ v = 1) (hd : decode cc pc = .ok (.bastore, 1)) (kk : gG w m nL Wp (gwr h (su S 2 j v)) k u lo st (pc + 1)) : gG w m nL Wp (gwr h S) k u lo (.int (iI v) :: .int (iI x) :: .ref (34 + 2) :: st) pc :=
  g_bast C (hS.1 2 (by omega)) j hx hj (by omega) hv hd (by rw [gwr_put h S (f := 2) (by omega)]; exact kk)
/-- a method of the reference: from S, with as, it answers r, and leaves S2 -/
def gMm (w : gW) (l : Launch) (y2 : MethodName) (cc2 : ByteArray) (nL2 : Nat) (ret2 : Option FieldType) (d2 : Nat) (as : List Value) (h : gH) (S : gS) (r : Option Value) (S2 : gS) : Prop :=
  gCt w l y2 cc2 nL2 ret2 d2 0 0 as (gwr h S) (fun q h' => q = r ∧ h' = gwr h S2)
theorem m_call (C : gC w l y cc nL ret d mc ms post px m Wp) (hS : gShM h) {idx n : Nat} {y2 : MethodName} {cc2 : ByteArray} {nL2 : Nat} {ret2 : Option FieldType} {d2 : Nat} {r : Option Value} {S2 : gS} (As rest : List Value) (hL : gLv y idx 6 20 y2 cc2 nL2 ret2 n) (hM : gMm w l y2 cc2 nL2 ret2 d2 (.ref 34 :: As) h S r S2) (hst : st = As.reverse ++ .ref 34 :: rest) (hn : As.length = n) (hdd : d2 < d) (hk : k ≤ mc) (hu : u ≤ ms) (hroom : (rest.map fun v => v.category).sum ≤ 8) (hd : decode cc pc = .ok (.invokevirtual idx, 3))
    (kk : gG w m nL Wp (gwr h S2) k u lo (r.toList ++ rest) (pc + 3)) : gG w m nL Wp (gwr h S) k u lo st pc :=
  g_callV C As rest hL hM hst hn (hS.1 0 (by omega)) hdd hk hu hroom hd (fun q h' e => by obtain ⟨rfl, rfl⟩ := e; exact kk)
theorem m_callS (C : gC w l y cc nL ret d mc ms post px m Wp) {idx n : Nat} {y2 : MethodName} {cc2 : ByteArray} {nL2 : Nat} {ret2 : Option FieldType} {d2 : Nat} {r : Option Value} {S2 : gS} (As rest : List Value) (hL : gLk y idx y2 cc2 nL2 ret2 n ∧ Cond.methodLink y.cls idx y2 ∈ gTb ∧ Cond.static y2 ∈ gTb) (hcls : y2.cls = y.cls) (hM : gMm w l y2 cc2 nL2 ret2 d2 As h S r S2) (hst : st = As.reverse ++ rest) (hn : As.length = n) (hdd : d2 < d) (hk : k ≤ mc) (hu : u ≤ ms) (hroom : (rest.map fun v => v.category).sum ≤ 8) (hd : decode cc pc = .ok (.invokestatic idx, 3))
    (kk : gG w m nL Wp (gwr h S2) k u lo (r.toList ++ rest) (pc + 3)) : gG w m nL Wp (gwr h S) k u lo st pc :=
  g_callS C As rest hL.1 hL.2.1 hL.2.2 hcls hM hst hn hdd hk hu hroom hd (fun q h' e => by obtain ⟨rfl, rfl⟩ := e; exact kk)
theorem gMm_start {y2 : MethodName} {cc2 : ByteArray} {nL2 : Nat} {ret2 : Option FieldType} {d2 : Nat} {as : List Value} {r : Option Value} {S2 : gS} (hy : plainName y2.cls = true) (has : ∀ v ∈ as, v.category = 1) (hn : as.length ≤ nL2)
    (body : ∀ (m : MethodId) (Wp : Heap → List Loc → Nat → Nat → JFrame → Prop), gC w l y2 cc2 nL2 ret2 d2 0 0 (fun q h' => q = r ∧ h' = gwr h S2) (fun _ _ => False) m Wp → gG w m nL2 Wp (gwr h S) 0 0 (as.map some ++ List.replicate (nL2 - as.length) none) [] 0) : gMm w l y2 cc2 nL2 ret2 d2 as h S r S2 :=
  gCt.of (gStart hy has hn body)
end GX
