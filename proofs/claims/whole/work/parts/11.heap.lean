/-! THE LAYER: fields, arrays, new cells -/
/-- a class of the table: its words are there -/
def gCls (ci : Nat) (C : String) (T : u_T) (N : Nat) : Prop := vwCl[ci]? = some (C, T, N) ∧ (∀ x ∈ u_ws C T N, x ∈ gTb) ∧ (∃ ty : Nat → FieldType, ∀ k, k < N → parseFieldDescriptor (T k).2.2.1 = some (ty k)) ∧ (∀ a, a < N → ∀ b, b < N → a ≠ b → (T a).2.1 ≠ (T b).2.1)
/-- the field i of the class ci, by the index idx of the class that y stands in -/
def gF (y : MethodName) (idx ci N i : Nat) (ty : FieldType) (fin : Bool) : Prop := ∃ (C : String) (T : u_T), gCls ci C T N ∧ i < N ∧ (Cond.fieldLink y.cls idx (T i).1 (T i).2.1 (T i).2.2.1 ∈ gTb ∨ ∃ host, Cond.fieldLinkNest y.cls idx (T i).1 (T i).2.1 (T i).2.2.1 host ∈ gNs) ∧ parseFieldDescriptor (T i).2.2.1 = some ty ∧ (T i).2.2.2 = fin
section GM
variable {w : gW} {l : Launch} {y : MethodName} {cc : ByteArray} {nL : Nat} {ret : Option FieldType} {d mc ms : Nat} {post : Option Value → gH → Prop} {px : String → gH → Prop} {m : MethodId} {Wp : Heap → List Loc → Nat → Nat → JFrame → Prop}
variable {h : gH} {k u : Nat} {lo : List (Option Value)} {st : List Value} {pc : Nat}
theorem g_getv (C : gC w l y cc nL ret d mc ms post px m Wp) {idx ci N i a : Nat} {ty : FieldType} {fin : Bool} (hf : gF y idx ci N i ty fin) (hK : gK h a = (ci, N)) (hd : decode cc pc = .ok (.getfield idx, 3)) {v : Value} (hv : gfv w ci (gI h a) (gR h a) i = gv w v) (kk : gG w m nL Wp h k u lo (v :: st) (pc + 3)) : gG w m nL Wp h k u lo (.ref a :: st) pc := by
  obtain ⟨p, e, s, args, below, meth, c, rfl, hx, hb, hml, hown, hts, hkn, hr, hlocks, -⟩ := C
  obtain ⟨Cn, T, ⟨hcl, hin, -, -⟩, hi, hlink, -, -⟩ := hf
  intro H locs ls h1 h2 h3
  have hat := (h1.2.2.2.1 a).1
  rw [hK] at hat
  have hc7 : ci < 7 := (List.getElem?_eq_some_iff.mp hcl).1
  obtain ⟨cell, q1, q2, q3, q4⟩ := hat hc7
  obtain ⟨hS, hfc, kC, hkC, hkind⟩ := hkn.2.2.1.1 ci _ hcl
  obtain ⟨cf, kf, fi, f, hfi, hsl⟩ := hS i hi
  have hval : cell.slots[f.slot]? = some (gv w v) := by rw [hsl, q4 i hi, hv]
  have hkk := kk H locs ls h1 h2 h3
  rcases hlink with hlink | ⟨host, hlink⟩
  · exact W.getf hx hb hown (hts _ hlink) hfi (u_facts hfc hkC (u_lays hts hin hi) hfi).1 q1 (by rw [q3]; exact fun z => by cases z) hval rfl rfl hd hkk
  · exact va_Wgetf hx hb hown (va_Nw.use rfl (hkn.2.2.2.1 _ hlink)) hfi (u_facts hfc hkC (u_lays hts hin hi) hfi).1 q1 (by rw [q3]; exact fun z => by cases z) hval rfl rfl hd hkk
theorem g_geti (C : gC w l y cc nL ret d mc ms post px m Wp) {idx ci N i a : Nat} {ty : FieldType} {fin : Bool} (hf : gF y idx ci N i ty fin) (hr : gRf ci i = false) (hK : gK h a = (ci, N)) (hd : decode cc pc = .ok (.getfield idx, 3)) (kk : gG w m nL Wp h k u lo (.int (iI (gI h a i)) :: st) (pc + 3)) : gG w m nL Wp h k u lo (.ref a :: st) pc :=
  g_getv C hf hK hd (v := .int (iI (gI h a i))) (by simp [gfv, hr, gv]) kk
theorem g_getr (C : gC w l y cc nL ret d mc ms post px m Wp) {idx ci N i a : Nat} {ty : FieldType} {fin : Bool} (hf : gF y idx ci N i ty fin) (hr : gRf ci i = true) (hK : gK h a = (ci, N)) (b : Nat) (hb : gR h a i = some b) (hd : decode cc pc = .ok (.getfield idx, 3)) (kk : gG w m nL Wp h k u lo (.ref b :: st) (pc + 3)) : gG w m nL Wp h k u lo (.ref a :: st) pc :=
  g_getv C hf hK hd (v := .ref b) (by simp [gfv, hr, gv, hb, va_rf]) kk
theorem g_getn (C : gC w l y cc nL ret d mc ms post px m Wp) {idx ci N i a : Nat} {ty : FieldType} {fin : Bool} (hf : gF y idx ci N i ty fin) (hr : gRf ci i = true) (hK : gK h a = (ci, N)) (hb : gR h a i = none) (hd : decode cc pc = .ok (.getfield idx, 3)) (kk : gG w m nL Wp h k u lo (.null :: st) (pc + 3)) : gG w m nL Wp h k u lo (.ref a :: st) pc :=
  g_getv C hf hK hd (v := .null) (by simp [gfv, hr, gv, hb, va_rf]) kk
theorem g_apart {s : State} {args : Array Value} {C : String} {T : u_T} {N ci : Nat} {D : va_G} {tys : List (ClassId × FieldType)} (hts : ∀ x ∈ gTb, x.before args s = true) (hcl : gCls ci C T N) (hK : va_K D vwCl tys s) : ∀ x z, x < N → z < N → x ≠ z → (D.2 ci) x ≠ (D.2 ci) z := by
  obtain ⟨hc, hin, ⟨ty, hty⟩, hnm⟩ := hcl
  exact va_apart (own := C) hts hin ty hty hnm hK hc
/-- a store into a field: the value fits; h' is h but for that place -/
theorem g_putv (C : gC w l y cc nL ret d mc ms post px m Wp) {idx ci N i a : Nat} {ty : FieldType} {fin : Bool} (hf : gF y idx ci N i ty fin) (hfin : fin = false ∨ (y.name = "<init>" ∧ ∃ C0 T0, vwCl[ci]? = some (C0, T0, N) ∧ (T0 i).1 = y.cls ∧ Cond.fieldLink y.cls idx (T0 i).1 (T0 i).2.1 (T0 i).2.2.1 ∈ gTb)) (hK : gK h a = (ci, N)) (hd : decode cc pc = .ok (.putfield idx, 3)) {v : Value} (hn : narrow ty (gv w v) = gv w v) (hfit : fits ty (gv w v) = true)
    (h' : gH) (hn' : gn h' = gn h) (hk' : gK h' = gK h) (hI : ∀ b, b ≠ a → gI h' b = gI h b) (hRr : ∀ b, b ≠ a → gR h' b = gR h b) (hJ : gJ h' = gJ h) (hv : ∀ j, j < N → gfv w ci (gI h' a) (gR h' a) j = updV (gfv w ci (gI h a) (gR h a)) i (gv w v) j)
    (kk : gG w m nL Wp h' k u lo st (pc + 3)) : gG w m nL Wp h k u lo (v :: .ref a :: st) pc := by
  obtain ⟨p, e, s, args, below, meth, c, rfl, hx, hb, hml, hown, hts, hkn, hr, hlocks, -, hnm, -⟩ := C
  obtain ⟨Cn, T, hcls, hi, hlink, hdsc, hff⟩ := hf
  have hap := g_apart hts hcls hkn.2.2.1
  obtain ⟨hcl, hin, -, -⟩ := hcls
  intro H locs ls h1 h2 h3
  have hpos := (h1.pos hK (by have := (List.getElem?_eq_some_iff.mp hcl).1; have : vwCl.length = 7 := rfl; omega)).1
  have hat := (h1.2.2.2.1 a).1
  rw [hK] at hat
  have hc7 : ci < 7 := (List.getElem?_eq_some_iff.mp hcl).1
  obtain ⟨cell, q1, q2, q3, q4⟩ := hat hc7
  obtain ⟨hS, hfc, kC, hkC, hkind⟩ := hkn.2.2.1.1 ci _ hcl
  obtain ⟨cf, kf, fi, f, hfi, hsl⟩ := hS i hi
  have hlay := hts _ (hin _ (u_in_lay hi))
  unfold u_lay at hlay
  have hst := (u_facts hfc hkC (u_lays hts hin hi) hfi).1
  have fin9 : ∀ H' : Heap, H'[gρ w a]? = some (cell.setSlot f.slot (gv w v)) → H'.size = H.size → (∀ q, q ≠ gρ w a → H'[q]? = H[q]?) → W p l e (gRm d mc ms) s m args below meth c H' (locs ++ [⟨gρ w a, f.slot⟩]) k u (vx_MQ below (gQc w post) (gXC w px) args s mc ms (gA w)) (F0 m (pc + 3) ls (st.map (gv w))) := by
    intro H' e1 e2 e3
    refine kk H' _ _ (h1.one hkn.2.1 hpos e2 e3 hn' hk' hI hRr (fun b _ => by rw [hJ]) ?_) (fun z hz => ?_) h3
    · rw [hK]
      refine ⟨fun _ => t_OB.to (V := updV (gfv w ci (gI h a) (gR h a)) i (gv w v)) ⟨_, e1, q2, q3, by rw [hsl]; exact t_set q4 hap hi (gv w v)⟩ (fun j hj => (hv j hj).symm), fun z => absurd z (by dsimp only; omega), fun z => absurd z (by dsimp only; omega), fun z => absurd z (by dsimp only; omega)⟩
    · rcases List.mem_append.mp hz with z1 | z1
      · exact h2 z z1
      · rw [List.mem_singleton] at z1
        subst z1
        exact gA_ρ hpos
  rcases hfin with hfin | ⟨hini, C0, T0, hc0, hdecl, hl0⟩
  · subst hfin
    rw [if_neg (by rw [hff]; decide)] at hlay
    have h6 := u_store hfc hkC hkind hlay hfi hdsc hn hfit
    rcases hlink with hlink | ⟨host, hlink⟩
    · exact W.putK hx hb (f := f) ⟨hown, hts _ hlink, ⟨_, _, _, hfi⟩, hst⟩ (by rw [q2]; exact h6) q1 q3 (by rw [hsl]; exact k2_hasslot (q4 i hi)) rfl rfl hd fin9
    · exact va_WputK hx hb (f := f) hown (va_Nw.use rfl (hkn.2.2.2.1 _ hlink)) hfi hst (by rw [q2]; exact h6) q1 q3 (by rw [hsl]; exact k2_hasslot (q4 i hi)) rfl rfl hd fin9
  · cases hcl.symm.trans hc0
    by_cases hfb : (T i).2.2.2 = true
    · rw [if_pos hfb] at hlay
      have hcf : m.cls = cf := by
        obtain ⟨_, _, c', _, _, _, -, -, hf', -, -, -, hown2, -⟩ := Cond.laysFinal_spec hlay
        have e1 : c' = cf := by have := hfi.symm.trans hf'; simp at this; exact this.1.symm
        rw [hdecl] at hown2
        rw [← e1]; exact Option.some.inj (hown.symm.trans hown2)
      have h6 := u_fits hfc hkC hkind (Or.inr hlay) hfi hdsc hn hfit
      exact W.putFinK hx hb hown (hts _ hl0) hfi hst hcf (hnm.trans hini) (by rw [q2]; exact h6) q1 q3 (by rw [hsl]; exact k2_hasslot (q4 i hi)) rfl rfl hd fin9
    · rw [if_neg hfb] at hlay
      have h6 := u_store hfc hkC hkind hlay hfi hdsc hn hfit
      rcases hlink with hlink | ⟨host, hlink⟩
      · exact W.putK hx hb (f := f) ⟨hown, hts _ hlink, ⟨_, _, _, hfi⟩, hst⟩ (by rw [q2]; exact h6) q1 q3 (by rw [hsl]; exact k2_hasslot (q4 i hi)) rfl rfl hd fin9
      · exact va_WputK hx hb (f := f) hown (va_Nw.use rfl (hkn.2.2.2.1 _ hlink)) hfi hst (by rw [q2]; exact h6) q1 q3 (by rw [hsl]; exact k2_hasslot (q4 i hi)) rfl rfl hd fin9
theorem gI_putI (h : gH) (a i : Nat) (x : Int) (b : Nat) : gI (gputI h a i x) b = if b = a then va_up (gI h a) i x else gI h b := rfl
theorem gR_putI (h : gH) (a i : Nat) (x : Int) : gR (gputI h a i x) = gR h := rfl
theorem gK_putI (h : gH) (a i : Nat) (x : Int) : gK (gputI h a i x) = gK h := rfl
theorem gJ_putI (h : gH) (a i : Nat) (x : Int) : gJ (gputI h a i x) = gJ h := rfl
theorem gn_putI (h : gH) (a i : Nat) (x : Int) : gn (gputI h a i x) = gn h := rfl
theorem gR_putR (h : gH) (a i : Nat) (x : Option Nat) (b : Nat) : gR (gputR h a i x) b = if b = a then va_up (gR h a) i x else gR h b := rfl
theorem gI_putR (h : gH) (a i : Nat) (x : Option Nat) : gI (gputR h a i x) = gI h := rfl
theorem gK_putR (h : gH) (a i : Nat) (x : Option Nat) : gK (gputR h a i x) = gK h := rfl
theorem gJ_putR (h : gH) (a i : Nat) (x : Option Nat) : gJ (gputR h a i x) = gJ h := rfl
theorem gn_putR (h : gH) (a i : Nat) (x : Option Nat) : gn (gputR h a i x) = gn h := rfl
theorem gfv_i {w : gW} {ci i : Nat} (hr : gRf ci i = false) (I : Nat → Int) (R : Nat → Option Nat) (x : Int) (j : Nat) : gfv w ci (va_up I i x) R j = updV (gfv w ci I R) i (.int (iI x)) j := by
  unfold gfv updV va_up
  by_cases e : j = i
  · subst e; simp [hr]
  · simp [e]
theorem gfv_r {w : gW} {ci i : Nat} (hr : gRf ci i = true) (I : Nat → Int) (R : Nat → Option Nat) (x : Option Nat) (j : Nat) : gfv w ci I (va_up R i x) j = updV (gfv w ci I R) i (gv w (va_rf x)) j := by
  unfold gfv updV va_up
  by_cases e : j = i
  · subst e; cases x <;> simp [hr, va_rf, gv]
  · simp [e]
theorem g_puti (C : gC w l y cc nL ret d mc ms post px m Wp) {idx ci N i a : Nat} {fin : Bool} {x : Int} (hf : gF y idx ci N i .int fin) (hr : gRf ci i = false) (hfin : fin = false ∨ (y.name = "<init>" ∧ ∃ C0 T0, vwCl[ci]? = some (C0, T0, N) ∧ (T0 i).1 = y.cls ∧ Cond.fieldLink y.cls idx (T0 i).1 (T0 i).2.1 (T0 i).2.2.1 ∈ gTb)) (hK : gK h a = (ci, N)) (hd : decode cc pc = .ok (.putfield idx, 3)) (kk : gG w m nL Wp (gputI h a i x) k u lo st (pc + 3)) : gG w m nL Wp h k u lo (.int (iI x) :: .ref a :: st) pc :=
  g_putv C hf hfin hK hd (v := .int (iI x)) rfl rfl (gputI h a i x) rfl rfl (fun b hb => by rw [gI_putI, if_neg hb]) (fun b _ => rfl) rfl (fun j _ => by rw [gI_putI, if_pos rfl, gR_putI]; exact gfv_i hr _ _ _ _) kk
theorem g_putz (C : gC w l y cc nL ret d mc ms post px m Wp) {idx ci N i a : Nat} {fin : Bool} {x : Int} (hf : gF y idx ci N i .boolean fin) (hr : gRf ci i = false) (hz : x = 0 ∨ x = 1) (hfin : fin = false ∨ (y.name = "<init>" ∧ ∃ C0 T0, vwCl[ci]? = some (C0, T0, N) ∧ (T0 i).1 = y.cls ∧ Cond.fieldLink y.cls idx (T0 i).1 (T0 i).2.1 (T0 i).2.2.1 ∈ gTb)) (hK : gK h a = (ci, N)) (hd : decode cc pc = .ok (.putfield idx, 3)) (kk : gG w m nL Wp (gputI h a i x) k u lo st (pc + 3)) : gG w m nL Wp h k u lo (.int (iI x) :: .ref a :: st) pc :=
  g_putv C hf hfin hK hd (v := .int (iI x)) (by rcases hz with e | e <;> subst e <;> rfl) (by rcases hz with e | e <;> subst e <;> rfl) (gputI h a i x) rfl rfl (fun b hb => by rw [gI_putI, if_neg hb]) (fun b _ => rfl) rfl (fun j _ => by rw [gI_putI, if_pos rfl, gR_putI]; exact gfv_i hr _ _ _ _) kk
theorem g_putr (C : gC w l y cc nL ret d mc ms post px m Wp) {idx ci N i a b : Nat} {ty : FieldType} {fin : Bool} (hf : gF y idx ci N i ty fin) (hr : gRf ci i = true) (hty : (∃ E, ty = .object E) ∨ ∃ E, ty = .array E) (hfin : fin = false ∨ (y.name = "<init>" ∧ ∃ C0 T0, vwCl[ci]? = some (C0, T0, N) ∧ (T0 i).1 = y.cls ∧ Cond.fieldLink y.cls idx (T0 i).1 (T0 i).2.1 (T0 i).2.2.1 ∈ gTb)) (hK : gK h a = (ci, N)) (hd : decode cc pc = .ok (.putfield idx, 3)) (kk : gG w m nL Wp (gputR h a i (some b)) k u lo st (pc + 3)) : gG w m nL Wp h k u lo (.ref b :: .ref a :: st) pc :=
  g_putv C hf hfin hK hd (v := .ref b) (by rcases hty with ⟨E, rfl⟩ | ⟨E, rfl⟩ <;> rfl) (by rcases hty with ⟨E, rfl⟩ | ⟨E, rfl⟩ <;> rfl) (gputR h a i (some b)) rfl rfl (fun b hb => rfl) (fun c hc => by rw [gR_putR, if_neg hc]) rfl (fun j _ => by rw [gR_putR, if_pos rfl, gI_putR]; exact gfv_r hr _ _ _ _) kk
theorem g_putn (C : gC w l y cc nL ret d mc ms post px m Wp) {idx ci N i a : Nat} {ty : FieldType} {fin : Bool} (hf : gF y idx ci N i ty fin) (hr : gRf ci i = true) (hty : (∃ E, ty = .object E) ∨ ∃ E, ty = .array E) (hfin : fin = false ∨ (y.name = "<init>" ∧ ∃ C0 T0, vwCl[ci]? = some (C0, T0, N) ∧ (T0 i).1 = y.cls ∧ Cond.fieldLink y.cls idx (T0 i).1 (T0 i).2.1 (T0 i).2.2.1 ∈ gTb)) (hK : gK h a = (ci, N)) (hd : decode cc pc = .ok (.putfield idx, 3)) (kk : gG w m nL Wp (gputR h a i none) k u lo st (pc + 3)) : gG w m nL Wp h k u lo (.null :: .ref a :: st) pc :=
  g_putv C hf hfin hK hd (v := .null) (by rcases hty with ⟨E, rfl⟩ | ⟨E, rfl⟩ <;> rfl) (by rcases hty with ⟨E, rfl⟩ | ⟨E, rfl⟩ <;> rfl) (gputR h a i none) rfl rfl (fun b hb => rfl) (fun c hc => by rw [gR_putR, if_neg hc]) rfl (fun j _ => by rw [gR_putR, if_pos rfl, gI_putR]; exact gfv_r hr _ _ _ _) kk
end GM
