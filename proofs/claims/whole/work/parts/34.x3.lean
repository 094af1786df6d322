/-! THE CLASS: the draw, the logs, change and cutOver (rows laid by wip/whole/gen/x3.py) -/
/-- the class's own cells are as they were -/
theorem RX.ext {Y : gS} {s : Nat → Nat} {A : List gCE} {B : List gOE} {h h2 : gH} (H : RX Y s A B h) (F : FrX h h2) (hc : ∀ a, a ≤ 33 → gK h2 a = gK h a ∧ gI h2 a = gI h a ∧ gR h2 a = gR h a) : RX Y s A B h2 := by
  obtain ⟨g1, ⟨a1, a2, a3, a4, a5, a6, a7, a8, a9⟩, ⟨⟨b1, b2, b3, b4, b5, b6⟩, b7, b8, b9⟩, ⟨c1, c2, c3, c4, c5, c6, c7⟩, d1, d2⟩ := H
  have gm : ∀ z, z ≤ 6 → gma z ≤ 33 := fun z hz => by have := gma_lt hz; omega
  refine ⟨Nat.le_trans g1 F.1, ⟨?_, fun z hz => ?_, ?_, ?_, ?_, fun t ht => ?_, ?_, ?_, fun q hq => ?_⟩, ⟨⟨?_, ?_, ?_, ?_, ?_, ?_⟩, fun t ht => ?_, fun i hi => ?_, fun j hj => ⟨(b9 j hj).1, ?_⟩⟩, ⟨?_, ?_, ?_, fun t ht i hi => ?_, fun z hz i hi => ?_, fun q hq i hi x1 x2 => ?_, fun q hq i hi => ⟨(c7 q hq i hi).1, ?_⟩⟩, ?_, ?_⟩
  · rw [(hc 1 (by omega)).1]; exact a1
  · rw [(hc _ (gm z hz)).1]; exact a2 z hz
  · rw [(hc 3 (by omega)).1]; exact a3
  · rw [(hc 4 (by omega)).1]; exact a4
  · rw [(hc 5 (by omega)).1]; exact a5
  · rw [(hc (6 + t) (by omega)).1]; exact a6 t ht
  · rw [(hc 10 (by omega)).1]; exact a7
  · rw [(hc 17 (by omega)).1]; exact a8
  · rw [(hc (18 + q) (by omega)).1]; exact a9 q hq
  · rw [(hc 1 (by omega)).2.2]; exact b1
  · rw [(hc 1 (by omega)).2.2]; exact b2
  · rw [(hc 1 (by omega)).2.2]; exact b3
  · rw [(hc 1 (by omega)).2.2]; exact b4
  · rw [(hc 1 (by omega)).2.2]; exact b5
  · rw [(hc 1 (by omega)).2.2]; exact b6
  · rw [(hc 5 (by omega)).2.2]; exact b7 t ht
  · rw [(hc 10 (by omega)).2.2]; exact b8 i hi
  · rw [(hc 17 (by omega)).2.2]; exact (b9 j hj).2
  · rw [(hc 1 (by omega)).2.1]; exact c1
  · rw [(hc 3 (by omega)).2.1]; exact c2
  · rw [(hc 4 (by omega)).2.1]; exact c3
  · rw [(hc (6 + t) (by omega)).2.1]; exact c4 t ht i hi
  · rw [(hc _ (gm z hz)).2.1]; exact c5 z hz i hi
  · rw [(hc (18 + q) (by omega)).2.1]; exact c6 q hq i hi x1 x2
  · rw [(hc (18 + q) (by omega)).2.2]; exact (c7 q hq i hi).2
  · rw [(hc 1 (by omega)).2.2]; exact gchA.fr F A _ d1
  · rw [(hc 1 (by omega)).2.2]; exact gchB.fr F B _ d2
/-- h is h0 with one cell more, of the kind kd, that holds f, and o at ri -/
def gPn (kd : Nat × Nat) (ri : Nat) (h0 h : gH) (c : Nat) (f : Nat → Int) (o : Option Nat) : Prop := FrX h0 h ∧ (∀ a, a ≤ 33 → gK h a = gK h0 a ∧ gI h a = gI h0 a ∧ gR h a = gR h0 a) ∧ c = gn h0 + 1 ∧ gn h = c ∧ 33 ≤ gn h0 ∧ gK h c = kd ∧ gI h c = f ∧ gR h c ri = o
theorem gPn.new {kd : Nat × Nat} {ri : Nat} {h : gH} (hn : 33 ≤ gn h) : gPn kd ri h (gnew h kd) (gn h + 1) (fun _ => 0) none := by
  have eK : ∀ b, gK (gnew h kd) b = if b = gn h + 1 then kd else gK h b := fun _ => rfl
  have eI : ∀ b, gI (gnew h kd) b = if b = gn h + 1 then (fun _ => 0) else gI h b := fun _ => rfl
  have eR : ∀ b, gR (gnew h kd) b = if b = gn h + 1 then (fun _ => none) else gR h b := fun _ => rfl
  have eJ : ∀ b, gJ (gnew h kd) b = if b = gn h + 1 then 0 else gJ h b := fun _ => rfl
  refine ⟨⟨Nat.le_succ _, fun a h1 h2 => ⟨by rw [eK, if_neg (by omega)], by rw [eI, if_neg (by omega)], by rw [eR, if_neg (by omega)], by rw [eJ, if_neg (by omega)]⟩⟩, fun a ha => ⟨by rw [eK, if_neg (by omega)], by rw [eI, if_neg (by omega)], by rw [eR, if_neg (by omega)]⟩, rfl, rfl, hn, by rw [eK, if_pos rfl], by rw [eI, if_pos rfl], by rw [eR, if_pos rfl]⟩
theorem gPn.I {kd : Nat × Nat} {ri : Nat} {h0 h : gH} {c : Nat} {f : Nat → Int} {o : Option Nat} (P : gPn kd ri h0 h c f o) (i : Nat) (v : Int) : gPn kd ri h0 (gputI h c i v) c (va_up f i v) o := by
  obtain ⟨⟨f1, f2⟩, p2, p3, p4, p5, p6, p7, p8⟩ := P
  refine ⟨⟨f1, fun a h1 h2 => ?_⟩, fun a ha => ?_, p3, p4, p5, p6, ?_, p8⟩
  · obtain ⟨x1, x2, x3, x4⟩ := f2 a h1 h2
    exact ⟨x1, by rw [gI_putI, if_neg (by omega)]; exact x2, x3, x4⟩
  · obtain ⟨x1, x2, x3⟩ := p2 a ha
    exact ⟨x1, by rw [gI_putI, if_neg (by omega)]; exact x2, x3⟩
  · rw [gI_putI, if_pos rfl, p7]
theorem gPn.R {kd : Nat × Nat} {ri : Nat} {h0 h : gH} {c : Nat} {f : Nat → Int} {o : Option Nat} (P : gPn kd ri h0 h c f o) (o2 : Option Nat) : gPn kd ri h0 (gputR h c ri o2) c f o2 := by
  obtain ⟨⟨f1, f2⟩, p2, p3, p4, p5, p6, p7, p8⟩ := P
  refine ⟨⟨f1, fun a h1 h2 => ?_⟩, fun a ha => ?_, p3, p4, p5, p6, p7, ?_⟩
  · obtain ⟨x1, x2, x3, x4⟩ := f2 a h1 h2
    exact ⟨x1, x2, by rw [gR_putR, if_neg (by omega)]; exact x3, x4⟩
  · obtain ⟨x1, x2, x3⟩ := p2 a ha
    exact ⟨x1, x2, by rw [gR_putR, if_neg (by omega)]; exact x3⟩
  · rw [gR_putR, if_pos rfl]; unfold va_up; rw [if_pos rfl]
/-- the new change becomes the last one -/
theorem RX.logA {Y : gS} {s : Nat → Nat} {A : List gCE} {B : List gOE} {h0 h : gH} {c : Nat} {f : Nat → Int} (H0 : RX Y s A B h0) (P : gPn (0, 6) 1 h0 h c f (gR h0 1 12)) : RX Y s ((f 0, f 2, f 3, f 4, f 5) :: A) B (gputR h 1 12 (some c)) := by
  have H := H0.ext P.1 P.2.1
  obtain ⟨⟨f1, f2⟩, p2, p3, p4, p5, p6, p7, p8⟩ := P
  obtain ⟨g1, g2, ⟨⟨b1, b2, b3, b4, b5, b6⟩, b7, b8, b9⟩, ⟨c1, c2, c3, c4, c5, c6, c7⟩, d1, d2⟩ := H
  have F : FrX h (gputR h 1 12 (some c)) := FrX.putR (by omega)
  refine ⟨g1, g2, ⟨⟨?_, ?_, ?_, ?_, ?_, ?_⟩, fun t ht => ?_, fun i hi => ?_, fun j hj => ⟨(b9 j hj).1, ?_⟩⟩, ⟨c1, c2, c3, c4, c5, c6, fun q hq i hi => ⟨(c7 q hq i hi).1, ?_⟩⟩, ?_, ?_⟩
  · rw [gputR_R, if_neg (by omega)]; exact b1
  · rw [gputR_R, if_neg (by omega)]; exact b2
  · rw [gputR_R, if_neg (by omega)]; exact b3
  · rw [gputR_R, if_neg (by omega)]; exact b4
  · rw [gputR_R, if_neg (by omega)]; exact b5
  · rw [gputR_R, if_neg (by omega)]; exact b6
  · rw [gputR_R, if_neg (by omega)]; exact b7 t ht
  · rw [gputR_R, if_neg (by omega)]; exact b8 i hi
  · rw [gputR_R, if_neg (by omega)]; exact (b9 j hj).2
  · rw [gputR_R, if_neg (by omega)]; exact (c7 q hq i hi).2
  · refine ⟨c, by rw [gputR_R, if_pos ⟨rfl, rfl⟩], by omega, by show c ≤ gn h; omega, p6, by rw [gI_putR, p7], by rw [gI_putR, p7], by rw [gI_putR, p7], by rw [gI_putR, p7], by rw [gI_putR, p7], ?_⟩
    rw [gputR_R, if_neg (by omega), p8]
    rw [(p2 1 (by omega)).2.2] at d1
    exact gchA.fr F A _ d1
  · rw [gputR_R, if_neg (by omega)]
    exact gchB.fr F B _ d2
theorem RX.logB {Y : gS} {s : Nat → Nat} {A : List gCE} {B : List gOE} {h0 h : gH} {c : Nat} {f : Nat → Int} (H0 : RX Y s A B h0) (P : gPn (1, 4) 3 h0 h c f (gR h0 1 14)) : RX Y s A ((f 0, f 1, f 2) :: B) (gputR h 1 14 (some c)) := by
  have H := H0.ext P.1 P.2.1
  obtain ⟨⟨f1, f2⟩, p2, p3, p4, p5, p6, p7, p8⟩ := P
  obtain ⟨g1, g2, ⟨⟨b1, b2, b3, b4, b5, b6⟩, b7, b8, b9⟩, ⟨c1, c2, c3, c4, c5, c6, c7⟩, d1, d2⟩ := H
  have F : FrX h (gputR h 1 14 (some c)) := FrX.putR (by omega)
  refine ⟨g1, g2, ⟨⟨?_, ?_, ?_, ?_, ?_, ?_⟩, fun t ht => ?_, fun i hi => ?_, fun j hj => ⟨(b9 j hj).1, ?_⟩⟩, ⟨c1, c2, c3, c4, c5, c6, fun q hq i hi => ⟨(c7 q hq i hi).1, ?_⟩⟩, ?_, ?_⟩
  · rw [gputR_R, if_neg (by omega)]; exact b1
  · rw [gputR_R, if_neg (by omega)]; exact b2
  · rw [gputR_R, if_neg (by omega)]; exact b3
  · rw [gputR_R, if_neg (by omega)]; exact b4
  · rw [gputR_R, if_neg (by omega)]; exact b5
  · rw [gputR_R, if_neg (by omega)]; exact b6
  · rw [gputR_R, if_neg (by omega)]; exact b7 t ht
  · rw [gputR_R, if_neg (by omega)]; exact b8 i hi
  · rw [gputR_R, if_neg (by omega)]; exact (b9 j hj).2
  · rw [gputR_R, if_neg (by omega)]; exact (c7 q hq i hi).2
  · rw [gputR_R, if_neg (by omega)]
    exact gchA.fr F A _ d1
  · refine ⟨c, by rw [gputR_R, if_pos ⟨rfl, rfl⟩], by omega, by show c ≤ gn h; omega, p6, by rw [gI_putR, p7], by rw [gI_putR, p7], by rw [gI_putR, p7], ?_⟩
    rw [gputR_R, if_neg (by omega), p8]
    rw [(p2 1 (by omega)).2.2] at d2
    exact gchB.fr F B _ d2
section XD0
variable {w : gW} {l : Launch} {y : MethodName} {cc : ByteArray} {nL : Nat} {ret : Option FieldType} {d mc ms : Nat} {post : Option Value → gH → Prop} {px : String → gH → Prop} {m : MethodId} {Wp : Heap → List Loc → Nat → Nat → JFrame → Prop}
variable {h : gH} {k u : Nat} {lo lo' : List (Option Value)} {st : List Value} {pc : Nat}
theorem gv_rf (w : gW) (o : Option Nat) : gv w (va_rf o) = va_rf (o.map (gρ w)) := by cases o <;> rfl
/-- a reference field, null or not -/
theorem g_geto (C : gC w l y cc nL ret d mc ms post px m Wp) {idx ci N i a : Nat} {ty : FieldType} {fin : Bool} (hf : gF y idx ci N i ty fin) (hr : gRf ci i = true) (hK : gK h a = (ci, N)) (o : Option Nat) (ho : gR h a i = o) (hd : decode cc pc = .ok (.getfield idx, 3)) (kk : gG w m nL Wp h k u lo (va_rf o :: st) (pc + 3)) : gG w m nL Wp h k u lo (.ref a :: st) pc :=
  g_getv C hf hK hd (v := va_rf o) (by rw [gv_rf]; simp [gfv, hr, ho]) kk
theorem g_puto (C : gC w l y cc nL ret d mc ms post px m Wp) {idx ci N i a : Nat} {o : Option Nat} {ty : FieldType} {fin : Bool} (hf : gF y idx ci N i ty fin) (hr : gRf ci i = true) (hty : (∃ E, ty = .object E) ∨ ∃ E, ty = .array E) (hfin : fin = false ∨ (y.name = "<init>" ∧ ∃ C0 T0, vwCl[ci]? = some (C0, T0, N) ∧ (T0 i).1 = y.cls ∧ Cond.fieldLink y.cls idx (T0 i).1 (T0 i).2.1 (T0 i).2.2.1 ∈ gTb)) (hK : gK h a = (ci, N)) (hd : decode cc pc = .ok (.putfield idx, 3)) (kk : gG w m nL Wp (gputR h a i o) k u lo st (pc + 3)) : gG w m nL Wp h k u lo (va_rf o :: .ref a :: st) pc := by
  cases o with
  | none => exact g_putn C hf hr hty hfin hK hd kk
  | some b => exact g_putr C hf hr hty hfin hK hd kk
theorem g_aload_no (C : gC w l y cc nL ret d mc ms post px m Wp) {f : Fin 4} (i : Nat) {o : Option Nat} (hd : decode cc pc = .ok (.aload_n f, 1)) (hi : (f : Nat) = i) (hl : lo[i]? = some (some (va_rf o))) (kk : gG w m nL Wp h k u lo (va_rf o :: st) (pc + 1)) : gG w m nL Wp h k u lo st pc := by
  cases o with
  | none => exact g_aload_nN C i hd hi hl kk
  | some b => exact g_aload_n C i hd hi hl kk
theorem g_aloado (C : gC w l y cc nL ret d mc ms post px m Wp) {i : Nat} {o : Option Nat} (hd : decode cc pc = .ok (.aload i, 2)) (hl : lo[i]? = some (some (va_rf o))) (kk : gG w m nL Wp h k u lo (va_rf o :: st) (pc + 2)) : gG w m nL Wp h k u lo st pc := by
  cases o with
  | none =>
    obtain ⟨p, e, s, args, below, meth, c, rfl, hx, hb, -⟩ := C
    exact fun H locs ls h1 h2 h3 => lv_aloadN hx hb hd (h3.2 i _ hl).2 (kk H locs ls h1 h2 h3)
  | some b => exact g_aload C hd hl kk
end XD0
section XD
variable {w : gW} {l : Launch} {Y : gS} {s : Nat → Nat} {A : List gCE} {B : List gOE}

def ydraw (Y : gS) (s : Nat → Nat) (nm ns : Nat) : gS :=
  if yheat Y s ns (yhot Y s ns nm) - yheat Y s ns (ycold Y s ns nm) < Y 0 9 ∨ ymv Y s (yhot Y s ns nm) ns ≠ 0 then Y
  else if 0 ≤ ybest Y s (yhot Y s ns nm) ns ∧ 0 < Y 18 (s (ybest Y s (yhot Y s ns nm) ns).toNat) then yaim Y (s (ybest Y s (yhot Y s ns nm) ns).toNat) (ycold Y s ns nm) else Y
theorem ymv_01 (Y : gS) (s : Nat → Nat) (z : Nat) : ∀ k, ymv Y s z k = 0 ∨ ymv Y s z k = 1
  | 0 => Or.inl rfl
  | k + 1 => by unfold ymv; split <;> simp

set_option maxRecDepth 100000 in
set_option maxHeartbeats 4000000 in
theorem e5_draw (nm ns : Nat) (hm : Y 0 5 = nm) (hnm : nm ≤ 6) (hn : Y 0 7 = ns) (hns : ns ≤ 16) (hN : gNu Y) (hup : ∀ z : Nat, z ≤ 6 → 0 ≤ Y 3 z ∧ Y 3 z ≤ 1) (hR : ∀ z, (-2147483648 ≤ yheat Y s ns z ∧ yheat Y s ns z < 2147483648)) (hh : ∀ i, i < ns → (-2147483648 ≤ Y 18 (s i) ∧ Y 18 (s i) < 2147483648)) (rgd : (-2147483648 ≤ (yheat Y s ns (yhot Y s ns nm) - yheat Y s ns (ycold Y s ns nm)) ∧ (yheat Y s ns (yhot Y s ns nm) - yheat Y s ns (ycold Y s ns nm)) < 2147483648)) (rg9 : (-2147483648 ≤ Y 0 9 ∧ Y 0 9 < 2147483648)) : gXc w l yX5_drawMoveByHeat cX5_drawMoveByHeat 4 none 2 0 0 [.ref 1] Y s A B (none) (ydraw Y s nm ns) s A B := by
  refine gXc_start (by decide +kernel) (by simp [Value.category]) (Nat.le_of_ble_eq_true rfl) (fun m Wp h C H F => ?_)
  have hz1 : yhot Y s ns nm ≤ 6 := Nat.le_trans (yhot_r Y s ns nm) hnm
  have hz2 : ycold Y s ns nm ≤ 6 := Nat.le_trans (ycold_r Y s ns nm) hnm
  have hm01 := ymv_01 Y s (yhot Y s ns nm) ns
  have rgm := gd01 hm01
  have hbr := ybest_r Y s (yhot Y s ns nm) ns
  by_cases e1 : yheat Y s ns (yhot Y s ns nm) - yheat Y s ns (ycold Y s ns nm) < Y 0 9 ∨ ymv Y s (yhot Y s ns nm) ns ≠ 0
  · rw [ydraw, if_pos e1] at C
    show gG w m 4 Wp h 0 0 [some (.ref 1), none, none, none] [] 0
    refine g_aload_n C 0 dX5_drawMoveByHeat_0 rfl rfl ?_
    refine x_call C H F [] _ (kX5_299 rfl) (e5_hottestMachineUp nm ns hm hnm hn hns hup hR) rfl rfl H.2.1.1 (by decide) (by omega) (by omega) (Nat.le_of_ble_eq_true rfl) dX5_drawMoveByHeat_1 (fun h H F => ?_)
    refine s_astore_n (lo' := [_, _, _, _]) C 1 dX5_drawMoveByHeat_4 rfl (by decide) rfl ?_
    refine g_aload_n C 0 dX5_drawMoveByHeat_5 rfl rfl ?_
    refine x_call C H F [] _ (kX5_303 rfl) (e5_coldestMachineUp nm ns hm hnm hn hns hup hR) rfl rfl H.2.1.1 (by decide) (by omega) (by omega) (Nat.le_of_ble_eq_true rfl) dX5_drawMoveByHeat_6 (fun h H F => ?_)
    refine s_astore_n (lo' := [_, _, _, _]) C 2 dX5_drawMoveByHeat_9 rfl (by decide) rfl ?_
    refine g_aload_n C 0 dX5_drawMoveByHeat_10 rfl rfl ?_
    refine g_aload_n C 1 dX5_drawMoveByHeat_11 rfl rfl ?_
    refine x_call C H F [_] _ (kX5_209 rfl) (e5_heatOf (z := (yhot Y s ns nm)) (by omega) ns hn hns) rfl rfl H.2.1.1 (by decide) (by omega) (by omega) (Nat.le_of_ble_eq_true rfl) dX5_drawMoveByHeat_12 (fun h H F => ?_)
    refine g_aload_n C 0 dX5_drawMoveByHeat_15 rfl rfl ?_
    refine g_aload_n C 2 dX5_drawMoveByHeat_16 rfl rfl ?_
    refine x_call C H F [_] _ (kX5_209 rfl) (e5_heatOf (z := (ycold Y s ns nm)) (by omega) ns hn hns) rfl rfl H.2.1.1 (by decide) (by omega) (by omega) (Nat.le_of_ble_eq_true rfl) dX5_drawMoveByHeat_17 (fun h H F => ?_)
    refine g_isub C dX5_drawMoveByHeat_20 ?_
    refine g_aload_n C 0 dX5_drawMoveByHeat_21 rfl rfl ?_
    refine x_gmain C H (fX5_101 rfl) rfl (Y 0 9) rfl dX5_drawMoveByHeat_22 ?_
    refine g_icmp_lt C 36 dX5_drawMoveByHeat_25 (by decide) rgd rg9 (fun c25 => ?_) (fun c25 => ?_)
    · exact g_vret C dX5_drawMoveByHeat_36 (by omega) (by omega) ⟨rfl, H, F⟩
    · refine g_aload_n C 0 dX5_drawMoveByHeat_28 rfl rfl ?_
      refine g_aload_n C 1 dX5_drawMoveByHeat_29 rfl rfl ?_
      refine x_call C H F [_] _ (kX5_306 rfl) (e5_movesAwayFrom hz1 ns hn hns hN) rfl rfl H.2.1.1 (by decide) (by omega) (by omega) (Nat.le_of_ble_eq_true rfl) dX5_drawMoveByHeat_30 (fun h H F => ?_)
      refine g_if_eq C 37 dX5_drawMoveByHeat_33 (by decide) rgm (fun c33 => ?_) (fun c33 => ?_)
      · omega
      · exact g_vret C dX5_drawMoveByHeat_36 (by omega) (by omega) ⟨rfl, H, F⟩
  · have e2 : ydraw Y s nm ns = _ := if_neg e1
    by_cases e3 : 0 ≤ ybest Y s (yhot Y s ns nm) ns
    · have hsb : s (ybest Y s (yhot Y s ns nm) ns).toNat < 16 := (H.2.2.1.2.2.2 _ (by omega)).1
      show gG w m 4 Wp h 0 0 [some (.ref 1), none, none, none] [] 0
      refine g_aload_n C 0 dX5_drawMoveByHeat_0 rfl rfl ?_
      refine x_call C H F [] _ (kX5_299 rfl) (e5_hottestMachineUp nm ns hm hnm hn hns hup hR) rfl rfl H.2.1.1 (by decide) (by omega) (by omega) (Nat.le_of_ble_eq_true rfl) dX5_drawMoveByHeat_1 (fun h H F => ?_)
      refine s_astore_n (lo' := [_, _, _, _]) C 1 dX5_drawMoveByHeat_4 rfl (by decide) rfl ?_
      refine g_aload_n C 0 dX5_drawMoveByHeat_5 rfl rfl ?_
      refine x_call C H F [] _ (kX5_303 rfl) (e5_coldestMachineUp nm ns hm hnm hn hns hup hR) rfl rfl H.2.1.1 (by decide) (by omega) (by omega) (Nat.le_of_ble_eq_true rfl) dX5_drawMoveByHeat_6 (fun h H F => ?_)
      refine s_astore_n (lo' := [_, _, _, _]) C 2 dX5_drawMoveByHeat_9 rfl (by decide) rfl ?_
      refine g_aload_n C 0 dX5_drawMoveByHeat_10 rfl rfl ?_
      refine g_aload_n C 1 dX5_drawMoveByHeat_11 rfl rfl ?_
      refine x_call C H F [_] _ (kX5_209 rfl) (e5_heatOf (z := (yhot Y s ns nm)) (by omega) ns hn hns) rfl rfl H.2.1.1 (by decide) (by omega) (by omega) (Nat.le_of_ble_eq_true rfl) dX5_drawMoveByHeat_12 (fun h H F => ?_)
      refine g_aload_n C 0 dX5_drawMoveByHeat_15 rfl rfl ?_
      refine g_aload_n C 2 dX5_drawMoveByHeat_16 rfl rfl ?_
      refine x_call C H F [_] _ (kX5_209 rfl) (e5_heatOf (z := (ycold Y s ns nm)) (by omega) ns hn hns) rfl rfl H.2.1.1 (by decide) (by omega) (by omega) (Nat.le_of_ble_eq_true rfl) dX5_drawMoveByHeat_17 (fun h H F => ?_)
      refine g_isub C dX5_drawMoveByHeat_20 ?_
      refine g_aload_n C 0 dX5_drawMoveByHeat_21 rfl rfl ?_
      refine x_gmain C H (fX5_101 rfl) rfl (Y 0 9) rfl dX5_drawMoveByHeat_22 ?_
      refine g_icmp_lt C 36 dX5_drawMoveByHeat_25 (by decide) rgd rg9 (fun c25 => ?_) (fun c25 => ?_)
      · omega
      · refine g_aload_n C 0 dX5_drawMoveByHeat_28 rfl rfl ?_
        refine g_aload_n C 1 dX5_drawMoveByHeat_29 rfl rfl ?_
        refine x_call C H F [_] _ (kX5_306 rfl) (e5_movesAwayFrom hz1 ns hn hns hN) rfl rfl H.2.1.1 (by decide) (by omega) (by omega) (Nat.le_of_ble_eq_true rfl) dX5_drawMoveByHeat_30 (fun h H F => ?_)
        refine g_if_eq C 37 dX5_drawMoveByHeat_33 (by decide) rgm (fun c33 => ?_) (fun c33 => ?_)
        · refine g_aload_n C 0 dX5_drawMoveByHeat_37 rfl rfl ?_
          refine g_aload_n C 1 dX5_drawMoveByHeat_38 rfl rfl ?_
          refine x_call C H F [_] _ (kX5_310 rfl) (e5_hottestShardOn hz1 ns hn hns hh) rfl rfl H.2.1.1 (by decide) (by omega) (by omega) (Nat.le_of_ble_eq_true rfl) dX5_drawMoveByHeat_39 (fun h H F => ?_)
          refine s_istore_n (lo' := [_, _, _, _]) C 3 dX5_drawMoveByHeat_42 rfl (by decide) rfl ?_
          refine g_aload_n C 0 dX5_drawMoveByHeat_43 rfl rfl ?_
          refine g_iload_n C 3 dX5_drawMoveByHeat_44 rfl rfl ?_
          refine x_call C H F [_] _ (kX5_160 rfl) (e5_isShard_t (ybest Y s (yhot Y s ns nm) ns) (by omega) (by omega) (by omega)) rfl rfl H.2.1.1 (by decide) (by omega) (by omega) (Nat.le_of_ble_eq_true rfl) dX5_drawMoveByHeat_45 (fun h H F => ?_)
          refine g_if_eq C 73 dX5_drawMoveByHeat_48 (by decide) (by omega) (fun c48 => ?_) (fun c48 => ?_)
          · omega
          · refine g_aload_n C 0 dX5_drawMoveByHeat_51 rfl rfl ?_
            refine x_rmain C H 17 (fX5_38 rfl) (by omega) dX5_drawMoveByHeat_52 ?_
            refine g_iload_n C 3 dX5_drawMoveByHeat_55 rfl rfl ?_
            refine x_shas C H (ybest Y s (yhot Y s ns nm) ns).toNat (by omega) (by omega) (s (ybest Y s (yhot Y s ns nm) ns).toNat) rfl dX5_drawMoveByHeat_56 ?_
            refine x_gsha C H hsb (by omega) (fX5_142 rfl) rfl (Y 18 (s (ybest Y s (yhot Y s ns nm) ns).toNat)) rfl dX5_drawMoveByHeat_57 ?_
            refine g_if_le C 73 dX5_drawMoveByHeat_60 (by decide) (hh _ (by omega)) (fun c60 => ?_) (fun c60 => ?_)
            · rw [e2, if_neg (fun z => by omega)] at C
              exact g_vret C dX5_drawMoveByHeat_73 (by omega) (by omega) ⟨rfl, H, F⟩
            · rw [e2, if_pos ⟨e3, by omega⟩] at C
              refine g_aload_n C 0 dX5_drawMoveByHeat_63 rfl rfl ?_
              refine x_rmain C H 17 (fX5_38 rfl) (by omega) dX5_drawMoveByHeat_64 ?_
              refine g_iload_n C 3 dX5_drawMoveByHeat_67 rfl rfl ?_
              refine x_shas C H (ybest Y s (yhot Y s ns nm) ns).toNat (by omega) (by omega) (s (ybest Y s (yhot Y s ns nm) ns).toNat) rfl dX5_drawMoveByHeat_68 ?_
              refine g_aload_n C 2 dX5_drawMoveByHeat_69 rfl rfl ?_
              refine x_call C H F [_] _ (kX5_179 rfl) (e3_aimAt hsb hz2) rfl rfl (H.2.1.2.2.2.2.2.2.2.2 _ hsb) (by decide) (by omega) (by omega) (Nat.le_of_ble_eq_true rfl) dX5_drawMoveByHeat_70 (fun h H F => ?_)
              exact g_vret C dX5_drawMoveByHeat_73 (by omega) (by omega) ⟨rfl, H, F⟩
        · omega
    · rw [e2, if_neg (fun z => e3 z.1)] at C
      show gG w m 4 Wp h 0 0 [some (.ref 1), none, none, none] [] 0
      refine g_aload_n C 0 dX5_drawMoveByHeat_0 rfl rfl ?_
      refine x_call C H F [] _ (kX5_299 rfl) (e5_hottestMachineUp nm ns hm hnm hn hns hup hR) rfl rfl H.2.1.1 (by decide) (by omega) (by omega) (Nat.le_of_ble_eq_true rfl) dX5_drawMoveByHeat_1 (fun h H F => ?_)
      refine s_astore_n (lo' := [_, _, _, _]) C 1 dX5_drawMoveByHeat_4 rfl (by decide) rfl ?_
      refine g_aload_n C 0 dX5_drawMoveByHeat_5 rfl rfl ?_
      refine x_call C H F [] _ (kX5_303 rfl) (e5_coldestMachineUp nm ns hm hnm hn hns hup hR) rfl rfl H.2.1.1 (by decide) (by omega) (by omega) (Nat.le_of_ble_eq_true rfl) dX5_drawMoveByHeat_6 (fun h H F => ?_)
      refine s_astore_n (lo' := [_, _, _, _]) C 2 dX5_drawMoveByHeat_9 rfl (by decide) rfl ?_
      refine g_aload_n C 0 dX5_drawMoveByHeat_10 rfl rfl ?_
      refine g_aload_n C 1 dX5_drawMoveByHeat_11 rfl rfl ?_
      refine x_call C H F [_] _ (kX5_209 rfl) (e5_heatOf (z := (yhot Y s ns nm)) (by omega) ns hn hns) rfl rfl H.2.1.1 (by decide) (by omega) (by omega) (Nat.le_of_ble_eq_true rfl) dX5_drawMoveByHeat_12 (fun h H F => ?_)
      refine g_aload_n C 0 dX5_drawMoveByHeat_15 rfl rfl ?_
      refine g_aload_n C 2 dX5_drawMoveByHeat_16 rfl rfl ?_
      refine x_call C H F [_] _ (kX5_209 rfl) (e5_heatOf (z := (ycold Y s ns nm)) (by omega) ns hn hns) rfl rfl H.2.1.1 (by decide) (by omega) (by omega) (Nat.le_of_ble_eq_true rfl) dX5_drawMoveByHeat_17 (fun h H F => ?_)
      refine g_isub C dX5_drawMoveByHeat_20 ?_
      refine g_aload_n C 0 dX5_drawMoveByHeat_21 rfl rfl ?_
      refine x_gmain C H (fX5_101 rfl) rfl (Y 0 9) rfl dX5_drawMoveByHeat_22 ?_
      refine g_icmp_lt C 36 dX5_drawMoveByHeat_25 (by decide) rgd rg9 (fun c25 => ?_) (fun c25 => ?_)
      · omega
      · refine g_aload_n C 0 dX5_drawMoveByHeat_28 rfl rfl ?_
        refine g_aload_n C 1 dX5_drawMoveByHeat_29 rfl rfl ?_
        refine x_call C H F [_] _ (kX5_306 rfl) (e5_movesAwayFrom hz1 ns hn hns hN) rfl rfl H.2.1.1 (by decide) (by omega) (by omega) (Nat.le_of_ble_eq_true rfl) dX5_drawMoveByHeat_30 (fun h H F => ?_)
        refine g_if_eq C 37 dX5_drawMoveByHeat_33 (by decide) rgm (fun c33 => ?_) (fun c33 => ?_)
        · refine g_aload_n C 0 dX5_drawMoveByHeat_37 rfl rfl ?_
          refine g_aload_n C 1 dX5_drawMoveByHeat_38 rfl rfl ?_
          refine x_call C H F [_] _ (kX5_310 rfl) (e5_hottestShardOn hz1 ns hn hns hh) rfl rfl H.2.1.1 (by decide) (by omega) (by omega) (Nat.le_of_ble_eq_true rfl) dX5_drawMoveByHeat_39 (fun h H F => ?_)
          refine s_istore_n (lo' := [_, _, _, _]) C 3 dX5_drawMoveByHeat_42 rfl (by decide) rfl ?_
          refine g_aload_n C 0 dX5_drawMoveByHeat_43 rfl rfl ?_
          refine g_iload_n C 3 dX5_drawMoveByHeat_44 rfl rfl ?_
          refine x_call C H F [_] _ (kX5_160 rfl) (e5_isShard_f (ybest Y s (yhot Y s ns nm) ns) (by omega) (by omega) (by omega)) rfl rfl H.2.1.1 (by decide) (by omega) (by omega) (Nat.le_of_ble_eq_true rfl) dX5_drawMoveByHeat_45 (fun h H F => ?_)
          refine g_if_eq C 73 dX5_drawMoveByHeat_48 (by decide) (by omega) (fun c48 => ?_) (fun c48 => ?_)
          · exact g_vret C dX5_drawMoveByHeat_73 (by omega) (by omega) ⟨rfl, H, F⟩
          · omega
        · omega

set_option maxRecDepth 100000 in
set_option maxHeartbeats 4000000 in
theorem e0_init {h0 h : gH} {c : Nat} {f : Nat → Int} {o o2 : Option Nat} (hr : Int) (P : gPn (0, 6) 1 h0 h c f o) : gCt w l yX0_init cX0_init 3 none 1 0 0 [.ref c, .int (iI hr), va_rf o2] h (fun q h' => q = none ∧ gPn (0, 6) 1 h0 h' c (va_up f 0 hr) o2) := by
  refine gCt.of (gStart (by decide +kernel) (fun v hv => by simp only [List.mem_cons, List.not_mem_nil, or_false] at hv; rcases hv with rfl | rfl | rfl <;> first | rfl | (cases o2 <;> rfl)) (Nat.le_of_ble_eq_true rfl) (fun m Wp C => ?_))
  show gG w m 3 Wp h 0 0 [some (.ref c), some (.int (iI hr)), some (va_rf o2)] [] 0
  refine g_aload_n C 0 dX0_init_0 rfl rfl ?_
  refine g_objInit C (koX0 rfl) (by decide) (Nat.le_of_ble_eq_true rfl) dX0_init_1 ?_
  refine g_aload_n C 0 dX0_init_4 rfl rfl ?_
  refine g_iload_n C 1 dX0_init_5 rfl rfl ?_
  refine g_puti C (fX0_7 rfl) rfl (fiX0_7 rfl rfl) P.2.2.2.2.2.1 dX0_init_6 ?_
  have P := P.I 0 hr
  refine g_aload_n C 0 dX0_init_9 rfl rfl ?_
  refine g_aload_no C 2 dX0_init_10 rfl rfl ?_
  refine g_puto C (fX0_13 rfl) rfl (Or.inl ⟨_, rfl⟩) (fiX0_13 rfl rfl) P.2.2.2.2.2.1 dX0_init_11 ?_
  exact g_vret C dX0_init_14 (Nat.le_refl _) (Nat.le_refl _) ⟨rfl, P.R o2⟩

set_option maxRecDepth 100000 in
set_option maxHeartbeats 4000000 in
theorem e0_setBefore {h0 h : gH} {c : Nat} {f : Nat → Int} {o : Option Nat} (t b : Int) (P : gPn (0, 6) 1 h0 h c f o) : gCt w l yX0_setBefore cX0_setBefore 3 none 0 0 0 [.ref c, .int (iI t), .int (iI b)] h (fun q h' => q = none ∧ gPn (0, 6) 1 h0 h' c (va_up (va_up f 2 t) 3 b) o) := by
  refine gCt.of (gStart (by decide +kernel) (by simp [Value.category]) (Nat.le_of_ble_eq_true rfl) (fun m Wp C => ?_))
  show gG w m 3 Wp h 0 0 [some (.ref c), some (.int (iI t)), some (.int (iI b))] [] 0
  refine g_aload_n C 0 dX0_setBefore_0 rfl rfl ?_
  refine g_iload_n C 1 dX0_setBefore_1 rfl rfl ?_
  refine g_puti C (fX0_17 rfl) rfl (Or.inl rfl) P.2.2.2.2.2.1 dX0_setBefore_2 ?_
  have P := P.I 2 t
  refine g_aload_n C 0 dX0_setBefore_5 rfl rfl ?_
  refine g_iload_n C 2 dX0_setBefore_6 rfl rfl ?_
  refine g_puti C (fX0_20 rfl) rfl (Or.inl rfl) P.2.2.2.2.2.1 dX0_setBefore_7 ?_
  exact g_vret C dX0_setBefore_10 (Nat.le_refl _) (Nat.le_refl _) ⟨rfl, P.I 3 b⟩

set_option maxRecDepth 100000 in
set_option maxHeartbeats 4000000 in
theorem e0_setBehind {h0 h : gH} {c : Nat} {f : Nat → Int} {o : Option Nat} (t b : Int) (P : gPn (0, 6) 1 h0 h c f o) : gCt w l yX0_setBehind cX0_setBehind 3 none 0 0 0 [.ref c, .int (iI t), .int (iI b)] h (fun q h' => q = none ∧ gPn (0, 6) 1 h0 h' c (va_up (va_up f 4 t) 5 b) o) := by
  refine gCt.of (gStart (by decide +kernel) (by simp [Value.category]) (Nat.le_of_ble_eq_true rfl) (fun m Wp C => ?_))
  show gG w m 3 Wp h 0 0 [some (.ref c), some (.int (iI t)), some (.int (iI b))] [] 0
  refine g_aload_n C 0 dX0_setBehind_0 rfl rfl ?_
  refine g_iload_n C 1 dX0_setBehind_1 rfl rfl ?_
  refine g_puti C (fX0_23 rfl) rfl (Or.inl rfl) P.2.2.2.2.2.1 dX0_setBehind_2 ?_
  have P := P.I 4 t
  refine g_aload_n C 0 dX0_setBehind_5 rfl rfl ?_
  refine g_iload_n C 2 dX0_setBehind_6 rfl rfl ?_
  refine g_puti C (fX0_26 rfl) rfl (Or.inl rfl) P.2.2.2.2.2.1 dX0_setBehind_7 ?_
  exact g_vret C dX0_setBehind_10 (Nat.le_refl _) (Nat.le_refl _) ⟨rfl, P.I 5 b⟩

set_option maxRecDepth 100000 in
set_option maxHeartbeats 4000000 in
theorem e1_init {h0 h : gH} {c : Nat} {f : Nat → Int} {o o2 : Option Nat} (a b z : Int) (P : gPn (1, 4) 3 h0 h c f o) : gCt w l yX1_init cX1_init 5 none 1 0 0 [.ref c, .int (iI a), .int (iI b), .int (iI z), va_rf o2] h (fun q h' => q = none ∧ gPn (1, 4) 3 h0 h' c (va_up (va_up (va_up f 0 a) 1 b) 2 z) o2) := by
  refine gCt.of (gStart (by decide +kernel) (fun v hv => by simp only [List.mem_cons, List.not_mem_nil, or_false] at hv; rcases hv with rfl | rfl | rfl | rfl | rfl <;> first | rfl | (cases o2 <;> rfl)) (Nat.le_of_ble_eq_true rfl) (fun m Wp C => ?_))
  show gG w m 5 Wp h 0 0 [some (.ref c), some (.int (iI a)), some (.int (iI b)), some (.int (iI z)), some (va_rf o2)] [] 0
  refine g_aload_n C 0 dX1_init_0 rfl rfl ?_
  refine g_objInit C (koX1 rfl) (by decide) (Nat.le_of_ble_eq_true rfl) dX1_init_1 ?_
  refine g_aload_n C 0 dX1_init_4 rfl rfl ?_
  refine g_iload_n C 1 dX1_init_5 rfl rfl ?_
  refine g_puti C (fX1_7 rfl) rfl (fiX1_7 rfl rfl) P.2.2.2.2.2.1 dX1_init_6 ?_
  have P := P.I 0 a
  refine g_aload_n C 0 dX1_init_9 rfl rfl ?_
  refine g_iload_n C 2 dX1_init_10 rfl rfl ?_
  refine g_puti C (fX1_13 rfl) rfl (fiX1_13 rfl rfl) P.2.2.2.2.2.1 dX1_init_11 ?_
  have P := P.I 1 b
  refine g_aload_n C 0 dX1_init_14 rfl rfl ?_
  refine g_iload_n C 3 dX1_init_15 rfl rfl ?_
  refine g_puti C (fX1_16 rfl) rfl (fiX1_16 rfl rfl) P.2.2.2.2.2.1 dX1_init_16 ?_
  have P := P.I 2 z
  refine g_aload_n C 0 dX1_init_19 rfl rfl ?_
  refine g_aloado C dX1_init_20 rfl ?_
  refine g_puto C (fX1_19 rfl) rfl (Or.inl ⟨_, rfl⟩) (fiX1_19 rfl rfl) P.2.2.2.2.2.1 dX1_init_22 ?_
  exact g_vret C dX1_init_25 (Nat.le_refl _) (Nat.le_refl _) ⟨rfl, P.R o2⟩

def ycov (Y : gS) (q : Nat) : gS := su (yaim (su (su Y 4 (Y 12 q).toNat (Y 4 (Y 12 q).toNat - Y 17 q)) 12 q ((Y 13 q).toNat : Nat)) q 0) 0 10 (Y 0 10 + 1)

set_option maxRecDepth 100000 in
set_option maxHeartbeats 4000000 in
theorem e5_cutOver {q : Nat} (hq : q < 16) (h62 : (Y 12 q).toNat ≤ 6) (h63 : (Y 13 q).toNat ≤ 6) : gXc w l yX5_cutOver cX5_cutOver 2 none 2 1 4 [.ref 1, .ref (18 + q)] Y s A B (none) (ycov Y q) s A ((Y 10 q, Y 11 q, Y 1 (Y 13 q).toNat) :: B) := by
  refine gXc_start (by decide +kernel) (by simp [Value.category]) (Nat.le_of_ble_eq_true rfl) (fun m Wp h C H F => ?_)
  obtain ⟨h0, hh0⟩ : ∃ h0, h0 = h := ⟨_, rfl⟩
  rw [← hh0] at C
  have F : FrX h0 h := by rw [hh0]; exact F
  show gG w m 2 Wp h 0 0 [some (.ref 1), some (.ref (18 + q))] [] 0
  refine g_aload_n C 1 dX5_cutOver_0 rfl rfl ?_
  refine x_ghome C H hq (by omega) (fX5_117 rfl) rfl ((Y 12 q).toNat) rfl dX5_cutOver_1 ?_
  refine g_dup C dX5_cutOver_4 rfl ?_
  refine x_gmac C H h62 (by omega) (fX5_206 rfl) (Y 4 (Y 12 q).toNat) rfl dX5_cutOver_5 ?_
  refine g_aload_n C 1 dX5_cutOver_8 rfl rfl ?_
  refine x_gsha C H hq (by omega) (fX5_174 rfl) rfl (Y 17 q) rfl dX5_cutOver_9 ?_
  refine g_isub C dX5_cutOver_12 ?_
  refine x_pmac C H F h62 (by omega) (fX5_206 rfl) dX5_cutOver_13 (fun h H F => ?_)
  refine g_aload_n C 1 dX5_cutOver_16 rfl rfl ?_
  refine g_aload_n C 1 dX5_cutOver_17 rfl rfl ?_
  refine x_ghome C H hq (by omega) (fX5_201 rfl) rfl ((Y 13 q).toNat) rfl dX5_cutOver_18 ?_
  refine x_phome C H F hq (by omega) h63 (fX5_117 rfl) rfl dX5_cutOver_21 (fun h H F => ?_)
  refine g_aload_n C 1 dX5_cutOver_24 rfl rfl ?_
  refine g_aload_n C 0 dX5_cutOver_25 rfl rfl ?_
  refine x_rmain C H (gma 0) (fX5_14 rfl) (by omega) dX5_cutOver_26 ?_
  refine x_call C H F [_] _ (kX5_179 rfl) (e3_aimAt hq (by omega)) rfl rfl (H.2.1.2.2.2.2.2.2.2.2 _ hq) (by decide) (by omega) (by omega) (Nat.le_of_ble_eq_true rfl) dX5_cutOver_29 (fun h H F => ?_)
  refine g_aload_n C 0 dX5_cutOver_32 rfl rfl ?_
  refine g_dup C dX5_cutOver_33 rfl ?_
  refine x_gmain C H (fX5_245 rfl) rfl (Y 0 10) rfl dX5_cutOver_34 ?_
  refine g_iconst C dX5_cutOver_37 ?_
  refine g_iadd C dX5_cutOver_38 ?_
  refine x_pmain C H F (fX5_245 rfl) rfl dX5_cutOver_39 (fun h H F => ?_)
  refine g_aload_n C 0 dX5_cutOver_42 rfl rfl ?_
  obtain ⟨h2, hh2⟩ : ∃ h2, h2 = h := ⟨_, rfl⟩
  have H2 : RX (ycov Y q) s A B h2 := by rw [hh2]; exact H
  refine g_new C gbn1 (nX5_237 rfl) (Nat.le_refl _) (Nat.le_refl _) dX5_cutOver_43 ?_
  have P : gPn (1, 4) 3 h2 (gnew h (1, 4)) (gn h2 + 1) (fun _ => 0) none := by rw [hh2]; exact gPn.new H.1
  rw [show gn h = gn h2 by rw [hh2]]
  have F2 : FrX h0 (gnew h (1, 4)) := F.tr (by rw [hh2] at P; exact P.1)
  have H := H2.ext P.1 P.2.1
  generalize gnew h (1, 4) = h3 at P H F2
  refine g_dup C dX5_cutOver_46 rfl ?_
  refine g_aload_n C 1 dX5_cutOver_47 rfl rfl ?_
  refine x_gsha C H hq (by omega) (fX5_147 rfl) rfl (Y 10 q) rfl dX5_cutOver_48 ?_
  refine g_aload_n C 1 dX5_cutOver_51 rfl rfl ?_
  refine x_gsha C H hq (by omega) (fX5_171 rfl) rfl (Y 11 q) rfl dX5_cutOver_52 ?_
  refine g_aload_n C 1 dX5_cutOver_55 rfl rfl ?_
  refine x_ghome C H hq (Or.inl rfl) (fX5_117 rfl) rfl (Y 13 q).toNat (by show (va_up (α := Int) _ q _ q).toNat = _; rw [va_up, if_pos rfl, Int.toNat_natCast]) dX5_cutOver_56 ?_
  refine x_gmac C H h63 (by omega) (fX5_71 rfl) (Y 1 (Y 13 q).toNat) rfl dX5_cutOver_59 ?_
  refine g_aload_n C 0 dX5_cutOver_62 rfl rfl ?_
  refine g_geto C (fX5_232 rfl) rfl H.2.1.1 (gR h2 1 14) (by rw [(P.2.1 1 (by omega)).2.2]) dX5_cutOver_63 ?_
  refine g_callI C [_, _, _, _] _ (kX5_278 (y := yX5_cutOver) rfl).1 (kX5_278 (y := yX5_cutOver) rfl).2 rfl (e1_init _ _ _ P) rfl rfl (by decide) (Nat.le_refl _) (Nat.le_refl _) (Nat.le_of_ble_eq_true rfl) dX5_cutOver_66 (fun r h4 e => ?_)
  obtain ⟨rfl, P4⟩ := e
  have H4 := H2.ext P4.1 P4.2.1
  refine g_putr C (fX5_232 rfl) rfl (Or.inl ⟨_, rfl⟩) (Or.inl rfl) H4.2.1.1 dX5_cutOver_69 ?_
  exact g_vret C dX5_cutOver_72 (Nat.le_refl _) (Nat.le_refl _) ⟨rfl, H2.logB P4, (F.tr (by rw [hh2] at P4; exact P4.1)).tr (FrX.putR (by omega))⟩

theorem yadd_ne {Y : gS} {t b : Int} {f i : Nat} (hf : f ≠ 5) : yadd Y t b f i = Y f i := by
  unfold yadd
  split
  · exact su_ne (by omega)
  · rfl
/-- the state behind a change at a key of the shard q, ahead of the copy -/
def ychg (Y : gS) (q k : Nat) (t b : Int) : gS := su (su (su (su (su (yadd (yadd (su Y 0 13 (Y 0 13 + 1)) (Y 9 k) (-Y 8 k)) t b) 9 k t) 8 k b) 17 q (Y 17 q + (b - Y 8 k))) 4 (Y 12 q).toNat (Y 4 (Y 12 q).toNat + (b - Y 8 k))) 18 q (Y 18 q + 1)
/-- .. and behind it -/
def ychc (V : gS) (q : Nat) (x v : Int) : gS := if V 13 q ≠ 0 ∧ x < V 14 q then (if V 4 (V 13 q).toNat + v ≤ V 2 (V 13 q).toNat then su (su V 4 (V 13 q).toNat (V 4 (V 13 q).toNat + v)) 16 q (V 16 q + v) else yfail V q) else V
theorem ychg_e (Y : gS) (q k : Nat) (t b : Int) : ychg Y q k t b 13 = Y 13 ∧ ychg Y q k t b 14 = Y 14 ∧ ychg Y q k t b 1 = Y 1 ∧ ychg Y q k t b 2 = Y 2 := by
  refine ⟨?_, ?_, ?_, ?_⟩ <;> (funext i; unfold ychg; simp only [su_f]; rw [if_neg (by omega), if_neg (by omega), if_neg (by omega), if_neg (by omega), if_neg (by omega), yadd_ne (by omega), yadd_ne (by omega), su_ne (by omega)])

set_option maxRecDepth 100000 in
set_option maxHeartbeats 4000000 in
theorem e5_change {q : Nat} (hq : q < 16) (hN : gNu Y) (x : Int) (k : Nat) (hx : x = (k : Int)) (hk : k < 1000) (t b : Int) (ht : -1 ≤ t ∧ t ≤ 3) (h9 : -1 ≤ Y 9 k ∧ Y 9 k ≤ 3) (h62 : (Y 12 q).toNat ≤ 6) (h63 : (Y 13 q).toNat ≤ 6) (h14 : (-2147483648 ≤ Y 14 q ∧ Y 14 q < 2147483648)) (rg1 : (-2147483648 ≤ (ychg Y q k t b 4 (ychg Y q k t b 13 q).toNat + (b - Y 8 k)) ∧ (ychg Y q k t b 4 (ychg Y q k t b 13 q).toNat + (b - Y 8 k)) < 2147483648)) (rg2 : (-2147483648 ≤ ychg Y q k t b 2 (ychg Y q k t b 13 q).toNat ∧ ychg Y q k t b 2 (ychg Y q k t b 13 q).toNat < 2147483648)) : gXc w l yX5_change cX5_change 7 none 3 1 6 [.ref 1, .ref (18 + q), .int (iI x), .int (iI t), .int (iI b)] Y s A B (none) (ychc (ychg Y q k t b) q x (b - Y 8 k)) s ((Y 0 8, Y 9 k, Y 8 k, t, b) :: A) B := by
  refine gXc_start (by decide +kernel) (by simp [Value.category]) (Nat.le_of_ble_eq_true rfl) (fun m Wp h C H F => ?_)
  obtain ⟨h0, hh0⟩ : ∃ h0, h0 = h := ⟨_, rfl⟩
  rw [← hh0] at C
  have F : FrX h0 h := by rw [hh0]; exact F
  have hxr : -2147483648 ≤ x ∧ x < 2147483648 := by omega
  show gG w m 7 Wp h 0 0 [some (.ref 1), some (.ref (18 + q)), some (.int (iI x)), some (.int (iI t)), some (.int (iI b)), none, none] [] 0
  obtain ⟨h2, hh2⟩ : ∃ h2, h2 = h := ⟨_, rfl⟩
  have H2 : RX Y s A B h2 := by rw [hh2]; exact H
  refine g_new C gbn0 (nX5_224 rfl) (Nat.le_refl _) (Nat.le_refl _) dX5_change_0 ?_
  have P : gPn (0, 6) 1 h2 (gnew h (0, 6)) (gn h2 + 1) (fun _ => 0) none := by rw [hh2]; exact gPn.new H.1
  rw [show gn h = gn h2 by rw [hh2]]
  have H := H2.ext P.1 P.2.1
  generalize gnew h (0, 6) = h3 at P H
  refine g_dup C dX5_change_3 rfl ?_
  refine g_aload_n C 0 dX5_change_4 rfl rfl ?_
  refine x_gmain C H (fX5_193 rfl) rfl (Y 0 8) rfl dX5_change_5 ?_
  refine g_aload_n C 0 dX5_change_8 rfl rfl ?_
  refine g_geto C (fX5_219 rfl) rfl H.2.1.1 (gR h2 1 12) (by rw [(P.2.1 1 (by omega)).2.2]) dX5_change_9 ?_
  refine g_callI C [_, _] _ (kX5_254 (y := yX5_change) rfl).1 (kX5_254 (y := yX5_change) rfl).2 rfl (e0_init _ P) rfl rfl (by decide) (Nat.le_refl _) (Nat.le_refl _) (Nat.le_of_ble_eq_true rfl) dX5_change_12 (fun r h4 e => ?_)
  obtain ⟨rfl, P⟩ := e
  have H := H2.ext P.1 P.2.1
  refine s_astore (lo' := [_, _, _, _, _, _, _]) C dX5_change_15 (by decide) rfl ?_
  refine g_aload C dX5_change_17 rfl ?_
  refine g_aload_n C 0 dX5_change_19 rfl rfl ?_
  refine x_rmain C H 4 (fX5_22 rfl) (by omega) dX5_change_20 ?_
  refine g_iload_n C 2 dX5_change_23 rfl rfl ?_
  refine x_own C H k hx hk (Y 9 (k)) rfl dX5_change_24 ?_
  refine g_aload_n C 0 dX5_change_25 rfl rfl ?_
  refine x_rmain C H 3 (fX5_18 rfl) (by omega) dX5_change_26 ?_
  refine g_iload_n C 2 dX5_change_29 rfl rfl ?_
  refine x_byt C H k hx hk (Y 8 (k)) rfl dX5_change_30 ?_
  refine g_callV C [_, _] _ (kX5_257 rfl) (e0_setBefore _ _ P) rfl rfl P.2.2.2.2.2.1 (by decide) (Nat.le_refl _) (Nat.le_refl _) (Nat.le_of_ble_eq_true rfl) dX5_change_31 (fun r h5 e => ?_)
  obtain ⟨rfl, P⟩ := e
  refine g_aload C dX5_change_34 rfl ?_
  refine g_iload_n C 3 dX5_change_36 rfl rfl ?_
  refine g_iload C dX5_change_37 rfl ?_
  refine g_callV C [_, _] _ (kX5_261 rfl) (e0_setBehind _ _ P) rfl rfl P.2.2.2.2.2.1 (by decide) (Nat.le_refl _) (Nat.le_refl _) (Nat.le_of_ble_eq_true rfl) dX5_change_39 (fun r h6 e => ?_)
  obtain ⟨rfl, P⟩ := e
  have H := H2.ext P.1 P.2.1
  refine g_aload_n C 0 dX5_change_42 rfl rfl ?_
  refine g_aload C dX5_change_43 rfl ?_
  refine g_putr C (fX5_219 rfl) rfl (Or.inl ⟨_, rfl⟩) (Or.inl rfl) H.2.1.1 dX5_change_45 ?_
  have F : FrX h0 (gputR h6 1 12 (some (gn h2 + 1))) := (F.tr (by rw [hh2] at P; exact P.1)).tr (FrX.putR (by omega))
  have H : RX Y s ((Y 0 8, Y 9 k, Y 8 k, t, b) :: A) B (gputR h6 1 12 (some (gn h2 + 1))) := H2.logA P
  generalize gputR h6 1 12 (some (gn h2 + 1)) = h7 at H F
  have K7 : ∀ h, RX (ychg Y q k t b) s ((Y 0 8, Y 9 k, Y 8 k, t, b) :: A) B h → FrX h0 h → gG w m 7 Wp h 1 6 [some (.ref 1), some (.ref (18 + q)), some (.int (iI x)), some (.int (iI t)), some (.int (iI b)), some (.ref (gn h2 + 1)), some (.int (iI (b - Y 8 k)))] [] 143 := by
    intro h H F
    obtain ⟨v13, v14, v1, v2⟩ := ychg_e Y q k t b
    have hNV : gNu (ychg Y q k t b) := fun z hz => by rw [v1]; exact hN z hz
    have hr14 : -2147483648 ≤ ychg Y q k t b 14 q ∧ ychg Y q k t b 14 q < 2147483648 := by rw [v14]; exact h14
    have h63 : (ychg Y q k t b 13 q).toNat ≤ 6 := by rw [v13]; exact h63
    generalize ychg Y q k t b = V at H C hNV hr14 h63 rg1 rg2
    by_cases em : V 13 q = 0
    · rw [ychc, if_neg (fun z => z.1 em)] at C
      refine g_aload_n C 1 dX5_change_143 rfl rfl ?_
      refine g_iload_n C 2 dX5_change_144 rfl rfl ?_
      refine x_call C H F [_] _ (kX5_267 rfl) (e3_hasCopied_f hq hNV x hxr hr14 em) rfl rfl (H.2.1.2.2.2.2.2.2.2.2 _ hq) (by decide) (by omega) (by omega) (Nat.le_of_ble_eq_true rfl) dX5_change_145 (fun h H F => ?_)
      refine g_if_eq C 158 dX5_change_148 (by decide) (by omega) (fun c148 => ?_) (fun c148 => ?_)
      · exact g_vret C dX5_change_158 (by omega) (by omega) ⟨rfl, H, F⟩
      · omega
    by_cases ex : x < V 14 q
    · have hbe : bI (x < V 14 q) = 1 := bI_t ex
      by_cases er : V 4 (V 13 q).toNat + (b - Y 8 k) ≤ V 2 (V 13 q).toNat
      · rw [ychc, if_pos ⟨em, ex⟩, if_pos er] at C
        refine g_aload_n C 1 dX5_change_143 rfl rfl ?_
        refine g_iload_n C 2 dX5_change_144 rfl rfl ?_
        refine x_call C H F [_] _ (kX5_267 rfl) (e3_hasCopied_t hq hNV x hxr hr14 em) rfl rfl (H.2.1.2.2.2.2.2.2.2.2 _ hq) (by decide) (by omega) (by omega) (Nat.le_of_ble_eq_true rfl) dX5_change_145 (fun h H F => ?_)
        refine g_if_eq C 158 dX5_change_148 (by decide) (bI_r _) (fun c148 => ?_) (fun c148 => ?_)
        · omega
        · refine g_aload_n C 0 dX5_change_151 rfl rfl ?_
          refine g_aload_n C 1 dX5_change_152 rfl rfl ?_
          refine g_iload C dX5_change_153 rfl ?_
          refine x_call C H F [_, _] _ (kX5_270 rfl) (e5_changeCopy_t hq h63 (b - Y 8 k) rg1 rg2 er) rfl rfl H.2.1.1 (by decide) (by omega) (by omega) (Nat.le_of_ble_eq_true rfl) dX5_change_155 (fun h H F => ?_)
          exact g_vret C dX5_change_158 (by omega) (by omega) ⟨rfl, H, F⟩
      · rw [ychc, if_pos ⟨em, ex⟩, if_neg er] at C
        refine g_aload_n C 1 dX5_change_143 rfl rfl ?_
        refine g_iload_n C 2 dX5_change_144 rfl rfl ?_
        refine x_call C H F [_] _ (kX5_267 rfl) (e3_hasCopied_t hq hNV x hxr hr14 em) rfl rfl (H.2.1.2.2.2.2.2.2.2.2 _ hq) (by decide) (by omega) (by omega) (Nat.le_of_ble_eq_true rfl) dX5_change_145 (fun h H F => ?_)
        refine g_if_eq C 158 dX5_change_148 (by decide) (bI_r _) (fun c148 => ?_) (fun c148 => ?_)
        · omega
        · refine g_aload_n C 0 dX5_change_151 rfl rfl ?_
          refine g_aload_n C 1 dX5_change_152 rfl rfl ?_
          refine g_iload C dX5_change_153 rfl ?_
          refine x_call C H F [_, _] _ (kX5_270 rfl) (e5_changeCopy_f hq h63 (b - Y 8 k) rg1 rg2 er) rfl rfl H.2.1.1 (by decide) (by omega) (by omega) (Nat.le_of_ble_eq_true rfl) dX5_change_155 (fun h H F => ?_)
          exact g_vret C dX5_change_158 (by omega) (by omega) ⟨rfl, H, F⟩
    · have hbe : bI (x < V 14 q) = 0 := bI_f ex
      rw [ychc, if_neg (fun z => ex z.2)] at C
      refine g_aload_n C 1 dX5_change_143 rfl rfl ?_
      refine g_iload_n C 2 dX5_change_144 rfl rfl ?_
      refine x_call C H F [_] _ (kX5_267 rfl) (e3_hasCopied_t hq hNV x hxr hr14 em) rfl rfl (H.2.1.2.2.2.2.2.2.2.2 _ hq) (by decide) (by omega) (by omega) (Nat.le_of_ble_eq_true rfl) dX5_change_145 (fun h H F => ?_)
      refine g_if_eq C 158 dX5_change_148 (by decide) (bI_r _) (fun c148 => ?_) (fun c148 => ?_)
      · exact g_vret C dX5_change_158 (by omega) (by omega) ⟨rfl, H, F⟩
      · omega
  by_cases e9 : 0 ≤ Y 9 k ∧ Y 9 k < 4
  · by_cases e8 : 0 ≤ t ∧ t < 4
    · skip
      refine g_aload_n C 0 dX5_change_48 rfl rfl ?_
      refine g_dup C dX5_change_49 rfl ?_
      refine x_gmain C H (fX5_251 rfl) rfl (Y 0 13) rfl dX5_change_50 ?_
      refine g_iconst C dX5_change_53 ?_
      refine g_iadd C dX5_change_54 ?_
      refine x_pmain C H F (fX5_251 rfl) rfl dX5_change_55 (fun h H F => ?_)
      refine g_iload C dX5_change_58 rfl ?_
      refine g_aload_n C 0 dX5_change_60 rfl rfl ?_
      refine x_rmain C H 3 (fX5_18 rfl) (by omega) dX5_change_61 ?_
      refine g_iload_n C 2 dX5_change_64 rfl rfl ?_
      refine x_byt C H k hx hk (Y 8 k) rfl dX5_change_65 ?_
      refine g_isub C dX5_change_66 ?_
      refine s_istore (lo' := [_, _, _, _, _, _, _]) C dX5_change_67 (by decide) rfl ?_
      refine g_aload_n C 0 dX5_change_69 rfl rfl ?_
      refine g_aload_n C 0 dX5_change_70 rfl rfl ?_
      refine x_rmain C H 4 (fX5_22 rfl) (by omega) dX5_change_71 ?_
      refine g_iload_n C 2 dX5_change_74 rfl rfl ?_
      refine x_own C H k hx hk (Y 9 k) rfl dX5_change_75 ?_
      refine g_aload_n C 0 dX5_change_76 rfl rfl ?_
      refine x_rmain C H 3 (fX5_18 rfl) (by omega) dX5_change_77 ?_
      refine g_iload_n C 2 dX5_change_80 rfl rfl ?_
      refine x_byt C H k hx hk (Y 8 k) rfl dX5_change_81 ?_
      refine g_ineg C dX5_change_82 ?_
      refine x_call C H F [_, _] _ (kX5_264 rfl) (e5_addToTenant_t (Y 9 k) (by omega) (-Y 8 k) (by omega)) rfl rfl H.2.1.1 (by decide) (by omega) (by omega) (Nat.le_of_ble_eq_true rfl) dX5_change_83 (fun h H F => ?_)
      refine g_aload_n C 0 dX5_change_86 rfl rfl ?_
      refine g_iload_n C 3 dX5_change_87 rfl rfl ?_
      refine g_iload C dX5_change_88 rfl ?_
      refine x_call C H F [_, _] _ (kX5_264 rfl) (e5_addToTenant_t t (by omega) b (by omega)) rfl rfl H.2.1.1 (by decide) (by omega) (by omega) (Nat.le_of_ble_eq_true rfl) dX5_change_90 (fun h H F => ?_)
      refine g_aload_n C 0 dX5_change_93 rfl rfl ?_
      refine x_rmain C H 4 (fX5_22 rfl) (by omega) dX5_change_94 ?_
      refine g_iload_n C 2 dX5_change_97 rfl rfl ?_
      refine g_iload_n C 3 dX5_change_98 rfl rfl ?_
      refine x_pown C H F k hx hk dX5_change_99 (fun h H F => ?_)
      refine g_aload_n C 0 dX5_change_100 rfl rfl ?_
      refine x_rmain C H 3 (fX5_18 rfl) (by omega) dX5_change_101 ?_
      refine g_iload_n C 2 dX5_change_104 rfl rfl ?_
      refine g_iload C dX5_change_105 rfl ?_
      refine x_pbyt C H F k hx hk dX5_change_107 (fun h H F => ?_)
      refine g_aload_n C 1 dX5_change_108 rfl rfl ?_
      refine g_dup C dX5_change_109 rfl ?_
      refine x_gsha C H hq (by omega) (fX5_174 rfl) rfl (Y 17 q) (by simp only [su_f]; simp [yadd_ne, su_f]) dX5_change_110 ?_
      refine g_iload C dX5_change_113 rfl ?_
      refine g_iadd C dX5_change_115 ?_
      refine x_psha C H F hq (by omega) (fX5_174 rfl) rfl dX5_change_116 (fun h H F => ?_)
      refine g_aload_n C 1 dX5_change_119 rfl rfl ?_
      refine x_ghome C H hq (by omega) (fX5_117 rfl) rfl ((Y 12 q).toNat) (by simp only [su_f]; simp [yadd_ne, su_f]) dX5_change_120 ?_
      refine g_dup C dX5_change_123 rfl ?_
      refine x_gmac C H h62 (by omega) (fX5_206 rfl) (Y 4 (Y 12 q).toNat) (by simp only [su_f]; simp [yadd_ne, su_f]) dX5_change_124 ?_
      refine g_iload C dX5_change_127 rfl ?_
      refine g_iadd C dX5_change_129 ?_
      refine x_pmac C H F h62 (by omega) (fX5_206 rfl) dX5_change_130 (fun h H F => ?_)
      refine g_aload_n C 1 dX5_change_133 rfl rfl ?_
      refine g_dup C dX5_change_134 rfl ?_
      refine x_gsha C H hq (by omega) (fX5_142 rfl) rfl (Y 18 q) (by simp only [su_f]; simp [yadd_ne, su_f]) dX5_change_135 ?_
      refine g_iconst C dX5_change_138 ?_
      refine g_iadd C dX5_change_139 ?_
      refine x_psha C H F hq (by omega) (fX5_142 rfl) rfl dX5_change_140 (fun h H F => ?_)
      exact K7 _ H F
    · skip
      refine g_aload_n C 0 dX5_change_48 rfl rfl ?_
      refine g_dup C dX5_change_49 rfl ?_
      refine x_gmain C H (fX5_251 rfl) rfl (Y 0 13) rfl dX5_change_50 ?_
      refine g_iconst C dX5_change_53 ?_
      refine g_iadd C dX5_change_54 ?_
      refine x_pmain C H F (fX5_251 rfl) rfl dX5_change_55 (fun h H F => ?_)
      refine g_iload C dX5_change_58 rfl ?_
      refine g_aload_n C 0 dX5_change_60 rfl rfl ?_
      refine x_rmain C H 3 (fX5_18 rfl) (by omega) dX5_change_61 ?_
      refine g_iload_n C 2 dX5_change_64 rfl rfl ?_
      refine x_byt C H k hx hk (Y 8 k) rfl dX5_change_65 ?_
      refine g_isub C dX5_change_66 ?_
      refine s_istore (lo' := [_, _, _, _, _, _, _]) C dX5_change_67 (by decide) rfl ?_
      refine g_aload_n C 0 dX5_change_69 rfl rfl ?_
      refine g_aload_n C 0 dX5_change_70 rfl rfl ?_
      refine x_rmain C H 4 (fX5_22 rfl) (by omega) dX5_change_71 ?_
      refine g_iload_n C 2 dX5_change_74 rfl rfl ?_
      refine x_own C H k hx hk (Y 9 k) rfl dX5_change_75 ?_
      refine g_aload_n C 0 dX5_change_76 rfl rfl ?_
      refine x_rmain C H 3 (fX5_18 rfl) (by omega) dX5_change_77 ?_
      refine g_iload_n C 2 dX5_change_80 rfl rfl ?_
      refine x_byt C H k hx hk (Y 8 k) rfl dX5_change_81 ?_
      refine g_ineg C dX5_change_82 ?_
      refine x_call C H F [_, _] _ (kX5_264 rfl) (e5_addToTenant_t (Y 9 k) (by omega) (-Y 8 k) (by omega)) rfl rfl H.2.1.1 (by decide) (by omega) (by omega) (Nat.le_of_ble_eq_true rfl) dX5_change_83 (fun h H F => ?_)
      refine g_aload_n C 0 dX5_change_86 rfl rfl ?_
      refine g_iload_n C 3 dX5_change_87 rfl rfl ?_
      refine g_iload C dX5_change_88 rfl ?_
      refine x_call C H F [_, _] _ (kX5_264 rfl) (e5_addToTenant_f t (by omega) b (by omega)) rfl rfl H.2.1.1 (by decide) (by omega) (by omega) (Nat.le_of_ble_eq_true rfl) dX5_change_90 (fun h H F => ?_)
      refine g_aload_n C 0 dX5_change_93 rfl rfl ?_
      refine x_rmain C H 4 (fX5_22 rfl) (by omega) dX5_change_94 ?_
      refine g_iload_n C 2 dX5_change_97 rfl rfl ?_
      refine g_iload_n C 3 dX5_change_98 rfl rfl ?_
      refine x_pown C H F k hx hk dX5_change_99 (fun h H F => ?_)
      refine g_aload_n C 0 dX5_change_100 rfl rfl ?_
      refine x_rmain C H 3 (fX5_18 rfl) (by omega) dX5_change_101 ?_
      refine g_iload_n C 2 dX5_change_104 rfl rfl ?_
      refine g_iload C dX5_change_105 rfl ?_
      refine x_pbyt C H F k hx hk dX5_change_107 (fun h H F => ?_)
      refine g_aload_n C 1 dX5_change_108 rfl rfl ?_
      refine g_dup C dX5_change_109 rfl ?_
      refine x_gsha C H hq (by omega) (fX5_174 rfl) rfl (Y 17 q) (by simp only [su_f]; simp [yadd_ne, su_f]) dX5_change_110 ?_
      refine g_iload C dX5_change_113 rfl ?_
      refine g_iadd C dX5_change_115 ?_
      refine x_psha C H F hq (by omega) (fX5_174 rfl) rfl dX5_change_116 (fun h H F => ?_)
      refine g_aload_n C 1 dX5_change_119 rfl rfl ?_
      refine x_ghome C H hq (by omega) (fX5_117 rfl) rfl ((Y 12 q).toNat) (by simp only [su_f]; simp [yadd_ne, su_f]) dX5_change_120 ?_
      refine g_dup C dX5_change_123 rfl ?_
      refine x_gmac C H h62 (by omega) (fX5_206 rfl) (Y 4 (Y 12 q).toNat) (by simp only [su_f]; simp [yadd_ne, su_f]) dX5_change_124 ?_
      refine g_iload C dX5_change_127 rfl ?_
      refine g_iadd C dX5_change_129 ?_
      refine x_pmac C H F h62 (by omega) (fX5_206 rfl) dX5_change_130 (fun h H F => ?_)
      refine g_aload_n C 1 dX5_change_133 rfl rfl ?_
      refine g_dup C dX5_change_134 rfl ?_
      refine x_gsha C H hq (by omega) (fX5_142 rfl) rfl (Y 18 q) (by simp only [su_f]; simp [yadd_ne, su_f]) dX5_change_135 ?_
      refine g_iconst C dX5_change_138 ?_
      refine g_iadd C dX5_change_139 ?_
      refine x_psha C H F hq (by omega) (fX5_142 rfl) rfl dX5_change_140 (fun h H F => ?_)
      exact K7 _ H F
  · by_cases e8 : 0 ≤ t ∧ t < 4
    · skip
      refine g_aload_n C 0 dX5_change_48 rfl rfl ?_
      refine g_dup C dX5_change_49 rfl ?_
      refine x_gmain C H (fX5_251 rfl) rfl (Y 0 13) rfl dX5_change_50 ?_
      refine g_iconst C dX5_change_53 ?_
      refine g_iadd C dX5_change_54 ?_
      refine x_pmain C H F (fX5_251 rfl) rfl dX5_change_55 (fun h H F => ?_)
      refine g_iload C dX5_change_58 rfl ?_
      refine g_aload_n C 0 dX5_change_60 rfl rfl ?_
      refine x_rmain C H 3 (fX5_18 rfl) (by omega) dX5_change_61 ?_
      refine g_iload_n C 2 dX5_change_64 rfl rfl ?_
      refine x_byt C H k hx hk (Y 8 k) rfl dX5_change_65 ?_
      refine g_isub C dX5_change_66 ?_
      refine s_istore (lo' := [_, _, _, _, _, _, _]) C dX5_change_67 (by decide) rfl ?_
      refine g_aload_n C 0 dX5_change_69 rfl rfl ?_
      refine g_aload_n C 0 dX5_change_70 rfl rfl ?_
      refine x_rmain C H 4 (fX5_22 rfl) (by omega) dX5_change_71 ?_
      refine g_iload_n C 2 dX5_change_74 rfl rfl ?_
      refine x_own C H k hx hk (Y 9 k) rfl dX5_change_75 ?_
      refine g_aload_n C 0 dX5_change_76 rfl rfl ?_
      refine x_rmain C H 3 (fX5_18 rfl) (by omega) dX5_change_77 ?_
      refine g_iload_n C 2 dX5_change_80 rfl rfl ?_
      refine x_byt C H k hx hk (Y 8 k) rfl dX5_change_81 ?_
      refine g_ineg C dX5_change_82 ?_
      refine x_call C H F [_, _] _ (kX5_264 rfl) (e5_addToTenant_f (Y 9 k) (by omega) (-Y 8 k) (by omega)) rfl rfl H.2.1.1 (by decide) (by omega) (by omega) (Nat.le_of_ble_eq_true rfl) dX5_change_83 (fun h H F => ?_)
      refine g_aload_n C 0 dX5_change_86 rfl rfl ?_
      refine g_iload_n C 3 dX5_change_87 rfl rfl ?_
      refine g_iload C dX5_change_88 rfl ?_
      refine x_call C H F [_, _] _ (kX5_264 rfl) (e5_addToTenant_t t (by omega) b (by omega)) rfl rfl H.2.1.1 (by decide) (by omega) (by omega) (Nat.le_of_ble_eq_true rfl) dX5_change_90 (fun h H F => ?_)
      refine g_aload_n C 0 dX5_change_93 rfl rfl ?_
      refine x_rmain C H 4 (fX5_22 rfl) (by omega) dX5_change_94 ?_
      refine g_iload_n C 2 dX5_change_97 rfl rfl ?_
      refine g_iload_n C 3 dX5_change_98 rfl rfl ?_
      refine x_pown C H F k hx hk dX5_change_99 (fun h H F => ?_)
      refine g_aload_n C 0 dX5_change_100 rfl rfl ?_
      refine x_rmain C H 3 (fX5_18 rfl) (by omega) dX5_change_101 ?_
      refine g_iload_n C 2 dX5_change_104 rfl rfl ?_
      refine g_iload C dX5_change_105 rfl ?_
      refine x_pbyt C H F k hx hk dX5_change_107 (fun h H F => ?_)
      refine g_aload_n C 1 dX5_change_108 rfl rfl ?_
      refine g_dup C dX5_change_109 rfl ?_
      refine x_gsha C H hq (by omega) (fX5_174 rfl) rfl (Y 17 q) (by simp only [su_f]; simp [yadd_ne, su_f]) dX5_change_110 ?_
      refine g_iload C dX5_change_113 rfl ?_
      refine g_iadd C dX5_change_115 ?_
      refine x_psha C H F hq (by omega) (fX5_174 rfl) rfl dX5_change_116 (fun h H F => ?_)
      refine g_aload_n C 1 dX5_change_119 rfl rfl ?_
      refine x_ghome C H hq (by omega) (fX5_117 rfl) rfl ((Y 12 q).toNat) (by simp only [su_f]; simp [yadd_ne, su_f]) dX5_change_120 ?_
      refine g_dup C dX5_change_123 rfl ?_
      refine x_gmac C H h62 (by omega) (fX5_206 rfl) (Y 4 (Y 12 q).toNat) (by simp only [su_f]; simp [yadd_ne, su_f]) dX5_change_124 ?_
      refine g_iload C dX5_change_127 rfl ?_
      refine g_iadd C dX5_change_129 ?_
      refine x_pmac C H F h62 (by omega) (fX5_206 rfl) dX5_change_130 (fun h H F => ?_)
      refine g_aload_n C 1 dX5_change_133 rfl rfl ?_
      refine g_dup C dX5_change_134 rfl ?_
      refine x_gsha C H hq (by omega) (fX5_142 rfl) rfl (Y 18 q) (by simp only [su_f]; simp [yadd_ne, su_f]) dX5_change_135 ?_
      refine g_iconst C dX5_change_138 ?_
      refine g_iadd C dX5_change_139 ?_
      refine x_psha C H F hq (by omega) (fX5_142 rfl) rfl dX5_change_140 (fun h H F => ?_)
      exact K7 _ H F
    · skip
      refine g_aload_n C 0 dX5_change_48 rfl rfl ?_
      refine g_dup C dX5_change_49 rfl ?_
      refine x_gmain C H (fX5_251 rfl) rfl (Y 0 13) rfl dX5_change_50 ?_
      refine g_iconst C dX5_change_53 ?_
      refine g_iadd C dX5_change_54 ?_
      refine x_pmain C H F (fX5_251 rfl) rfl dX5_change_55 (fun h H F => ?_)
      refine g_iload C dX5_change_58 rfl ?_
      refine g_aload_n C 0 dX5_change_60 rfl rfl ?_
      refine x_rmain C H 3 (fX5_18 rfl) (by omega) dX5_change_61 ?_
      refine g_iload_n C 2 dX5_change_64 rfl rfl ?_
      refine x_byt C H k hx hk (Y 8 k) rfl dX5_change_65 ?_
      refine g_isub C dX5_change_66 ?_
      refine s_istore (lo' := [_, _, _, _, _, _, _]) C dX5_change_67 (by decide) rfl ?_
      refine g_aload_n C 0 dX5_change_69 rfl rfl ?_
      refine g_aload_n C 0 dX5_change_70 rfl rfl ?_
      refine x_rmain C H 4 (fX5_22 rfl) (by omega) dX5_change_71 ?_
      refine g_iload_n C 2 dX5_change_74 rfl rfl ?_
      refine x_own C H k hx hk (Y 9 k) rfl dX5_change_75 ?_
      refine g_aload_n C 0 dX5_change_76 rfl rfl ?_
      refine x_rmain C H 3 (fX5_18 rfl) (by omega) dX5_change_77 ?_
      refine g_iload_n C 2 dX5_change_80 rfl rfl ?_
      refine x_byt C H k hx hk (Y 8 k) rfl dX5_change_81 ?_
      refine g_ineg C dX5_change_82 ?_
      refine x_call C H F [_, _] _ (kX5_264 rfl) (e5_addToTenant_f (Y 9 k) (by omega) (-Y 8 k) (by omega)) rfl rfl H.2.1.1 (by decide) (by omega) (by omega) (Nat.le_of_ble_eq_true rfl) dX5_change_83 (fun h H F => ?_)
      refine g_aload_n C 0 dX5_change_86 rfl rfl ?_
      refine g_iload_n C 3 dX5_change_87 rfl rfl ?_
      refine g_iload C dX5_change_88 rfl ?_
      refine x_call C H F [_, _] _ (kX5_264 rfl) (e5_addToTenant_f t (by omega) b (by omega)) rfl rfl H.2.1.1 (by decide) (by omega) (by omega) (Nat.le_of_ble_eq_true rfl) dX5_change_90 (fun h H F => ?_)
      refine g_aload_n C 0 dX5_change_93 rfl rfl ?_
      refine x_rmain C H 4 (fX5_22 rfl) (by omega) dX5_change_94 ?_
      refine g_iload_n C 2 dX5_change_97 rfl rfl ?_
      refine g_iload_n C 3 dX5_change_98 rfl rfl ?_
      refine x_pown C H F k hx hk dX5_change_99 (fun h H F => ?_)
      refine g_aload_n C 0 dX5_change_100 rfl rfl ?_
      refine x_rmain C H 3 (fX5_18 rfl) (by omega) dX5_change_101 ?_
      refine g_iload_n C 2 dX5_change_104 rfl rfl ?_
      refine g_iload C dX5_change_105 rfl ?_
      refine x_pbyt C H F k hx hk dX5_change_107 (fun h H F => ?_)
      refine g_aload_n C 1 dX5_change_108 rfl rfl ?_
      refine g_dup C dX5_change_109 rfl ?_
      refine x_gsha C H hq (by omega) (fX5_174 rfl) rfl (Y 17 q) (by simp only [su_f]; simp [yadd_ne, su_f]) dX5_change_110 ?_
      refine g_iload C dX5_change_113 rfl ?_
      refine g_iadd C dX5_change_115 ?_
      refine x_psha C H F hq (by omega) (fX5_174 rfl) rfl dX5_change_116 (fun h H F => ?_)
      refine g_aload_n C 1 dX5_change_119 rfl rfl ?_
      refine x_ghome C H hq (by omega) (fX5_117 rfl) rfl ((Y 12 q).toNat) (by simp only [su_f]; simp [yadd_ne, su_f]) dX5_change_120 ?_
      refine g_dup C dX5_change_123 rfl ?_
      refine x_gmac C H h62 (by omega) (fX5_206 rfl) (Y 4 (Y 12 q).toNat) (by simp only [su_f]; simp [yadd_ne, su_f]) dX5_change_124 ?_
      refine g_iload C dX5_change_127 rfl ?_
      refine g_iadd C dX5_change_129 ?_
      refine x_pmac C H F h62 (by omega) (fX5_206 rfl) dX5_change_130 (fun h H F => ?_)
      refine g_aload_n C 1 dX5_change_133 rfl rfl ?_
      refine g_dup C dX5_change_134 rfl ?_
      refine x_gsha C H hq (by omega) (fX5_142 rfl) rfl (Y 18 q) (by simp only [su_f]; simp [yadd_ne, su_f]) dX5_change_135 ?_
      refine g_iconst C dX5_change_138 ?_
      refine g_iadd C dX5_change_139 ?_
      refine x_psha C H F hq (by omega) (fX5_142 rfl) rfl dX5_change_140 (fun h H F => ?_)
      exact K7 _ H F

end XD
