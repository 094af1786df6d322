/-! THE CLASS: its leaves (rows laid by wip/whole/gen/x1.py) -/
theorem x_z6 {Y : gS} {s : Nat → Nat} {A : List gCE} {B : List gOE} {h : gH} (H : RX Y s A B h) {q i : Nat} (hq : q < 16) (hi : i = 2 ∨ i = 3) : (Y (10 + i) q).toNat ≤ 6 := by
  have := (H.2.2.2.1.2.2.2.2.2.2 q hq i hi).1
  omega
section XA
variable {w : gW} {l : Launch} {y : MethodName} {cc : ByteArray} {nL : Nat} {ret : Option FieldType} {d mc ms : Nat} {post : Option Value → gH → Prop} {px : String → gH → Prop} {m : MethodId} {Wp : Heap → List Loc → Nat → Nat → JFrame → Prop}
variable {h : gH} {k u : Nat} {lo : List (Option Value)} {st : List Value} {pc : Nat}
theorem x_acmp_eq (C : gC w l y cc nL ret d mc ms post px m Wp) {a b : Nat} (ha : a ≤ 6) (hb : b ≤ 6) {off : Int} (tgt : Nat) (hd : decode cc pc = .ok (.if_acmp .eq off, 3)) (ht : (pc : Int) + off = (tgt : Int)) (kt : a = b → gG w m nL Wp h k u lo st tgt) (kf : ¬ a = b → gG w m nL Wp h k u lo st (pc + 3)) : gG w m nL Wp h k u lo (.ref (gma b) :: .ref (gma a) :: st) pc :=
  g_acmp_eq C tgt hd ht (fun e => kt (gma_inj ha hb e)) (fun e => kf (fun z => e (by rw [z])))
theorem x_acmp_ne (C : gC w l y cc nL ret d mc ms post px m Wp) {a b : Nat} (ha : a ≤ 6) (hb : b ≤ 6) {off : Int} (tgt : Nat) (hd : decode cc pc = .ok (.if_acmp .ne off, 3)) (ht : (pc : Int) + off = (tgt : Int)) (kt : ¬ a = b → gG w m nL Wp h k u lo st tgt) (kf : a = b → gG w m nL Wp h k u lo st (pc + 3)) : gG w m nL Wp h k u lo (.ref (gma b) :: .ref (gma a) :: st) pc :=
  g_acmp_ne C tgt hd ht (fun e => kt (fun z => e (by rw [z]))) (fun e => kf (gma_inj ha hb e))
end XA
/-- each machine has its number -/
def gNu (Y : gS) : Prop := ∀ z : Nat, z ≤ 6 → Y 1 z = z - 1
section XB
variable {w : gW} {l : Launch} {Y : gS} {s : Nat → Nat} {A : List gCE} {B : List gOE}

set_option maxRecDepth 100000 in
set_option maxHeartbeats 4000000 in
theorem e2_hasRoomFor {z : Nat} (hz : z ≤ 6) (v : Int) (h1 : (-2147483648 ≤ (Y 4 z + v) ∧ (Y 4 z + v) < 2147483648)) (h2 : (-2147483648 ≤ Y 2 z ∧ Y 2 z < 2147483648)) : gXc w l yX2_hasRoomFor cX2_hasRoomFor 2 (some .boolean) 0 0 0 [.ref (gma z), .int (iI v)] Y s A B (some (.int (iI (bI (Y 4 z + v ≤ Y 2 z))))) (Y) s A B := by
  refine gXc_start (by decide +kernel) (by simp [Value.category]) (Nat.le_of_ble_eq_true rfl) (fun m Wp h C H F => ?_)
  show gG w m 2 Wp h 0 0 [some (.ref (gma z)), some (.int (iI v))] [] 0
  refine g_aload_n C 0 dX2_hasRoomFor_0 rfl rfl ?_
  refine x_gmac C H hz (by omega) (fX2_13 rfl) (Y 4 (z)) rfl dX2_hasRoomFor_1 ?_
  refine g_iload_n C 1 dX2_hasRoomFor_4 rfl rfl ?_
  refine g_iadd C dX2_hasRoomFor_5 ?_
  refine g_aload_n C 0 dX2_hasRoomFor_6 rfl rfl ?_
  refine x_gmac C H hz (by omega) (fX2_16 rfl) (Y 2 (z)) rfl dX2_hasRoomFor_7 ?_
  refine g_icmp_gt C 17 dX2_hasRoomFor_10 (by decide) h1 h2 (fun c10 => ?_) (fun c10 => ?_)
  · rw [bI_f (show ¬ (Y 4 z + v ≤ Y 2 z) by omega)] at C
    refine g_iconst C dX2_hasRoomFor_17 ?_
    exact g_zret C dX2_hasRoomFor_18 (by omega) (Nat.le_refl _) (Nat.le_refl _) ⟨rfl, H, F⟩
  · rw [bI_t (show Y 4 z + v ≤ Y 2 z by omega)] at C
    refine g_iconst C dX2_hasRoomFor_13 ?_
    refine g_goto C 18 dX2_hasRoomFor_14 (by decide) ?_
    exact g_zret C dX2_hasRoomFor_18 (by omega) (Nat.le_refl _) (Nat.le_refl _) ⟨rfl, H, F⟩

set_option maxRecDepth 100000 in
set_option maxHeartbeats 4000000 in
theorem e3_isMoving {q : Nat} (hq : q < 16) (hN : gNu Y) : gXc w l yX3_isMoving cX3_isMoving 1 (some .boolean) 0 0 0 [.ref (18 + q)] Y s A B (some (.int (iI (bI (Y 13 q ≠ 0))))) (Y) s A B := by
  refine gXc_start (by decide +kernel) (by simp [Value.category]) (Nat.le_of_ble_eq_true rfl) (fun m Wp h C H F => ?_)
  have h6 : 0 ≤ Y 13 q ∧ Y 13 q ≤ 6 := (H.2.2.2.1.2.2.2.2.2.2 q hq 3 (Or.inr rfl)).1
  have hn := hN (Y 13 q).toNat (by omega)
  show gG w m 1 Wp h 0 0 [some (.ref (18 + q))] [] 0
  refine g_aload_n C 0 dX3_isMoving_0 rfl rfl ?_
  refine x_ghome C H hq (by omega) (fX3_19 rfl) rfl ((Y 13 q).toNat) rfl dX3_isMoving_1 ?_
  refine x_gmac C H (x_z6 (i := 3) H hq (by omega)) (by omega) (fX3_22 rfl) (Y 1 (Y 13 q).toNat) rfl dX3_isMoving_4 ?_
  refine g_iconst C dX3_isMoving_7 ?_
  refine g_icmp_eq C 15 dX3_isMoving_8 (by decide) (by omega) (by omega) (fun c8 => ?_) (fun c8 => ?_)
  · rw [bI_f (show ¬ (Y 13 q ≠ 0) by omega)] at C
    refine g_iconst C dX3_isMoving_15 ?_
    exact g_zret C dX3_isMoving_16 (by omega) (Nat.le_refl _) (Nat.le_refl _) ⟨rfl, H, F⟩
  · rw [bI_t (show Y 13 q ≠ 0 by omega)] at C
    refine g_iconst C dX3_isMoving_11 ?_
    refine g_goto C 16 dX3_isMoving_12 (by decide) ?_
    exact g_zret C dX3_isMoving_16 (by omega) (Nat.le_refl _) (Nat.le_refl _) ⟨rfl, H, F⟩

theorem e3_isMoving_t {q : Nat} (hq : q < 16) (hN : gNu Y) (h : Y 13 q ≠ 0) : gXc w l yX3_isMoving cX3_isMoving 1 (some .boolean) 0 0 0 [.ref (18 + q)] Y s A B (some (.int (iI 1))) Y s A B := by
  have := e3_isMoving (w := w) (l := l) (s := s) (A := A) (B := B) hq hN
  rwa [bI_t h] at this
theorem e3_isMoving_f {q : Nat} (hq : q < 16) (hN : gNu Y) (h : Y 13 q = 0) : gXc w l yX3_isMoving cX3_isMoving 1 (some .boolean) 0 0 0 [.ref (18 + q)] Y s A B (some (.int (iI 0))) Y s A B := by
  have := e3_isMoving (w := w) (l := l) (s := s) (A := A) (B := B) hq hN
  rwa [bI_f (fun z => z h)] at this

set_option maxRecDepth 100000 in
set_option maxHeartbeats 4000000 in
theorem e3_hasCopied_t {q : Nat} (hq : q < 16) (hN : gNu Y) (v : Int) (hv : (-2147483648 ≤ v ∧ v < 2147483648)) (hr : (-2147483648 ≤ Y 14 q ∧ Y 14 q < 2147483648)) (hm : Y 13 q ≠ 0) : gXc w l yX3_hasCopied cX3_hasCopied 2 (some .boolean) 1 0 0 [.ref (18 + q), .int (iI v)] Y s A B (some (.int (iI (bI (v < Y 14 q))))) (Y) s A B := by
  refine gXc_start (by decide +kernel) (by simp [Value.category]) (Nat.le_of_ble_eq_true rfl) (fun m Wp h C H F => ?_)
  show gG w m 2 Wp h 0 0 [some (.ref (18 + q)), some (.int (iI v))] [] 0
  refine g_aload_n C 0 dX3_hasCopied_0 rfl rfl ?_
  refine x_call C H F [] _ (kX3_27 rfl) (e3_isMoving_t hq hN hm) rfl rfl (H.2.1.2.2.2.2.2.2.2.2 _ hq) (by decide) (Nat.le_refl _) (Nat.le_refl _) (Nat.le_of_ble_eq_true rfl) dX3_hasCopied_1 (fun h H F => ?_)
  refine g_if_eq C 19 dX3_hasCopied_4 (by decide) (by omega) (fun c4 => ?_) (fun c4 => ?_)
  · omega
  · refine g_iload_n C 1 dX3_hasCopied_7 rfl rfl ?_
    refine g_aload_n C 0 dX3_hasCopied_8 rfl rfl ?_
    refine x_gsha C H hq (by omega) (fX3_31 rfl) rfl (Y 14 (q)) rfl dX3_hasCopied_9 ?_
    refine g_icmp_ge C 19 dX3_hasCopied_12 (by decide) hv hr (fun c12 => ?_) (fun c12 => ?_)
    · rw [bI_f (show ¬ (v < Y 14 q) by omega)] at C
      refine g_iconst C dX3_hasCopied_19 ?_
      exact g_zret C dX3_hasCopied_20 (by omega) (Nat.le_refl _) (Nat.le_refl _) ⟨rfl, H, F⟩
    · rw [bI_t (show v < Y 14 q by omega)] at C
      refine g_iconst C dX3_hasCopied_15 ?_
      refine g_goto C 20 dX3_hasCopied_16 (by decide) ?_
      exact g_zret C dX3_hasCopied_20 (by omega) (Nat.le_refl _) (Nat.le_refl _) ⟨rfl, H, F⟩

set_option maxRecDepth 100000 in
set_option maxHeartbeats 4000000 in
theorem e3_hasCopied_f {q : Nat} (hq : q < 16) (hN : gNu Y) (v : Int) (hv : (-2147483648 ≤ v ∧ v < 2147483648)) (hr : (-2147483648 ≤ Y 14 q ∧ Y 14 q < 2147483648)) (hm : Y 13 q = 0) : gXc w l yX3_hasCopied cX3_hasCopied 2 (some .boolean) 1 0 0 [.ref (18 + q), .int (iI v)] Y s A B (some (.int (iI (0)))) (Y) s A B := by
  refine gXc_start (by decide +kernel) (by simp [Value.category]) (Nat.le_of_ble_eq_true rfl) (fun m Wp h C H F => ?_)
  show gG w m 2 Wp h 0 0 [some (.ref (18 + q)), some (.int (iI v))] [] 0
  refine g_aload_n C 0 dX3_hasCopied_0 rfl rfl ?_
  refine x_call C H F [] _ (kX3_27 rfl) (e3_isMoving_f hq hN hm) rfl rfl (H.2.1.2.2.2.2.2.2.2.2 _ hq) (by decide) (Nat.le_refl _) (Nat.le_refl _) (Nat.le_of_ble_eq_true rfl) dX3_hasCopied_1 (fun h H F => ?_)
  refine g_if_eq C 19 dX3_hasCopied_4 (by decide) (by omega) (fun c4 => ?_) (fun c4 => ?_)
  · refine g_iconst C dX3_hasCopied_19 ?_
    exact g_zret C dX3_hasCopied_20 (by omega) (Nat.le_refl _) (Nat.le_refl _) ⟨rfl, H, F⟩
  · omega

def yaim (Y : gS) (q : Nat) (z : Nat) : gS := su (su (su (su Y 13 q z) 14 q (Y 10 q)) 15 q 0) 16 q 0

set_option maxRecDepth 100000 in
set_option maxHeartbeats 4000000 in
theorem e3_aimAt {q z : Nat} (hq : q < 16) (hz : z ≤ 6) : gXc w l yX3_aimAt cX3_aimAt 2 none 0 0 0 [.ref (18 + q), .ref (gma z)] Y s A B (none) (yaim Y q z) s A B := by
  refine gXc_start (by decide +kernel) (by simp [Value.category]) (Nat.le_of_ble_eq_true rfl) (fun m Wp h C H F => ?_)
  show gG w m 2 Wp h 0 0 [some (.ref (18 + q)), some (.ref (gma z))] [] 0
  refine g_aload_n C 0 dX3_aimAt_0 rfl rfl ?_
  refine g_aload_n C 1 dX3_aimAt_1 rfl rfl ?_
  refine x_phome C H F hq (by omega) hz (fX3_19 rfl) rfl dX3_aimAt_2 (fun h H F => ?_)
  refine g_aload_n C 0 dX3_aimAt_5 rfl rfl ?_
  refine g_aload_n C 0 dX3_aimAt_6 rfl rfl ?_
  refine x_gsha C H hq (by omega) (fX3_34 rfl) rfl (Y 10 q) rfl dX3_aimAt_7 ?_
  refine x_psha C H F hq (by omega) (fX3_31 rfl) rfl dX3_aimAt_10 (fun h H F => ?_)
  refine g_aload_n C 0 dX3_aimAt_13 rfl rfl ?_
  refine g_iconst C dX3_aimAt_14 ?_
  refine x_psha C H F hq (by omega) (fX3_37 rfl) rfl dX3_aimAt_15 (fun h H F => ?_)
  refine g_aload_n C 0 dX3_aimAt_18 rfl rfl ?_
  refine g_iconst C dX3_aimAt_19 ?_
  refine x_psha C H F hq (by omega) (fX3_40 rfl) rfl dX3_aimAt_20 (fun h H F => ?_)
  exact g_vret C dX3_aimAt_23 (Nat.le_refl _) (Nat.le_refl _) ⟨rfl, H, F⟩

def ytake (Y : gS) (q : Nat) (b : Int) : gS := su (su (su (su Y 14 q (Y 14 q + 1)) 15 q (Y 15 q - b)) 16 q (Y 16 q + b)) 4 (Y 13 q).toNat (Y 4 (Y 13 q).toNat + b)

set_option maxRecDepth 100000 in
set_option maxHeartbeats 4000000 in
theorem e3_takeCopy {q : Nat} (hq : q < 16) (b : Int) : gXc w l yX3_takeCopy cX3_takeCopy 2 none 0 0 0 [.ref (18 + q), .int (iI b)] Y s A B (none) (ytake Y q b) s A B := by
  refine gXc_start (by decide +kernel) (by simp [Value.category]) (Nat.le_of_ble_eq_true rfl) (fun m Wp h C H F => ?_)
  show gG w m 2 Wp h 0 0 [some (.ref (18 + q)), some (.int (iI b))] [] 0
  refine g_aload_n C 0 dX3_takeCopy_0 rfl rfl ?_
  refine g_dup C dX3_takeCopy_1 rfl ?_
  refine x_gsha C H hq (by omega) (fX3_31 rfl) rfl (Y 14 q) rfl dX3_takeCopy_2 ?_
  refine g_iconst C dX3_takeCopy_5 ?_
  refine g_iadd C dX3_takeCopy_6 ?_
  refine x_psha C H F hq (by omega) (fX3_31 rfl) rfl dX3_takeCopy_7 (fun h H F => ?_)
  refine g_aload_n C 0 dX3_takeCopy_10 rfl rfl ?_
  refine g_dup C dX3_takeCopy_11 rfl ?_
  refine x_gsha C H hq (by omega) (fX3_37 rfl) rfl (Y 15 q) rfl dX3_takeCopy_12 ?_
  refine g_iload_n C 1 dX3_takeCopy_15 rfl rfl ?_
  refine g_isub C dX3_takeCopy_16 ?_
  refine x_psha C H F hq (by omega) (fX3_37 rfl) rfl dX3_takeCopy_17 (fun h H F => ?_)
  refine g_aload_n C 0 dX3_takeCopy_20 rfl rfl ?_
  refine g_dup C dX3_takeCopy_21 rfl ?_
  refine x_gsha C H hq (by omega) (fX3_40 rfl) rfl (Y 16 q) rfl dX3_takeCopy_22 ?_
  refine g_iload_n C 1 dX3_takeCopy_25 rfl rfl ?_
  refine g_iadd C dX3_takeCopy_26 ?_
  refine x_psha C H F hq (by omega) (fX3_40 rfl) rfl dX3_takeCopy_27 (fun h H F => ?_)
  refine g_aload_n C 0 dX3_takeCopy_30 rfl rfl ?_
  refine x_ghome C H hq (by omega) (fX3_19 rfl) rfl ((Y 13 q).toNat) rfl dX3_takeCopy_31 ?_
  refine g_dup C dX3_takeCopy_34 rfl ?_
  refine x_gmac C H (x_z6 (i := 3) H hq (by omega)) (by omega) (fX3_43 rfl) (Y 4 (Y 13 q).toNat) rfl dX3_takeCopy_35 ?_
  refine g_iload_n C 1 dX3_takeCopy_38 rfl rfl ?_
  refine g_iadd C dX3_takeCopy_39 ?_
  refine x_pmac C H F (x_z6 (i := 3) H hq (by omega)) (by omega) (fX3_43 rfl) dX3_takeCopy_40 (fun h H F => ?_)
  exact g_vret C dX3_takeCopy_43 (Nat.le_refl _) (Nat.le_refl _) ⟨rfl, H, F⟩

set_option maxRecDepth 100000 in
set_option maxHeartbeats 4000000 in
theorem e5_isKey (v : Int) (hv : (-2147483648 ≤ v ∧ v < 2147483648)) : gXc w l yX5_isKey cX5_isKey 2 (some .boolean) 0 0 0 [.ref 1, .int (iI v)] Y s A B (some (.int (iI (bI (0 ≤ v ∧ v < 1000))))) (Y) s A B := by
  refine gXc_start (by decide +kernel) (by simp [Value.category]) (Nat.le_of_ble_eq_true rfl) (fun m Wp h C H F => ?_)
  show gG w m 2 Wp h 0 0 [some (.ref 1), some (.int (iI v))] [] 0
  refine g_iload_n C 1 dX5_isKey_0 rfl rfl ?_
  refine g_if_lt C 15 dX5_isKey_1 (by decide) (by omega) (fun c1 => ?_) (fun c1 => ?_)
  · rw [bI_f (show ¬ (0 ≤ v ∧ v < 1000) by omega)] at C
    refine g_iconst C dX5_isKey_15 ?_
    exact g_zret C dX5_isKey_16 (by omega) (Nat.le_refl _) (Nat.le_refl _) ⟨rfl, H, F⟩
  · refine g_iload_n C 1 dX5_isKey_4 rfl rfl ?_
    refine g_sipush C dX5_isKey_5 (by decide) ?_
    refine g_icmp_ge C 15 dX5_isKey_8 (by decide) (by omega) (by omega) (fun c8 => ?_) (fun c8 => ?_)
    · rw [bI_f (show ¬ (0 ≤ v ∧ v < 1000) by omega)] at C
      refine g_iconst C dX5_isKey_15 ?_
      exact g_zret C dX5_isKey_16 (by omega) (Nat.le_refl _) (Nat.le_refl _) ⟨rfl, H, F⟩
    · rw [bI_t (show 0 ≤ v ∧ v < 1000 by omega)] at C
      refine g_iconst C dX5_isKey_11 ?_
      refine g_goto C 16 dX5_isKey_12 (by decide) ?_
      exact g_zret C dX5_isKey_16 (by omega) (Nat.le_refl _) (Nat.le_refl _) ⟨rfl, H, F⟩

theorem e5_isKey_t (v : Int) (hv : (-2147483648 ≤ v ∧ v < 2147483648)) (hp : (0 ≤ v ∧ v < 1000)) : gXc w l yX5_isKey cX5_isKey 2 (some .boolean) 0 0 0 [.ref 1, .int (iI v)] Y s A B (some (.int (iI 1))) Y s A B := by
  have := e5_isKey (w := w) (l := l) (Y := Y) (s := s) (A := A) (B := B) v hv
  rwa [bI_t hp] at this

theorem e5_isKey_f (v : Int) (hv : (-2147483648 ≤ v ∧ v < 2147483648)) (hp : ¬ (0 ≤ v ∧ v < 1000)) : gXc w l yX5_isKey cX5_isKey 2 (some .boolean) 0 0 0 [.ref 1, .int (iI v)] Y s A B (some (.int (iI 0))) Y s A B := by
  have := e5_isKey (w := w) (l := l) (Y := Y) (s := s) (A := A) (B := B) v hv
  rwa [bI_f hp] at this

set_option maxRecDepth 100000 in
set_option maxHeartbeats 4000000 in
theorem e5_isTenant (v : Int) (hv : (-2147483648 ≤ v ∧ v < 2147483648)) : gXc w l yX5_isTenant cX5_isTenant 2 (some .boolean) 0 0 0 [.ref 1, .int (iI v)] Y s A B (some (.int (iI (bI (0 ≤ v ∧ v < 4))))) (Y) s A B := by
  refine gXc_start (by decide +kernel) (by simp [Value.category]) (Nat.le_of_ble_eq_true rfl) (fun m Wp h C H F => ?_)
  show gG w m 2 Wp h 0 0 [some (.ref 1), some (.int (iI v))] [] 0
  refine g_iload_n C 1 dX5_isTenant_0 rfl rfl ?_
  refine g_if_lt C 13 dX5_isTenant_1 (by decide) (by omega) (fun c1 => ?_) (fun c1 => ?_)
  · rw [bI_f (show ¬ (0 ≤ v ∧ v < 4) by omega)] at C
    refine g_iconst C dX5_isTenant_13 ?_
    exact g_zret C dX5_isTenant_14 (by omega) (Nat.le_refl _) (Nat.le_refl _) ⟨rfl, H, F⟩
  · refine g_iload_n C 1 dX5_isTenant_4 rfl rfl ?_
    refine g_iconst C dX5_isTenant_5 ?_
    refine g_icmp_ge C 13 dX5_isTenant_6 (by decide) (by omega) (by omega) (fun c6 => ?_) (fun c6 => ?_)
    · rw [bI_f (show ¬ (0 ≤ v ∧ v < 4) by omega)] at C
      refine g_iconst C dX5_isTenant_13 ?_
      exact g_zret C dX5_isTenant_14 (by omega) (Nat.le_refl _) (Nat.le_refl _) ⟨rfl, H, F⟩
    · rw [bI_t (show 0 ≤ v ∧ v < 4 by omega)] at C
      refine g_iconst C dX5_isTenant_9 ?_
      refine g_goto C 14 dX5_isTenant_10 (by decide) ?_
      exact g_zret C dX5_isTenant_14 (by omega) (Nat.le_refl _) (Nat.le_refl _) ⟨rfl, H, F⟩

theorem e5_isTenant_t (v : Int) (hv : (-2147483648 ≤ v ∧ v < 2147483648)) (hp : (0 ≤ v ∧ v < 4)) : gXc w l yX5_isTenant cX5_isTenant 2 (some .boolean) 0 0 0 [.ref 1, .int (iI v)] Y s A B (some (.int (iI 1))) Y s A B := by
  have := e5_isTenant (w := w) (l := l) (Y := Y) (s := s) (A := A) (B := B) v hv
  rwa [bI_t hp] at this

theorem e5_isTenant_f (v : Int) (hv : (-2147483648 ≤ v ∧ v < 2147483648)) (hp : ¬ (0 ≤ v ∧ v < 4)) : gXc w l yX5_isTenant cX5_isTenant 2 (some .boolean) 0 0 0 [.ref 1, .int (iI v)] Y s A B (some (.int (iI 0))) Y s A B := by
  have := e5_isTenant (w := w) (l := l) (Y := Y) (s := s) (A := A) (B := B) v hv
  rwa [bI_f hp] at this

set_option maxRecDepth 100000 in
set_option maxHeartbeats 4000000 in
theorem e5_isMachine (v : Int) (hv : (-2147483648 ≤ v ∧ v < 2147483648)) (hr : (-2147483648 ≤ Y 0 5 ∧ Y 0 5 < 2147483648)) : gXc w l yX5_isMachine cX5_isMachine 2 (some .boolean) 0 0 0 [.ref 1, .int (iI v)] Y s A B (some (.int (iI (bI (0 ≤ v ∧ v < Y 0 5))))) (Y) s A B := by
  refine gXc_start (by decide +kernel) (by simp [Value.category]) (Nat.le_of_ble_eq_true rfl) (fun m Wp h C H F => ?_)
  show gG w m 2 Wp h 0 0 [some (.ref 1), some (.int (iI v))] [] 0
  refine g_iload_n C 1 dX5_isMachine_0 rfl rfl ?_
  refine g_if_lt C 16 dX5_isMachine_1 (by decide) (by omega) (fun c1 => ?_) (fun c1 => ?_)
  · rw [bI_f (show ¬ (0 ≤ v ∧ v < Y 0 5) by omega)] at C
    refine g_iconst C dX5_isMachine_16 ?_
    exact g_zret C dX5_isMachine_17 (by omega) (Nat.le_refl _) (Nat.le_refl _) ⟨rfl, H, F⟩
  · refine g_iload_n C 1 dX5_isMachine_4 rfl rfl ?_
    refine g_aload_n C 0 dX5_isMachine_5 rfl rfl ?_
    refine x_gmain C H (fX5_56 rfl) rfl (Y 0 5) rfl dX5_isMachine_6 ?_
    refine g_icmp_ge C 16 dX5_isMachine_9 (by decide) (by omega) (by omega) (fun c9 => ?_) (fun c9 => ?_)
    · rw [bI_f (show ¬ (0 ≤ v ∧ v < Y 0 5) by omega)] at C
      refine g_iconst C dX5_isMachine_16 ?_
      exact g_zret C dX5_isMachine_17 (by omega) (Nat.le_refl _) (Nat.le_refl _) ⟨rfl, H, F⟩
    · rw [bI_t (show 0 ≤ v ∧ v < Y 0 5 by omega)] at C
      refine g_iconst C dX5_isMachine_12 ?_
      refine g_goto C 17 dX5_isMachine_13 (by decide) ?_
      exact g_zret C dX5_isMachine_17 (by omega) (Nat.le_refl _) (Nat.le_refl _) ⟨rfl, H, F⟩

theorem e5_isMachine_t (v : Int) (hv : (-2147483648 ≤ v ∧ v < 2147483648)) (hr : (-2147483648 ≤ Y 0 5 ∧ Y 0 5 < 2147483648)) (hp : (0 ≤ v ∧ v < Y 0 5)) : gXc w l yX5_isMachine cX5_isMachine 2 (some .boolean) 0 0 0 [.ref 1, .int (iI v)] Y s A B (some (.int (iI 1))) Y s A B := by
  have := e5_isMachine (w := w) (l := l) (Y := Y) (s := s) (A := A) (B := B) v hv hr
  rwa [bI_t hp] at this

theorem e5_isMachine_f (v : Int) (hv : (-2147483648 ≤ v ∧ v < 2147483648)) (hr : (-2147483648 ≤ Y 0 5 ∧ Y 0 5 < 2147483648)) (hp : ¬ (0 ≤ v ∧ v < Y 0 5)) : gXc w l yX5_isMachine cX5_isMachine 2 (some .boolean) 0 0 0 [.ref 1, .int (iI v)] Y s A B (some (.int (iI 0))) Y s A B := by
  have := e5_isMachine (w := w) (l := l) (Y := Y) (s := s) (A := A) (B := B) v hv hr
  rwa [bI_f hp] at this

set_option maxRecDepth 100000 in
set_option maxHeartbeats 4000000 in
theorem e5_isShard (v : Int) (hv : (-2147483648 ≤ v ∧ v < 2147483648)) (hr : (-2147483648 ≤ Y 0 7 ∧ Y 0 7 < 2147483648)) : gXc w l yX5_isShard cX5_isShard 2 (some .boolean) 0 0 0 [.ref 1, .int (iI v)] Y s A B (some (.int (iI (bI (0 ≤ v ∧ v < Y 0 7))))) (Y) s A B := by
  refine gXc_start (by decide +kernel) (by simp [Value.category]) (Nat.le_of_ble_eq_true rfl) (fun m Wp h C H F => ?_)
  show gG w m 2 Wp h 0 0 [some (.ref 1), some (.int (iI v))] [] 0
  refine g_iload_n C 1 dX5_isShard_0 rfl rfl ?_
  refine g_if_lt C 16 dX5_isShard_1 (by decide) (by omega) (fun c1 => ?_) (fun c1 => ?_)
  · rw [bI_f (show ¬ (0 ≤ v ∧ v < Y 0 7) by omega)] at C
    refine g_iconst C dX5_isShard_16 ?_
    exact g_zret C dX5_isShard_17 (by omega) (Nat.le_refl _) (Nat.le_refl _) ⟨rfl, H, F⟩
  · refine g_iload_n C 1 dX5_isShard_4 rfl rfl ?_
    refine g_aload_n C 0 dX5_isShard_5 rfl rfl ?_
    refine x_gmain C H (fX5_45 rfl) rfl (Y 0 7) rfl dX5_isShard_6 ?_
    refine g_icmp_ge C 16 dX5_isShard_9 (by decide) (by omega) (by omega) (fun c9 => ?_) (fun c9 => ?_)
    · rw [bI_f (show ¬ (0 ≤ v ∧ v < Y 0 7) by omega)] at C
      refine g_iconst C dX5_isShard_16 ?_
      exact g_zret C dX5_isShard_17 (by omega) (Nat.le_refl _) (Nat.le_refl _) ⟨rfl, H, F⟩
    · rw [bI_t (show 0 ≤ v ∧ v < Y 0 7 by omega)] at C
      refine g_iconst C dX5_isShard_12 ?_
      refine g_goto C 17 dX5_isShard_13 (by decide) ?_
      exact g_zret C dX5_isShard_17 (by omega) (Nat.le_refl _) (Nat.le_refl _) ⟨rfl, H, F⟩

theorem e5_isShard_t (v : Int) (hv : (-2147483648 ≤ v ∧ v < 2147483648)) (hr : (-2147483648 ≤ Y 0 7 ∧ Y 0 7 < 2147483648)) (hp : (0 ≤ v ∧ v < Y 0 7)) : gXc w l yX5_isShard cX5_isShard 2 (some .boolean) 0 0 0 [.ref 1, .int (iI v)] Y s A B (some (.int (iI 1))) Y s A B := by
  have := e5_isShard (w := w) (l := l) (Y := Y) (s := s) (A := A) (B := B) v hv hr
  rwa [bI_t hp] at this

theorem e5_isShard_f (v : Int) (hv : (-2147483648 ≤ v ∧ v < 2147483648)) (hr : (-2147483648 ≤ Y 0 7 ∧ Y 0 7 < 2147483648)) (hp : ¬ (0 ≤ v ∧ v < Y 0 7)) : gXc w l yX5_isShard cX5_isShard 2 (some .boolean) 0 0 0 [.ref 1, .int (iI v)] Y s A B (some (.int (iI 0))) Y s A B := by
  have := e5_isShard (w := w) (l := l) (Y := Y) (s := s) (A := A) (B := B) v hv hr
  rwa [bI_f hp] at this

set_option maxRecDepth 100000 in
set_option maxHeartbeats 4000000 in
theorem e5_numberOfShardWith (v : Int) (hv : (-2147483648 ≤ v ∧ v < 2147483648)) (ns j : Nat) (hn : Y 0 7 = ns) (hns : ns ≤ 16) (hj : j < ns) (hf : ∀ i, i < ns → 0 ≤ Y 10 (s i) ∧ Y 10 (s i) ≤ 1000) (hle : Y 10 (s j) ≤ v) (hgt : ∀ i, j < i → i < ns → v < Y 10 (s i)) : gXc w l yX5_numberOfShardWith cX5_numberOfShardWith 3 (some .int) 0 0 0 [.ref 1, .int (iI v)] Y s A B (some (.int (iI ((j : Int))))) (Y) s A B := by
  refine gXc_start (by decide +kernel) (by simp [Value.category]) (Nat.le_of_ble_eq_true rfl) (fun m Wp h C H F => ?_)
  have L : ∀ (n k : Nat), k = j + n → k < ns → gG w m 3 Wp h 0 0 [some (.ref 1), some (.int (iI v)), some (.int (iI (k : Int)))] [] 7 := by
    intro n
    induction n with
    | zero =>
      intro k h1 h2
      have e : k = j := by omega
      subst e
      refine g_iload_n C 2 dX5_numberOfShardWith_7 rfl rfl ?_
      refine g_if_le C 30 dX5_numberOfShardWith_8 (by decide) (by omega) (fun c8 => ?_) (fun c8 => ?_)
      · refine g_iload_n C 2 dX5_numberOfShardWith_30 rfl rfl ?_
        exact g_iret C dX5_numberOfShardWith_31 (Nat.le_refl _) (Nat.le_refl _) ⟨rfl, H, F⟩
      · refine g_aload_n C 0 dX5_numberOfShardWith_11 rfl rfl ?_
        refine x_rmain C H 17 (fX5_38 rfl) (by omega) dX5_numberOfShardWith_12 ?_
        refine g_iload_n C 2 dX5_numberOfShardWith_15 rfl rfl ?_
        refine x_shas C H k (by omega) (by omega) _ rfl dX5_numberOfShardWith_16 ?_
        refine x_gsha C H (H.2.2.1.2.2.2 k (by omega)).1 (by omega) (fX5_147 rfl) rfl (Y 10 ((s k))) rfl dX5_numberOfShardWith_17 ?_
        refine g_iload_n C 1 dX5_numberOfShardWith_20 rfl rfl ?_
        refine g_icmp_le C 30 dX5_numberOfShardWith_21 (by decide) (by have := hf k (by omega); omega) hv (fun c21 => ?_) (fun c21 => ?_)
        · refine g_iload_n C 2 dX5_numberOfShardWith_30 rfl rfl ?_
          exact g_iret C dX5_numberOfShardWith_31 (Nat.le_refl _) (Nat.le_refl _) ⟨rfl, H, F⟩
        · omega
    | succ n ih =>
      intro k h1 h2
      refine g_iload_n C 2 dX5_numberOfShardWith_7 rfl rfl ?_
      refine g_if_le C 30 dX5_numberOfShardWith_8 (by decide) (by omega) (fun c8 => ?_) (fun c8 => ?_)
      · omega
      · refine g_aload_n C 0 dX5_numberOfShardWith_11 rfl rfl ?_
        refine x_rmain C H 17 (fX5_38 rfl) (by omega) dX5_numberOfShardWith_12 ?_
        refine g_iload_n C 2 dX5_numberOfShardWith_15 rfl rfl ?_
        refine x_shas C H k (by omega) (by omega) _ rfl dX5_numberOfShardWith_16 ?_
        refine x_gsha C H (H.2.2.1.2.2.2 k (by omega)).1 (by omega) (fX5_147 rfl) rfl (Y 10 ((s k))) rfl dX5_numberOfShardWith_17 ?_
        refine g_iload_n C 1 dX5_numberOfShardWith_20 rfl rfl ?_
        refine g_icmp_le C 30 dX5_numberOfShardWith_21 (by decide) (by have := hf k (by omega); omega) hv (fun c21 => ?_) (fun c21 => ?_)
        · exact absurd (hgt k (by omega) (by omega)) (by omega)
        · refine s_iinc (lo' := [_, _, _]) C dX5_numberOfShardWith_24 rfl (by decide) rfl ?_
          refine g_goto C 7 dX5_numberOfShardWith_27 (by decide) ?_
          exact g_as (ih (k - 1) (by omega) (by omega)) rfl (by rw [show ((k - 1 : Nat) : Int) = (k : Int) + -1 by omega]) rfl
  show gG w m 3 Wp h 0 0 [some (.ref 1), some (.int (iI v)), none] [] 0
  refine g_aload_n C 0 dX5_numberOfShardWith_0 rfl rfl ?_
  refine x_gmain C H (fX5_45 rfl) rfl (Y 0 7) rfl dX5_numberOfShardWith_1 ?_
  refine g_iconst C dX5_numberOfShardWith_4 ?_
  refine g_isub C dX5_numberOfShardWith_5 ?_
  refine s_istore_n (lo' := [_, _, _]) C 2 dX5_numberOfShardWith_6 rfl (by decide) rfl ?_
  exact g_as (L (ns - 1 - j) (ns - 1) (by omega) (by omega)) rfl (by rw [hn, show ((ns - 1 : Nat) : Int) = (ns : Int) - 1 by omega]) rfl

set_option maxRecDepth 100000 in
set_option maxHeartbeats 4000000 in
theorem e5_bytesBetween (a z : Int) (ha : 0 ≤ a ∧ a ≤ 1000) (hz : -1 ≤ z ∧ z ≤ 999) : gXc w l yX5_bytesBetween cX5_bytesBetween 5 (some .int) 0 0 0 [.ref 1, .int (iI a), .int (iI z)] Y s A B (some (.int (iI (gsum (Y 8) a.toNat (z + 1 - a).toNat)))) (Y) s A B := by
  refine gXc_start (by decide +kernel) (by simp [Value.category]) (Nat.le_of_ble_eq_true rfl) (fun m Wp h C H F => ?_)
  have L : ∀ (n i : Nat) (t : Int), (i : Int) + n = max a (z + 1) → a ≤ i → t = gsum (Y 8) a.toNat (i - a.toNat) → gG w m 5 Wp h 0 0 [some (.ref 1), some (.int (iI a)), some (.int (iI z)), some (.int (iI t)), some (.int (iI (i : Int)))] [] 5 := by
    intro n
    induction n with
    | zero =>
      intro i t h1 h2 ht
      refine g_iload C dX5_bytesBetween_5 rfl ?_
      refine g_iload_n C 2 dX5_bytesBetween_7 rfl rfl ?_
      refine g_icmp_gt C 35 dX5_bytesBetween_8 (by decide) (by omega) (by omega) (fun c8 => ?_) (fun c8 => ?_)
      · refine g_iload_n C 3 dX5_bytesBetween_35 rfl rfl ?_
        exact g_iret C dX5_bytesBetween_36 (Nat.le_refl _) (Nat.le_refl _) ⟨by rw [ht, show i - a.toNat = (z + 1 - a).toNat by omega], H, F⟩
      · omega
    | succ n ih =>
      intro i t h1 h2 ht
      refine g_iload C dX5_bytesBetween_5 rfl ?_
      refine g_iload_n C 2 dX5_bytesBetween_7 rfl rfl ?_
      refine g_icmp_gt C 35 dX5_bytesBetween_8 (by decide) (by omega) (by omega) (fun c8 => ?_) (fun c8 => ?_)
      · omega
      · refine g_iload C dX5_bytesBetween_11 rfl ?_
        refine g_sipush C dX5_bytesBetween_13 (by decide) ?_
        refine g_icmp_ge C 35 dX5_bytesBetween_16 (by decide) (by omega) (by omega) (fun c16 => ?_) (fun c16 => ?_)
        · omega
        · refine g_iload_n C 3 dX5_bytesBetween_19 rfl rfl ?_
          refine g_aload_n C 0 dX5_bytesBetween_20 rfl rfl ?_
          refine x_rmain C H 3 (fX5_18 rfl) (by omega) dX5_bytesBetween_21 ?_
          refine g_iload C dX5_bytesBetween_24 rfl ?_
          refine x_byt C H i (by omega) (by omega) (Y 8 (i)) rfl dX5_bytesBetween_26 ?_
          refine g_iadd C dX5_bytesBetween_27 ?_
          refine s_istore_n (lo' := [_, _, _, _, _]) C 3 dX5_bytesBetween_28 rfl (by decide) rfl ?_
          refine s_iinc (lo' := [_, _, _, _, _]) C dX5_bytesBetween_29 rfl (by decide) rfl ?_
          refine g_goto C 5 dX5_bytesBetween_32 (by decide) ?_
          exact ih (i + 1) (t + Y 8 i) (by omega) (by omega) (by rw [ht, show i + 1 - a.toNat = (i - a.toNat) + 1 by omega, gsum, show a.toNat + (i - a.toNat) = i by omega])
  show gG w m 5 Wp h 0 0 [some (.ref 1), some (.int (iI a)), some (.int (iI z)), none, none] [] 0
  refine g_iconst C dX5_bytesBetween_0 ?_
  refine s_istore_n (lo' := [_, _, _, _, _]) C 3 dX5_bytesBetween_1 rfl (by decide) rfl ?_
  refine g_iload_n C 1 dX5_bytesBetween_2 rfl rfl ?_
  refine s_istore (lo' := [_, _, _, _, _]) C dX5_bytesBetween_3 (by decide) rfl ?_
  exact g_as (L (max a (z + 1) - a).toNat a.toNat 0 (by omega) (by omega) (by rw [Nat.sub_self]; rfl)) rfl (by rw [Int.toNat_of_nonneg ha.1]) rfl

def yheatF (Y : gS) (s : Nat → Nat) (z i : Nat) : Int := if (Y 12 (s i)).toNat = z then Y 18 (s i) else 0
def yheat (Y : gS) (s : Nat → Nat) (ns z : Nat) : Int := gsum (yheatF Y s z) 0 ns
def ycntF (Y : gS) (s : Nat → Nat) (z i : Nat) : Int := if (Y 12 (s i)).toNat = z then 1 else 0
def ycnt (Y : gS) (s : Nat → Nat) (ns z : Nat) : Int := gsum (ycntF Y s z) 0 ns

set_option maxRecDepth 100000 in
set_option maxHeartbeats 4000000 in
theorem e5_heatOf {z : Nat} (hz : z ≤ 6) (ns : Nat) (hn : Y 0 7 = ns) (hns : ns ≤ 16) : gXc w l yX5_heatOf cX5_heatOf 4 (some .int) 0 0 0 [.ref 1, .ref (gma z)] Y s A B (some (.int (iI (yheat Y s ns z)))) (Y) s A B := by
  refine gXc_start (by decide +kernel) (by simp [Value.category]) (Nat.le_of_ble_eq_true rfl) (fun m Wp h C H F => ?_)
  have L : ∀ (n i : Nat) (t : Int), i + n = ns → t = gsum (yheatF Y s z) 0 i → gG w m 4 Wp h 0 0 [some (.ref 1), some (.ref (gma z)), some (.int (iI t)), some (.int (iI (i : Int)))] [] 4 := by
    intro n
    induction n with
    | zero =>
      intro i t h1 ht
      have e : i = ns := by omega
      subst e
      refine g_iload_n C 3 dX5_heatOf_4 rfl rfl ?_
      refine g_aload_n C 0 dX5_heatOf_5 rfl rfl ?_
      refine x_gmain C H (fX5_45 rfl) rfl (Y 0 7) rfl dX5_heatOf_6 ?_
      refine g_icmp_ge C 43 dX5_heatOf_9 (by decide) (by omega) (by omega) (fun c9 => ?_) (fun c9 => ?_)
      · refine g_iload_n C 2 dX5_heatOf_43 rfl rfl ?_
        exact g_iret C dX5_heatOf_44 (Nat.le_refl _) (Nat.le_refl _) ⟨by rw [ht]; rfl, H, F⟩
      · omega
    | succ n ih =>
      intro i t h1 ht
      refine g_iload_n C 3 dX5_heatOf_4 rfl rfl ?_
      refine g_aload_n C 0 dX5_heatOf_5 rfl rfl ?_
      refine x_gmain C H (fX5_45 rfl) rfl (Y 0 7) rfl dX5_heatOf_6 ?_
      refine g_icmp_ge C 43 dX5_heatOf_9 (by decide) (by omega) (by omega) (fun c9 => ?_) (fun c9 => ?_)
      · omega
      · refine g_aload_n C 0 dX5_heatOf_12 rfl rfl ?_
        refine x_rmain C H 17 (fX5_38 rfl) (by omega) dX5_heatOf_13 ?_
        refine g_iload_n C 3 dX5_heatOf_16 rfl rfl ?_
        refine x_shas C H i (by omega) (by omega) _ rfl dX5_heatOf_17 ?_
        refine x_ghome C H (H.2.2.1.2.2.2 i (by omega)).1 (by omega) (fX5_117 rfl) rfl ((Y 12 ((s i))).toNat) rfl dX5_heatOf_18 ?_
        refine g_aload_n C 1 dX5_heatOf_21 rfl rfl ?_
        refine x_acmp_ne C (x_z6 (i := 2) H (H.2.2.1.2.2.2 i (by omega)).1 (by omega)) hz 37 dX5_heatOf_22 (by decide) (fun c22 => ?_) (fun c22 => ?_)
        · refine s_iinc (lo' := [_, _, _, _]) C dX5_heatOf_37 rfl (by decide) rfl ?_
          refine g_goto C 4 dX5_heatOf_40 (by decide) ?_
          exact ih (i + 1) _ (by omega) (by rw [gsum, ht, Nat.zero_add, yheatF]; simp [c22])
        · refine g_iload_n C 2 dX5_heatOf_25 rfl rfl ?_
          refine g_aload_n C 0 dX5_heatOf_26 rfl rfl ?_
          refine x_rmain C H 17 (fX5_38 rfl) (by omega) dX5_heatOf_27 ?_
          refine g_iload_n C 3 dX5_heatOf_30 rfl rfl ?_
          refine x_shas C H i (by omega) (by omega) _ rfl dX5_heatOf_31 ?_
          refine x_gsha C H (H.2.2.1.2.2.2 i (by omega)).1 (by omega) (fX5_142 rfl) rfl (Y 18 ((s i))) rfl dX5_heatOf_32 ?_
          refine g_iadd C dX5_heatOf_35 ?_
          refine s_istore_n (lo' := [_, _, _, _]) C 2 dX5_heatOf_36 rfl (by decide) rfl ?_
          refine s_iinc (lo' := [_, _, _, _]) C dX5_heatOf_37 rfl (by decide) rfl ?_
          refine g_goto C 4 dX5_heatOf_40 (by decide) ?_
          exact ih (i + 1) _ (by omega) (by rw [gsum, ht, Nat.zero_add, yheatF]; simp [c22])
  show gG w m 4 Wp h 0 0 [some (.ref 1), some (.ref (gma z)), none, none] [] 0
  refine g_iconst C dX5_heatOf_0 ?_
  refine s_istore_n (lo' := [_, _, _, _]) C 2 dX5_heatOf_1 rfl (by decide) rfl ?_
  refine g_iconst C dX5_heatOf_2 ?_
  refine s_istore_n (lo' := [_, _, _, _]) C 3 dX5_heatOf_3 rfl (by decide) rfl ?_
  exact g_as (L ns 0 0 (by omega) rfl) rfl rfl rfl

set_option maxRecDepth 100000 in
set_option maxHeartbeats 4000000 in
theorem e5_shardCountOn {z : Nat} (hz : z ≤ 6) (ns : Nat) (hn : Y 0 7 = ns) (hns : ns ≤ 16) : gXc w l yX5_shardCountOn cX5_shardCountOn 4 (some .int) 0 0 0 [.ref 1, .ref (gma z)] Y s A B (some (.int (iI (ycnt Y s ns z)))) (Y) s A B := by
  refine gXc_start (by decide +kernel) (by simp [Value.category]) (Nat.le_of_ble_eq_true rfl) (fun m Wp h C H F => ?_)
  have L : ∀ (n i : Nat) (t : Int), i + n = ns → t = gsum (ycntF Y s z) 0 i → gG w m 4 Wp h 0 0 [some (.ref 1), some (.ref (gma z)), some (.int (iI t)), some (.int (iI (i : Int)))] [] 4 := by
    intro n
    induction n with
    | zero =>
      intro i t h1 ht
      have e : i = ns := by omega
      subst e
      refine g_iload_n C 3 dX5_shardCountOn_4 rfl rfl ?_
      refine g_aload_n C 0 dX5_shardCountOn_5 rfl rfl ?_
      refine x_gmain C H (fX5_45 rfl) rfl (Y 0 7) rfl dX5_shardCountOn_6 ?_
      refine g_icmp_ge C 34 dX5_shardCountOn_9 (by decide) (by omega) (by omega) (fun c9 => ?_) (fun c9 => ?_)
      · refine g_iload_n C 2 dX5_shardCountOn_34 rfl rfl ?_
        exact g_iret C dX5_shardCountOn_35 (Nat.le_refl _) (Nat.le_refl _) ⟨by rw [ht]; rfl, H, F⟩
      · omega
    | succ n ih =>
      intro i t h1 ht
      refine g_iload_n C 3 dX5_shardCountOn_4 rfl rfl ?_
      refine g_aload_n C 0 dX5_shardCountOn_5 rfl rfl ?_
      refine x_gmain C H (fX5_45 rfl) rfl (Y 0 7) rfl dX5_shardCountOn_6 ?_
      refine g_icmp_ge C 34 dX5_shardCountOn_9 (by decide) (by omega) (by omega) (fun c9 => ?_) (fun c9 => ?_)
      · omega
      · refine g_aload_n C 0 dX5_shardCountOn_12 rfl rfl ?_
        refine x_rmain C H 17 (fX5_38 rfl) (by omega) dX5_shardCountOn_13 ?_
        refine g_iload_n C 3 dX5_shardCountOn_16 rfl rfl ?_
        refine x_shas C H i (by omega) (by omega) _ rfl dX5_shardCountOn_17 ?_
        refine x_ghome C H (H.2.2.1.2.2.2 i (by omega)).1 (by omega) (fX5_117 rfl) rfl ((Y 12 ((s i))).toNat) rfl dX5_shardCountOn_18 ?_
        refine g_aload_n C 1 dX5_shardCountOn_21 rfl rfl ?_
        refine x_acmp_ne C (x_z6 (i := 2) H (H.2.2.1.2.2.2 i (by omega)).1 (by omega)) hz 28 dX5_shardCountOn_22 (by decide) (fun c22 => ?_) (fun c22 => ?_)
        · refine s_iinc (lo' := [_, _, _, _]) C dX5_shardCountOn_28 rfl (by decide) rfl ?_
          refine g_goto C 4 dX5_shardCountOn_31 (by decide) ?_
          exact ih (i + 1) _ (by omega) (by rw [gsum, ht, Nat.zero_add, ycntF]; simp [c22])
        · refine s_iinc (lo' := [_, _, _, _]) C dX5_shardCountOn_25 rfl (by decide) rfl ?_
          refine s_iinc (lo' := [_, _, _, _]) C dX5_shardCountOn_28 rfl (by decide) rfl ?_
          refine g_goto C 4 dX5_shardCountOn_31 (by decide) ?_
          exact ih (i + 1) _ (by omega) (by rw [gsum, ht, Nat.zero_add, ycntF]; simp [c22])
  show gG w m 4 Wp h 0 0 [some (.ref 1), some (.ref (gma z)), none, none] [] 0
  refine g_iconst C dX5_shardCountOn_0 ?_
  refine s_istore_n (lo' := [_, _, _, _]) C 2 dX5_shardCountOn_1 rfl (by decide) rfl ?_
  refine g_iconst C dX5_shardCountOn_2 ?_
  refine s_istore_n (lo' := [_, _, _, _]) C 3 dX5_shardCountOn_3 rfl (by decide) rfl ?_
  exact g_as (L ns 0 0 (by omega) rfl) rfl rfl rfl

set_option maxRecDepth 100000 in
set_option maxHeartbeats 4000000 in
theorem e5_mayChange {q : Nat} (hq : q < 16) (hu : Y 3 (Y 12 q).toNat = 0 ∨ Y 3 (Y 12 q).toNat = 1) (hc : (-2147483648 ≤ Y 0 13 ∧ Y 0 13 < 2147483648)) : gXc w l yX5_mayChange cX5_mayChange 2 (some .boolean) 0 0 0 [.ref 1, .ref (18 + q)] Y s A B (some (.int (iI (bI (Y 3 (Y 12 q).toNat = 1 ∧ Y 0 13 < 600))))) (Y) s A B := by
  refine gXc_start (by decide +kernel) (by simp [Value.category]) (Nat.le_of_ble_eq_true rfl) (fun m Wp h C H F => ?_)
  show gG w m 2 Wp h 0 0 [some (.ref 1), some (.ref (18 + q))] [] 0
  refine g_aload_n C 1 dX5_mayChange_0 rfl rfl ?_
  refine x_ghome C H hq (by omega) (fX5_117 rfl) rfl ((Y 12 q).toNat) rfl dX5_mayChange_1 ?_
  refine x_gmac C H (x_z6 (i := 2) H hq (by omega)) (by omega) (fX5_67 rfl) (Y 3 (Y 12 q).toNat) rfl dX5_mayChange_4 ?_
  refine g_if_eq C 24 dX5_mayChange_7 (by decide) (by omega) (fun c7 => ?_) (fun c7 => ?_)
  · rw [bI_f (show ¬ (Y 3 (Y 12 q).toNat = 1 ∧ Y 0 13 < 600) by omega)] at C
    refine g_iconst C dX5_mayChange_24 ?_
    exact g_zret C dX5_mayChange_25 (by omega) (Nat.le_refl _) (Nat.le_refl _) ⟨rfl, H, F⟩
  · refine g_aload_n C 0 dX5_mayChange_10 rfl rfl ?_
    refine x_gmain C H (fX5_251 rfl) rfl (Y 0 13) rfl dX5_mayChange_11 ?_
    refine g_sipush C dX5_mayChange_14 (by decide) ?_
    refine g_icmp_ge C 24 dX5_mayChange_17 (by decide) (by omega) (by omega) (fun c17 => ?_) (fun c17 => ?_)
    · rw [bI_f (show ¬ (Y 3 (Y 12 q).toNat = 1 ∧ Y 0 13 < 600) by omega)] at C
      refine g_iconst C dX5_mayChange_24 ?_
      exact g_zret C dX5_mayChange_25 (by omega) (Nat.le_refl _) (Nat.le_refl _) ⟨rfl, H, F⟩
    · rw [bI_t (show Y 3 (Y 12 q).toNat = 1 ∧ Y 0 13 < 600 by omega)] at C
      refine g_iconst C dX5_mayChange_20 ?_
      refine g_goto C 25 dX5_mayChange_21 (by decide) ?_
      exact g_zret C dX5_mayChange_25 (by omega) (Nat.le_refl _) (Nat.le_refl _) ⟨rfl, H, F⟩

def ygiv (Y : gS) (t : Int) (k : Nat) : Int := if Y 9 k = t then Y 8 k else 0

set_option maxRecDepth 100000 in
set_option maxHeartbeats 4000000 in
theorem e5_hasQuotaFor (t : Int) (ht : 0 ≤ t ∧ t < 4) (x : Int) (k : Nat) (hx : x = (k : Int)) (hk : k < 1000) (b : Int) (h9 : (-2147483648 ≤ Y 9 k ∧ Y 9 k < 2147483648)) (hr1 : (-2147483648 ≤ (Y 5 t.toNat - ygiv Y t k + b) ∧ (Y 5 t.toNat - ygiv Y t k + b) < 2147483648)) (hr2 : (-2147483648 ≤ Y 6 t.toNat ∧ Y 6 t.toNat < 2147483648)) : gXc w l yX5_hasQuotaFor cX5_hasQuotaFor 5 (some .boolean) 0 0 0 [.ref 1, .int (iI t), .int (iI x), .int (iI b)] Y s A B (some (.int (iI (bI (Y 5 t.toNat - ygiv Y t k + b ≤ Y 6 t.toNat))))) (Y) s A B := by
  refine gXc_start (by decide +kernel) (by simp [Value.category]) (Nat.le_of_ble_eq_true rfl) (fun m Wp h C H F => ?_)
  have htx : t = (t.toNat : Int) := by omega
  have htl : t.toNat < 4 := by omega
  show gG w m 5 Wp h 0 0 [some (.ref 1), some (.int (iI t)), some (.int (iI x)), some (.int (iI b)), none] [] 0
  refine g_aload_n C 0 dX5_hasQuotaFor_0 rfl rfl ?_
  refine x_rmain C H 4 (fX5_22 rfl) (by omega) dX5_hasQuotaFor_1 ?_
  refine g_iload_n C 2 dX5_hasQuotaFor_4 rfl rfl ?_
  refine x_own C H k (by omega) (by omega) (Y 9 (k)) rfl dX5_hasQuotaFor_5 ?_
  refine g_iload_n C 1 dX5_hasQuotaFor_6 rfl rfl ?_
  refine g_icmp_ne C 19 dX5_hasQuotaFor_7 (by decide) (by omega) (by omega) (fun c7 => ?_) (fun c7 => ?_)
  · have e9 : ygiv Y t k = 0 := if_neg c7
    rw [e9] at hr1 C
    refine g_iconst C dX5_hasQuotaFor_19 ?_
    refine s_istore (lo' := [_, _, _, _, _]) C dX5_hasQuotaFor_20 (by decide) rfl ?_
    refine g_aload_n C 0 dX5_hasQuotaFor_22 rfl rfl ?_
    refine x_rmain C H 5 (fX5_27 rfl) (by omega) dX5_hasQuotaFor_23 ?_
    refine g_iload_n C 1 dX5_hasQuotaFor_26 rfl rfl ?_
    refine x_tens C H t.toNat htx htl dX5_hasQuotaFor_27 ?_
    refine x_gten C H htl (by omega) (fX5_133 rfl) (Y 5 t.toNat) rfl dX5_hasQuotaFor_28 ?_
    refine g_iload C dX5_hasQuotaFor_31 rfl ?_
    refine g_isub C dX5_hasQuotaFor_33 ?_
    refine g_iload_n C 3 dX5_hasQuotaFor_34 rfl rfl ?_
    refine g_iadd C dX5_hasQuotaFor_35 ?_
    refine g_aload_n C 0 dX5_hasQuotaFor_36 rfl rfl ?_
    refine x_rmain C H 5 (fX5_27 rfl) (by omega) dX5_hasQuotaFor_37 ?_
    refine g_iload_n C 1 dX5_hasQuotaFor_40 rfl rfl ?_
    refine x_tens C H t.toNat htx htl dX5_hasQuotaFor_41 ?_
    refine x_gten C H htl (by omega) (fX5_96 rfl) (Y 6 t.toNat) rfl dX5_hasQuotaFor_42 ?_
    refine g_icmp_gt C 52 dX5_hasQuotaFor_45 (by decide) hr1 hr2 (fun c45 => ?_) (fun c45 => ?_)
    · rw [bI_f (by omega)] at C
      refine g_iconst C dX5_hasQuotaFor_52 ?_
      exact g_zret C dX5_hasQuotaFor_53 (by omega) (Nat.le_refl _) (Nat.le_refl _) ⟨rfl, H, F⟩
    · rw [bI_t (by omega)] at C
      refine g_iconst C dX5_hasQuotaFor_48 ?_
      refine g_goto C 53 dX5_hasQuotaFor_49 (by decide) ?_
      exact g_zret C dX5_hasQuotaFor_53 (by omega) (Nat.le_refl _) (Nat.le_refl _) ⟨rfl, H, F⟩
  · have e9 : ygiv Y t k = Y 8 k := if_pos c7
    rw [e9] at hr1 C
    refine g_aload_n C 0 dX5_hasQuotaFor_10 rfl rfl ?_
    refine x_rmain C H 3 (fX5_18 rfl) (by omega) dX5_hasQuotaFor_11 ?_
    refine g_iload_n C 2 dX5_hasQuotaFor_14 rfl rfl ?_
    refine x_byt C H k (by omega) (by omega) (Y 8 (k)) rfl dX5_hasQuotaFor_15 ?_
    refine g_goto C 20 dX5_hasQuotaFor_16 (by decide) ?_
    refine s_istore (lo' := [_, _, _, _, _]) C dX5_hasQuotaFor_20 (by decide) rfl ?_
    refine g_aload_n C 0 dX5_hasQuotaFor_22 rfl rfl ?_
    refine x_rmain C H 5 (fX5_27 rfl) (by omega) dX5_hasQuotaFor_23 ?_
    refine g_iload_n C 1 dX5_hasQuotaFor_26 rfl rfl ?_
    refine x_tens C H t.toNat htx htl dX5_hasQuotaFor_27 ?_
    refine x_gten C H htl (by omega) (fX5_133 rfl) (Y 5 t.toNat) rfl dX5_hasQuotaFor_28 ?_
    refine g_iload C dX5_hasQuotaFor_31 rfl ?_
    refine g_isub C dX5_hasQuotaFor_33 ?_
    refine g_iload_n C 3 dX5_hasQuotaFor_34 rfl rfl ?_
    refine g_iadd C dX5_hasQuotaFor_35 ?_
    refine g_aload_n C 0 dX5_hasQuotaFor_36 rfl rfl ?_
    refine x_rmain C H 5 (fX5_27 rfl) (by omega) dX5_hasQuotaFor_37 ?_
    refine g_iload_n C 1 dX5_hasQuotaFor_40 rfl rfl ?_
    refine x_tens C H t.toNat htx htl dX5_hasQuotaFor_41 ?_
    refine x_gten C H htl (by omega) (fX5_96 rfl) (Y 6 t.toNat) rfl dX5_hasQuotaFor_42 ?_
    refine g_icmp_gt C 52 dX5_hasQuotaFor_45 (by decide) hr1 hr2 (fun c45 => ?_) (fun c45 => ?_)
    · rw [bI_f (by omega)] at C
      refine g_iconst C dX5_hasQuotaFor_52 ?_
      exact g_zret C dX5_hasQuotaFor_53 (by omega) (Nat.le_refl _) (Nat.le_refl _) ⟨rfl, H, F⟩
    · rw [bI_t (by omega)] at C
      refine g_iconst C dX5_hasQuotaFor_48 ?_
      refine g_goto C 53 dX5_hasQuotaFor_49 (by decide) ?_
      exact g_zret C dX5_hasQuotaFor_53 (by omega) (Nat.le_refl _) (Nat.le_refl _) ⟨rfl, H, F⟩

def yadd (Y : gS) (t : Int) (b : Int) : gS := if 0 ≤ t ∧ t < 4 then su Y 5 t.toNat (Y 5 t.toNat + b) else Y

set_option maxRecDepth 100000 in
set_option maxHeartbeats 4000000 in
theorem e5_addToTenant_t (t : Int) (ht : (-2147483648 ≤ t ∧ t < 2147483648)) (b : Int) (hp : (0 ≤ t ∧ t < 4)) : gXc w l yX5_addToTenant cX5_addToTenant 3 none 1 0 0 [.ref 1, .int (iI t), .int (iI b)] Y s A B (none) (yadd Y t b) s A B := by
  refine gXc_start (by decide +kernel) (by simp [Value.category]) (Nat.le_of_ble_eq_true rfl) (fun m Wp h C H F => ?_)
  rw [yadd, if_pos hp] at C
  have htx : t = (t.toNat : Int) := by omega
  have htl : t.toNat < 4 := by omega
  show gG w m 3 Wp h 0 0 [some (.ref 1), some (.int (iI t)), some (.int (iI b))] [] 0
  refine g_aload_n C 0 dX5_addToTenant_0 rfl rfl ?_
  refine g_iload_n C 1 dX5_addToTenant_1 rfl rfl ?_
  refine x_call C H F [_] _ (kX5_89 rfl) (e5_isTenant_t t ht hp) rfl rfl H.2.1.1 (by decide) (Nat.le_refl _) (Nat.le_refl _) (Nat.le_of_ble_eq_true rfl) dX5_addToTenant_2 (fun h H F => ?_)
  refine g_if_eq C 23 dX5_addToTenant_5 (by decide) (by omega) (fun c5 => ?_) (fun c5 => ?_)
  · omega
  · refine g_aload_n C 0 dX5_addToTenant_8 rfl rfl ?_
    refine x_rmain C H 5 (fX5_27 rfl) (by omega) dX5_addToTenant_9 ?_
    refine g_iload_n C 1 dX5_addToTenant_12 rfl rfl ?_
    refine x_tens C H t.toNat htx htl dX5_addToTenant_13 ?_
    refine g_dup C dX5_addToTenant_14 rfl ?_
    refine x_gten C H htl (by omega) (fX5_133 rfl) (Y 5 t.toNat) rfl dX5_addToTenant_15 ?_
    refine g_iload_n C 2 dX5_addToTenant_18 rfl rfl ?_
    refine g_iadd C dX5_addToTenant_19 ?_
    refine x_pten C H F htl (by omega) (fX5_133 rfl) dX5_addToTenant_20 (fun h H F => ?_)
    exact g_vret C dX5_addToTenant_23 (Nat.le_refl _) (Nat.le_refl _) ⟨rfl, H, F⟩

set_option maxRecDepth 100000 in
set_option maxHeartbeats 4000000 in
theorem e5_addToTenant_f (t : Int) (ht : (-2147483648 ≤ t ∧ t < 2147483648)) (b : Int) (hp : ¬ (0 ≤ t ∧ t < 4)) : gXc w l yX5_addToTenant cX5_addToTenant 3 none 1 0 0 [.ref 1, .int (iI t), .int (iI b)] Y s A B (none) (yadd Y t b) s A B := by
  refine gXc_start (by decide +kernel) (by simp [Value.category]) (Nat.le_of_ble_eq_true rfl) (fun m Wp h C H F => ?_)
  rw [yadd, if_neg hp] at C
  show gG w m 3 Wp h 0 0 [some (.ref 1), some (.int (iI t)), some (.int (iI b))] [] 0
  refine g_aload_n C 0 dX5_addToTenant_0 rfl rfl ?_
  refine g_iload_n C 1 dX5_addToTenant_1 rfl rfl ?_
  refine x_call C H F [_] _ (kX5_89 rfl) (e5_isTenant_f t ht hp) rfl rfl H.2.1.1 (by decide) (Nat.le_refl _) (Nat.le_refl _) (Nat.le_of_ble_eq_true rfl) dX5_addToTenant_2 (fun h H F => ?_)
  refine g_if_eq C 23 dX5_addToTenant_5 (by decide) (by omega) (fun c5 => ?_) (fun c5 => ?_)
  · exact g_vret C dX5_addToTenant_23 (Nat.le_refl _) (Nat.le_refl _) ⟨rfl, H, F⟩
  · omega

/-- the move of the shard q fails -/
def yfail (Y : gS) (q : Nat) : gS := su (yaim (su Y 4 (Y 13 q).toNat (Y 4 (Y 13 q).toNat - Y 16 q)) q 0) 0 11 (Y 0 11 + 1)

set_option maxRecDepth 100000 in
set_option maxHeartbeats 4000000 in
theorem e5_failMove {q : Nat} (hq : q < 16) : gXc w l yX5_failMove cX5_failMove 2 none 1 0 0 [.ref 1, .ref (18 + q)] Y s A B (none) (yfail Y q) s A B := by
  refine gXc_start (by decide +kernel) (by simp [Value.category]) (Nat.le_of_ble_eq_true rfl) (fun m Wp h C H F => ?_)
  show gG w m 2 Wp h 0 0 [some (.ref 1), some (.ref (18 + q))] [] 0
  refine g_aload_n C 1 dX5_failMove_0 rfl rfl ?_
  refine x_ghome C H hq (by omega) (fX5_201 rfl) rfl ((Y 13 q).toNat) rfl dX5_failMove_1 ?_
  refine g_dup C dX5_failMove_4 rfl ?_
  refine x_gmac C H (x_z6 (i := 3) H hq (by omega)) (by omega) (fX5_206 rfl) (Y 4 (Y 13 q).toNat) rfl dX5_failMove_5 ?_
  refine g_aload_n C 1 dX5_failMove_8 rfl rfl ?_
  refine x_gsha C H hq (by omega) (fX5_184 rfl) rfl (Y 16 q) rfl dX5_failMove_9 ?_
  refine g_isub C dX5_failMove_12 ?_
  refine x_pmac C H F (x_z6 (i := 3) H hq (by omega)) (by omega) (fX5_206 rfl) dX5_failMove_13 (fun h H F => ?_)
  refine g_aload_n C 1 dX5_failMove_16 rfl rfl ?_
  refine g_aload_n C 0 dX5_failMove_17 rfl rfl ?_
  refine x_rmain C H (gma 0) (fX5_14 rfl) (by omega) dX5_failMove_18 ?_
  refine x_call C H F [_] _ (kX5_179 rfl) (e3_aimAt hq (by omega)) rfl rfl (H.2.1.2.2.2.2.2.2.2.2 _ hq) (by decide) (Nat.le_refl _) (Nat.le_refl _) (Nat.le_of_ble_eq_true rfl) dX5_failMove_21 (fun h H F => ?_)
  refine g_aload_n C 0 dX5_failMove_24 rfl rfl ?_
  refine g_dup C dX5_failMove_25 rfl ?_
  refine x_gmain C H (fX5_248 rfl) rfl (Y 0 11) rfl dX5_failMove_26 ?_
  refine g_iconst C dX5_failMove_29 ?_
  refine g_iadd C dX5_failMove_30 ?_
  refine x_pmain C H F (fX5_248 rfl) rfl dX5_failMove_31 (fun h H F => ?_)
  exact g_vret C dX5_failMove_34 (Nat.le_refl _) (Nat.le_refl _) ⟨rfl, H, F⟩

end XB
