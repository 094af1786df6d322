/-! THE REFERENCE: its public methods, case by case (rows laid by wip/whole/gen/m3.py) -/
/-- the shards in their order; which machines; the rest in its ranges -/
def gWS (S : gS) (nm ns : Nat) : Prop := S 0 2 = nm ∧ nm ≤ 6 ∧ S 0 13 = ns ∧ 1 ≤ ns ∧ ns ≤ 16 ∧ S 7 0 = 0 ∧ S 7 ns = 1000 ∧ (∀ j, j < ns → S 7 j < S 7 (j + 1)) ∧
  ∀ j, j < ns → (nm = 0 → S 8 j = -1) ∧ (0 < nm → 0 ≤ S 8 j ∧ S 8 j < nm) ∧ S 9 j < nm ∧ (S 9 j ≠ -1 → S 7 j ≤ S 10 j ∧ S 10 j ≤ S 7 (j + 1))
def gW0 (S : gS) : Prop := (0 ≤ S 0 1 ∧ S 0 1 ≤ 2000) ∧ (0 ≤ S 0 7 ∧ S 0 7 ≤ 1000) ∧ (0 ≤ S 0 8 ∧ S 0 8 ≤ 600)
theorem gmono {S : gS} {nm ns : Nat} (hs : gWS S nm ns) (i : Nat) : ∀ n : Nat, i + n ≤ ns → S 7 i ≤ S 7 (i + n)
  | 0, _ => Int.le_refl _
  | n + 1, h => by
    have a := gmono hs i n (by omega)
    have b := hs.2.2.2.2.2.2.2.1 (i + n) (by omega)
    rw [show i + (n + 1) = i + n + 1 by omega]
    omega
theorem gmono2 {S : gS} {nm ns : Nat} (hs : gWS S nm ns) {i j : Nat} (h : i ≤ j) (hj : j ≤ ns) : S 7 i ≤ S 7 j := by
  have := gmono hs i (j - i) (by omega)
  rwa [show i + (j - i) = j by omega] at this
section GXV
variable {w : gW} {l : Launch} {y : MethodName} {cc : ByteArray} {nL : Nat} {ret : Option FieldType} {d mc ms : Nat} {post : Option Value → gH → Prop} {px : String → gH → Prop} {m : MethodId} {Wp : Heap → List Loc → Nat → Nat → JFrame → Prop}
variable {h : gH} {S : gS} {k u : Nat} {lo lo' : List (Option Value)} {st : List Value} {pc : Nat}
theorem m_fldv (C : gC w l y cc nL ret d mc ms post px m Wp) (hS : gShM h) {idx i : Nat} {ty : FieldType} {fin : Bool} (hf : gF y idx 6 20 i ty fin) (hr : gRf 6 i = false) (v : Int) (hv : S 0 i = v) (hd : decode cc pc = .ok (.getfield idx, 3)) (kk : gG w m nL Wp (gwr h S) k u lo (.int (iI v) :: st) (pc + 3)) : gG w m nL Wp (gwr h S) k u lo (.ref 34 :: st) pc := m_fld C hS hf hr hd (by rw [hv]; exact kk)
theorem m_ialdv (C : gC w l y cc nL ret d mc ms post px m Wp) (hS : gShM h) {f n : Nat} {x : Int} (hf : f ≤ 12) (hk : gMk f = (7, n)) (hn : n < 2000) (j : Nat) (hx : x = (j : Int)) (hj : j < n) (v : Int) (hv : S f j = v) (hd : decode cc pc = .ok (.iaload, 1)) (kk : gG w m nL Wp (gwr h S) k u lo (.int (iI v) :: st) (pc + 1)) : gG w m nL Wp (gwr h S) k u lo (.int (iI x) :: .ref (34 + f) :: st) pc := m_iald C hS hf hk hn j hx hj hd (by rw [hv]; exact kk)
theorem m_baldv (C : gC w l y cc nL ret d mc ms post px m Wp) (hS : gShM h) {x : Int} (j : Nat) (hx : x = (j : Int)) (hj : j < 6) (v : Int) (hv : S 2 j = v) (hd : decode cc pc = .ok (.baload, 1)) (kk : gG w m nL Wp (gwr h S) k u lo (.int (iI v) :: st) (pc + 1)) : gG w m nL Wp (gwr h S) k u lo (.int (iI x) :: .ref (34 + 2) :: st) pc := m_bald C hS j hx hj hd (by rw [hv]; exact kk)
end GXV
section MC
variable {w : gW} {l : Launch} {h : gH} {S : gS}
theorem c6_ref0 (hS : gShM h) : gMm w l yX6_refused cX6_refused 2 (some .boolean) 0 [.ref 34, .int (iI 0)] h S (some (.int (iI 0))) (su S 0 0 0) := c6_refused hS 0 (by omega)
theorem c6_refN (hS : gShM h) (v : Int) (h0 : v ≠ 0) (hv : -2147483648 ≤ v ∧ v < 2147483648) : gMm w l yX6_refused cX6_refused 2 (some .boolean) 0 [.ref 34, .int (iI v)] h S (some (.int (iI 1))) (su S 0 0 v) := by
  have := c6_refused (w := w) (l := l) (S := S) hS v hv
  rwa [bI_t h0] at this

theorem c6_in_t (v a b : Int) (hv : (-2147483648 ≤ v ∧ v < 2147483648)) (ha : (-2147483648 ≤ a ∧ a < 2147483648)) (hb : (-2147483648 ≤ b ∧ b < 2147483648)) (hp : (a ≤ v ∧ v ≤ b)) : gMm w l yX6_in cX6_in 3 (some .boolean) 0 [.int (iI v), .int (iI a), .int (iI b)] h S (some (.int (iI 1))) S := by
  have := c6_in (w := w) (l := l) (h := h) (S := S) v a b hv ha hb
  rwa [bI_t hp] at this

theorem c6_in_f (v a b : Int) (hv : (-2147483648 ≤ v ∧ v < 2147483648)) (ha : (-2147483648 ≤ a ∧ a < 2147483648)) (hb : (-2147483648 ≤ b ∧ b < 2147483648)) (hp : ¬ (a ≤ v ∧ v ≤ b)) : gMm w l yX6_in cX6_in 3 (some .boolean) 0 [.int (iI v), .int (iI a), .int (iI b)] h S (some (.int (iI 0))) S := by
  have := c6_in (w := w) (l := l) (h := h) (S := S) v a b hv ha hb
  rwa [bI_f hp] at this

theorem c6_isKey_t (v : Int) (hv : (-2147483648 ≤ v ∧ v < 2147483648)) (hp : (0 ≤ v ∧ v ≤ 999)) : gMm w l yX6_isKey cX6_isKey 1 (some .boolean) 1 [.int (iI v)] h S (some (.int (iI 1))) S := by
  have := c6_isKey (w := w) (l := l) (h := h) (S := S) v hv
  rwa [bI_t hp] at this

theorem c6_isKey_f (v : Int) (hv : (-2147483648 ≤ v ∧ v < 2147483648)) (hp : ¬ (0 ≤ v ∧ v ≤ 999)) : gMm w l yX6_isKey cX6_isKey 1 (some .boolean) 1 [.int (iI v)] h S (some (.int (iI 0))) S := by
  have := c6_isKey (w := w) (l := l) (h := h) (S := S) v hv
  rwa [bI_f hp] at this

theorem c6_isTenant_t (v : Int) (hv : (-2147483648 ≤ v ∧ v < 2147483648)) (hp : (0 ≤ v ∧ v ≤ 3)) : gMm w l yX6_isTenant cX6_isTenant 1 (some .boolean) 1 [.int (iI v)] h S (some (.int (iI 1))) S := by
  have := c6_isTenant (w := w) (l := l) (h := h) (S := S) v hv
  rwa [bI_t hp] at this

theorem c6_isTenant_f (v : Int) (hv : (-2147483648 ≤ v ∧ v < 2147483648)) (hp : ¬ (0 ≤ v ∧ v ≤ 3)) : gMm w l yX6_isTenant cX6_isTenant 1 (some .boolean) 1 [.int (iI v)] h S (some (.int (iI 0))) S := by
  have := c6_isTenant (w := w) (l := l) (h := h) (S := S) v hv
  rwa [bI_f hp] at this

theorem c6_isMachine_t (hS : gShM h) (v : Int) (hv : (-2147483648 ≤ v ∧ v < 2147483648)) (hn : 0 ≤ S 0 2 ∧ S 0 2 ≤ 6) (hp : (0 ≤ v ∧ v ≤ S 0 2 - 1)) : gMm w l yX6_isMachine cX6_isMachine 2 (some .boolean) 1 [.ref 34, .int (iI v)] h S (some (.int (iI 1))) S := by
  have := c6_isMachine (w := w) (l := l) hS v hv hn
  rwa [bI_t hp] at this

theorem c6_isMachine_f (hS : gShM h) (v : Int) (hv : (-2147483648 ≤ v ∧ v < 2147483648)) (hn : 0 ≤ S 0 2 ∧ S 0 2 ≤ 6) (hp : ¬ (0 ≤ v ∧ v ≤ S 0 2 - 1)) : gMm w l yX6_isMachine cX6_isMachine 2 (some .boolean) 1 [.ref 34, .int (iI v)] h S (some (.int (iI 0))) S := by
  have := c6_isMachine (w := w) (l := l) hS v hv hn
  rwa [bI_f hp] at this

theorem c6_isShard_t (hS : gShM h) (v : Int) (hv : (-2147483648 ≤ v ∧ v < 2147483648)) (hn : 0 ≤ S 0 13 ∧ S 0 13 ≤ 16) (hp : (0 ≤ v ∧ v ≤ S 0 13 - 1)) : gMm w l yX6_isShard cX6_isShard 2 (some .boolean) 1 [.ref 34, .int (iI v)] h S (some (.int (iI 1))) S := by
  have := c6_isShard (w := w) (l := l) hS v hv hn
  rwa [bI_t hp] at this

theorem c6_isShard_f (hS : gShM h) (v : Int) (hv : (-2147483648 ≤ v ∧ v < 2147483648)) (hn : 0 ≤ S 0 13 ∧ S 0 13 ≤ 16) (hp : ¬ (0 ≤ v ∧ v ≤ S 0 13 - 1)) : gMm w l yX6_isShard cX6_isShard 2 (some .boolean) 1 [.ref 34, .int (iI v)] h S (some (.int (iI 0))) S := by
  have := c6_isShard (w := w) (l := l) hS v hv hn
  rwa [bI_f hp] at this

set_option maxRecDepth 100000 in
set_option maxHeartbeats 4000000 in
theorem c6_machine_1 (hS : gShM h) (h1 : gW1 S) (h2 : gW2 S) (h0 : gW0 S) {nm ns : Nat} (hs : gWS S nm ns) (x : Int) (hx : (-2147483648 ≤ x ∧ x < 2147483648)) (hp : ¬ (100 ≤ x ∧ x ≤ 10000)) : gMm w l yX6_machine cX6_machine 3 (some .int) 1 [.ref 34, .int (iI x)] h S (some (.int (iI (0)))) (su S 0 0 1) := by
  refine gMm_start (by decide +kernel) (by simp [Value.category]) (Nat.le_of_ble_eq_true rfl) (fun m Wp C => ?_)
  have e02 := hs.1
  have hnm := hs.2.1
  have e13 := hs.2.2.1
  have hns1 := hs.2.2.2.1
  have hns2 := hs.2.2.2.2.1
  obtain ⟨hw1, hw7, hw8⟩ := h0
  show gG w m 3 Wp (gwr h S) 0 0 [some (.ref 34), some (.int (iI x)), none] [] 0
  refine g_aload_n C 0 dX6_machine_0 rfl rfl ?_
  refine g_iload_n C 1 dX6_machine_1 rfl rfl ?_
  refine g_bipush C dX6_machine_2 (by decide) ?_
  refine g_sipush C dX6_machine_4 (by decide) ?_
  refine m_callS C [_, _, _] _ (kX6_54 rfl) rfl (c6_in_f x 100 10000 hx (by omega) (by omega) hp) rfl rfl (by decide) (Nat.le_refl _) (Nat.le_refl _) (Nat.le_of_ble_eq_true rfl) dX6_machine_7 ?_
  refine g_if_ne C 17 dX6_machine_10 (by decide) (by omega) (fun c10 => ?_) (fun c10 => ?_)
  · omega
  · refine g_iconst C dX6_machine_13 ?_
    refine g_goto C 31 dX6_machine_14 (by decide) ?_
    refine m_call C hS [_] _ (kX6_75 rfl) (c6_refN hS 1 (by omega) (by omega)) rfl rfl (by decide) (Nat.le_refl _) (Nat.le_refl _) (Nat.le_of_ble_eq_true rfl) dX6_machine_31 ?_
    refine g_if_eq C 39 dX6_machine_34 (by decide) (by omega) (fun c34 => ?_) (fun c34 => ?_)
    · omega
    · refine g_iconst C dX6_machine_37 ?_
      exact g_iret C dX6_machine_38 (Nat.le_refl _) (Nat.le_refl _) ⟨rfl, rfl⟩

set_option maxRecDepth 100000 in
set_option maxHeartbeats 4000000 in
theorem c6_machine_2 (hS : gShM h) (h1 : gW1 S) (h2 : gW2 S) (h0 : gW0 S) {nm ns : Nat} (hs : gWS S nm ns) (x : Int) (hx : (-2147483648 ≤ x ∧ x < 2147483648)) (hp : 100 ≤ x ∧ x ≤ 10000) (hq : nm = 6) : gMm w l yX6_machine cX6_machine 3 (some .int) 1 [.ref 34, .int (iI x)] h S (some (.int (iI (0)))) (su S 0 0 2) := by
  refine gMm_start (by decide +kernel) (by simp [Value.category]) (Nat.le_of_ble_eq_true rfl) (fun m Wp C => ?_)
  have e02 := hs.1
  have hnm := hs.2.1
  have e13 := hs.2.2.1
  have hns1 := hs.2.2.2.1
  have hns2 := hs.2.2.2.2.1
  obtain ⟨hw1, hw7, hw8⟩ := h0
  show gG w m 3 Wp (gwr h S) 0 0 [some (.ref 34), some (.int (iI x)), none] [] 0
  refine g_aload_n C 0 dX6_machine_0 rfl rfl ?_
  refine g_iload_n C 1 dX6_machine_1 rfl rfl ?_
  refine g_bipush C dX6_machine_2 (by decide) ?_
  refine g_sipush C dX6_machine_4 (by decide) ?_
  refine m_callS C [_, _, _] _ (kX6_54 rfl) rfl (c6_in_t x 100 10000 hx (by omega) (by omega) hp) rfl rfl (by decide) (Nat.le_refl _) (Nat.le_refl _) (Nat.le_of_ble_eq_true rfl) dX6_machine_7 ?_
  refine g_if_ne C 17 dX6_machine_10 (by decide) (by omega) (fun c10 => ?_) (fun c10 => ?_)
  · refine g_aload_n C 0 dX6_machine_17 rfl rfl ?_
    refine m_fld C hS (fX6_58 rfl) rfl dX6_machine_18 ?_
    refine g_bipush C dX6_machine_21 (by decide) ?_
    refine g_icmp_ne C 30 dX6_machine_23 (by decide) (by omega) (by omega) (fun c23 => ?_) (fun c23 => ?_)
    · omega
    · refine g_iconst C dX6_machine_26 ?_
      refine g_goto C 31 dX6_machine_27 (by decide) ?_
      refine m_call C hS [_] _ (kX6_75 rfl) (c6_refN hS 2 (by omega) (by omega)) rfl rfl (by decide) (Nat.le_refl _) (Nat.le_refl _) (Nat.le_of_ble_eq_true rfl) dX6_machine_31 ?_
      refine g_if_eq C 39 dX6_machine_34 (by decide) (by omega) (fun c34 => ?_) (fun c34 => ?_)
      · omega
      · refine g_iconst C dX6_machine_37 ?_
        exact g_iret C dX6_machine_38 (Nat.le_refl _) (Nat.le_refl _) ⟨rfl, rfl⟩
  · omega

def son0 (U : gS) (i : Nat) : gS := fun g => if g = 8 then (fun k => if k < i then 0 else U 8 k) else U g
theorem son0_0 (U : gS) : son0 U 0 = U := by
  funext g
  unfold son0
  split
  · next e => subst e; rfl
  · rfl
theorem son0_s (U : gS) (i : Nat) : su (son0 U i) 8 i 0 = son0 U (i + 1) := by
  funext g
  unfold su son0 va_up
  by_cases e : g = 8
  · subst e
    simp only [if_true]
    funext k
    by_cases e1 : k = i
    · subst e1; simp
    · by_cases e2 : k < i
      · rw [if_neg e1, if_pos e2, if_pos (by omega)]
      · rw [if_neg e1, if_neg e2, if_neg (by omega)]
  · simp [e]

set_option maxRecDepth 100000 in
set_option maxHeartbeats 4000000 in
theorem c6_machine_3 (hS : gShM h) (h1 : gW1 S) (h2 : gW2 S) (h0 : gW0 S) {nm ns : Nat} (hs : gWS S nm ns) (x : Int) (hx : (-2147483648 ≤ x ∧ x < 2147483648)) (hp : 100 ≤ x ∧ x ≤ 10000) (hq : 0 < nm) (hq2 : nm < 6) : gMm w l yX6_machine cX6_machine 3 (some .int) 1 [.ref 34, .int (iI x)] h S (some (.int (iI (nm)))) (su (su (su S 0 0 0) 1 nm x) 0 2 ((nm : Int) + 1)) := by
  refine gMm_start (by decide +kernel) (by simp [Value.category]) (Nat.le_of_ble_eq_true rfl) (fun m Wp C => ?_)
  have e02 := hs.1
  have hnm := hs.2.1
  have e13 := hs.2.2.1
  have hns1 := hs.2.2.2.1
  have hns2 := hs.2.2.2.2.1
  obtain ⟨hw1, hw7, hw8⟩ := h0
  show gG w m 3 Wp (gwr h S) 0 0 [some (.ref 34), some (.int (iI x)), none] [] 0
  refine g_aload_n C 0 dX6_machine_0 rfl rfl ?_
  refine g_iload_n C 1 dX6_machine_1 rfl rfl ?_
  refine g_bipush C dX6_machine_2 (by decide) ?_
  refine g_sipush C dX6_machine_4 (by decide) ?_
  refine m_callS C [_, _, _] _ (kX6_54 rfl) rfl (c6_in_t x 100 10000 hx (by omega) (by omega) hp) rfl rfl (by decide) (Nat.le_refl _) (Nat.le_refl _) (Nat.le_of_ble_eq_true rfl) dX6_machine_7 ?_
  refine g_if_ne C 17 dX6_machine_10 (by decide) (by omega) (fun c10 => ?_) (fun c10 => ?_)
  · refine g_aload_n C 0 dX6_machine_17 rfl rfl ?_
    refine m_fld C hS (fX6_58 rfl) rfl dX6_machine_18 ?_
    refine g_bipush C dX6_machine_21 (by decide) ?_
    refine g_icmp_ne C 30 dX6_machine_23 (by decide) (by omega) (by omega) (fun c23 => ?_) (fun c23 => ?_)
    · refine g_iconst C dX6_machine_30 ?_
      refine m_call C hS [_] _ (kX6_75 rfl) (c6_ref0 hS) rfl rfl (by decide) (Nat.le_refl _) (Nat.le_refl _) (Nat.le_of_ble_eq_true rfl) dX6_machine_31 ?_
      refine g_if_eq C 39 dX6_machine_34 (by decide) (by omega) (fun c34 => ?_) (fun c34 => ?_)
      · refine g_aload_n C 0 dX6_machine_39 rfl rfl ?_
        refine m_arr C hS 1 (by omega) (by omega) (fX6_7 rfl) rfl dX6_machine_40 ?_
        refine g_aload_n C 0 dX6_machine_43 rfl rfl ?_
        refine m_fldv C hS (fX6_58 rfl) rfl (S 0 2) rfl dX6_machine_44 ?_
        refine g_iload_n C 1 dX6_machine_47 rfl rfl ?_
        refine m_iast C hS (by omega) rfl (by omega) nm (by omega) (by omega) dX6_machine_48 ?_
        refine g_iconst C dX6_machine_49 ?_
        refine s_istore_n (lo' := [_, _, _]) C 2 dX6_machine_50 rfl (by decide) rfl ?_
        refine g_iload_n C 2 dX6_machine_51 rfl rfl ?_
        refine g_aload_n C 0 dX6_machine_52 rfl rfl ?_
        refine m_fldv C hS (fX6_29 rfl) rfl (S 0 13) rfl dX6_machine_53 ?_
        refine g_icmp_ge C 79 dX6_machine_56 (by decide) (by omega) (by omega) (fun c56 => ?_) (fun c56 => ?_)
        · omega
        · refine g_aload_n C 0 dX6_machine_59 rfl rfl ?_
          refine m_fldv C hS (fX6_58 rfl) rfl (S 0 2) rfl dX6_machine_60 ?_
          refine g_if_ne C 79 dX6_machine_63 (by decide) (by omega) (fun c63 => ?_) (fun c63 => ?_)
          · refine g_aload_n C 0 dX6_machine_79 rfl rfl ?_
            refine g_dup C dX6_machine_80 rfl ?_
            refine m_fldv C hS (fX6_58 rfl) rfl (S 0 2) rfl dX6_machine_81 ?_
            refine g_iconst C dX6_machine_84 ?_
            refine g_iadd C dX6_machine_85 ?_
            refine m_put C hS (fX6_58 rfl) rfl dX6_machine_86 ?_
            refine g_aload_n C 0 dX6_machine_89 rfl rfl ?_
            refine m_fldv C hS (fX6_58 rfl) rfl (S 0 2 + 1) rfl dX6_machine_90 ?_
            refine g_iconst C dX6_machine_93 ?_
            refine g_isub C dX6_machine_94 ?_
            exact g_iret C dX6_machine_95 (Nat.le_refl _) (Nat.le_refl _) ⟨by rw [Int.add_sub_cancel, e02], by rw [e02]⟩
          · omega
      · omega
    · omega
  · omega

set_option maxRecDepth 100000 in
set_option maxHeartbeats 4000000 in
theorem c6_machine_4 (hS : gShM h) (h1 : gW1 S) (h2 : gW2 S) (h0 : gW0 S) {nm ns : Nat} (hs : gWS S nm ns) (x : Int) (hx : (-2147483648 ≤ x ∧ x < 2147483648)) (hp : 100 ≤ x ∧ x ≤ 10000) (hq : nm = 0) : gMm w l yX6_machine cX6_machine 3 (some .int) 1 [.ref 34, .int (iI x)] h S (some (.int (iI (S 0 2)))) (su (son0 (su (su S 0 0 0) 1 nm x) ns) 0 2 (S 0 2 + 1)) := by
  refine gMm_start (by decide +kernel) (by simp [Value.category]) (Nat.le_of_ble_eq_true rfl) (fun m Wp C => ?_)
  have e02 := hs.1
  have hnm := hs.2.1
  have e13 := hs.2.2.1
  have hns1 := hs.2.2.2.1
  have hns2 := hs.2.2.2.2.1
  obtain ⟨hw1, hw7, hw8⟩ := h0
  have L : ∀ (n i : Nat), i + n = ns → gG w m 3 Wp (gwr h (son0 (su (su S 0 0 0) 1 nm x) i)) 0 0 [some (.ref 34), some (.int (iI x)), some (.int (iI (i : Int)))] [] 51 := by
    intro n
    induction n with
    | zero =>
      intro i h9
      have e9 : i = ns := by omega
      subst e9
      refine g_iload_n C 2 dX6_machine_51 rfl rfl ?_
      refine g_aload_n C 0 dX6_machine_52 rfl rfl ?_
      refine m_fldv C hS (fX6_29 rfl) rfl (S 0 13) rfl dX6_machine_53 ?_
      refine g_icmp_ge C 79 dX6_machine_56 (by decide) (by omega) (by omega) (fun c56 => ?_) (fun c56 => ?_)
      · refine g_aload_n C 0 dX6_machine_79 rfl rfl ?_
        refine g_dup C dX6_machine_80 rfl ?_
        refine m_fldv C hS (fX6_58 rfl) rfl (S 0 2) rfl dX6_machine_81 ?_
        refine g_iconst C dX6_machine_84 ?_
        refine g_iadd C dX6_machine_85 ?_
        refine m_put C hS (fX6_58 rfl) rfl dX6_machine_86 ?_
        refine g_aload_n C 0 dX6_machine_89 rfl rfl ?_
        refine m_fldv C hS (fX6_58 rfl) rfl (S 0 2 + 1) rfl dX6_machine_90 ?_
        refine g_iconst C dX6_machine_93 ?_
        refine g_isub C dX6_machine_94 ?_
        exact g_iret C dX6_machine_95 (Nat.le_refl _) (Nat.le_refl _) ⟨by rw [Int.add_sub_cancel], rfl⟩
      · omega
    | succ n ih =>
      intro i h9
      refine g_iload_n C 2 dX6_machine_51 rfl rfl ?_
      refine g_aload_n C 0 dX6_machine_52 rfl rfl ?_
      refine m_fldv C hS (fX6_29 rfl) rfl (S 0 13) rfl dX6_machine_53 ?_
      refine g_icmp_ge C 79 dX6_machine_56 (by decide) (by omega) (by omega) (fun c56 => ?_) (fun c56 => ?_)
      · omega
      · refine g_aload_n C 0 dX6_machine_59 rfl rfl ?_
        refine m_fldv C hS (fX6_58 rfl) rfl (S 0 2) rfl dX6_machine_60 ?_
        refine g_if_ne C 79 dX6_machine_63 (by decide) (by omega) (fun c63 => ?_) (fun c63 => ?_)
        · omega
        · refine g_aload_n C 0 dX6_machine_66 rfl rfl ?_
          refine m_arr C hS 8 (by omega) (by omega) (fX6_36 rfl) rfl dX6_machine_67 ?_
          refine g_iload_n C 2 dX6_machine_70 rfl rfl ?_
          refine g_iconst C dX6_machine_71 ?_
          refine m_iast C hS (by omega) rfl (by omega) i (by omega) (by omega) dX6_machine_72 ?_
          refine s_iinc (lo' := [_, _, _]) C dX6_machine_73 rfl (by decide) rfl ?_
          refine g_goto C 51 dX6_machine_76 (by decide) ?_
          exact g_as (ih (i + 1) (by omega)) (by rw [son0_s]) rfl rfl
  show gG w m 3 Wp (gwr h S) 0 0 [some (.ref 34), some (.int (iI x)), none] [] 0
  refine g_aload_n C 0 dX6_machine_0 rfl rfl ?_
  refine g_iload_n C 1 dX6_machine_1 rfl rfl ?_
  refine g_bipush C dX6_machine_2 (by decide) ?_
  refine g_sipush C dX6_machine_4 (by decide) ?_
  refine m_callS C [_, _, _] _ (kX6_54 rfl) rfl (c6_in_t x 100 10000 hx (by omega) (by omega) hp) rfl rfl (by decide) (Nat.le_refl _) (Nat.le_refl _) (Nat.le_of_ble_eq_true rfl) dX6_machine_7 ?_
  refine g_if_ne C 17 dX6_machine_10 (by decide) (by omega) (fun c10 => ?_) (fun c10 => ?_)
  · refine g_aload_n C 0 dX6_machine_17 rfl rfl ?_
    refine m_fld C hS (fX6_58 rfl) rfl dX6_machine_18 ?_
    refine g_bipush C dX6_machine_21 (by decide) ?_
    refine g_icmp_ne C 30 dX6_machine_23 (by decide) (by omega) (by omega) (fun c23 => ?_) (fun c23 => ?_)
    · refine g_iconst C dX6_machine_30 ?_
      refine m_call C hS [_] _ (kX6_75 rfl) (c6_ref0 hS) rfl rfl (by decide) (Nat.le_refl _) (Nat.le_refl _) (Nat.le_of_ble_eq_true rfl) dX6_machine_31 ?_
      refine g_if_eq C 39 dX6_machine_34 (by decide) (by omega) (fun c34 => ?_) (fun c34 => ?_)
      · refine g_aload_n C 0 dX6_machine_39 rfl rfl ?_
        refine m_arr C hS 1 (by omega) (by omega) (fX6_7 rfl) rfl dX6_machine_40 ?_
        refine g_aload_n C 0 dX6_machine_43 rfl rfl ?_
        refine m_fldv C hS (fX6_58 rfl) rfl (S 0 2) rfl dX6_machine_44 ?_
        refine g_iload_n C 1 dX6_machine_47 rfl rfl ?_
        refine m_iast C hS (by omega) rfl (by omega) nm (by omega) (by omega) dX6_machine_48 ?_
        refine g_iconst C dX6_machine_49 ?_
        refine s_istore_n (lo' := [_, _, _]) C 2 dX6_machine_50 rfl (by decide) rfl ?_
        exact g_as (L ns 0 (by omega)) (by rw [son0_0]) rfl rfl
      · omega
    · omega
  · omega

set_option maxRecDepth 100000 in
set_option maxHeartbeats 4000000 in
theorem c6_down_1 (hS : gShM h) (h1 : gW1 S) (h2 : gW2 S) (h0 : gW0 S) {nm ns : Nat} (hs : gWS S nm ns) (x : Int) (hx : (-2147483648 ≤ x ∧ x < 2147483648)) (b : Int) (hb : b = 0 ∨ b = 1) (hp : ¬ (0 ≤ x ∧ x < nm)) : gMm w l yX6_down cX6_down 5 (some .boolean) 2 [.ref 34, .int (iI x), .int (iI b)] h S (some (.int (iI (0)))) (su S 0 0 1) := by
  refine gMm_start (by decide +kernel) (by simp [Value.category]) (Nat.le_of_ble_eq_true rfl) (fun m Wp C => ?_)
  have e02 := hs.1
  have hnm := hs.2.1
  have e13 := hs.2.2.1
  have hns1 := hs.2.2.2.1
  have hns2 := hs.2.2.2.2.1
  obtain ⟨hw1, hw7, hw8⟩ := h0
  show gG w m 5 Wp (gwr h S) 0 0 [some (.ref 34), some (.int (iI x)), some (.int (iI b)), none, none] [] 0
  refine g_aload_n C 0 dX6_down_0 rfl rfl ?_
  refine g_aload_n C 0 dX6_down_1 rfl rfl ?_
  refine g_iload_n C 1 dX6_down_2 rfl rfl ?_
  refine m_call C hS [_] _ (kX6_79 rfl) (c6_isMachine_f hS x hx (by omega) (by omega)) rfl rfl (by decide) (Nat.le_refl _) (Nat.le_refl _) (Nat.le_of_ble_eq_true rfl) dX6_down_3 ?_
  refine g_if_eq C 13 dX6_down_6 (by decide) (by omega) (fun c6 => ?_) (fun c6 => ?_)
  · refine g_iconst C dX6_down_13 ?_
    refine m_call C hS [_] _ (kX6_75 rfl) (c6_refN hS 1 (by omega) (by omega)) rfl rfl (by decide) (Nat.le_refl _) (Nat.le_refl _) (Nat.le_of_ble_eq_true rfl) dX6_down_14 ?_
    refine g_if_eq C 22 dX6_down_17 (by decide) (by omega) (fun c17 => ?_) (fun c17 => ?_)
    · omega
    · refine g_iconst C dX6_down_20 ?_
      exact g_zret C dX6_down_21 (by omega) (Nat.le_refl _) (Nat.le_refl _) ⟨rfl, rfl⟩
  · omega

def sdn (U : gS) (mi : Int) : Nat → gS
  | 0 => U
  | k + 1 => if sdn U mi k 9 k ≠ -1 ∧ (sdn U mi k 8 k = mi ∨ sdn U mi k 9 k = mi) then su (su (sdn U mi k) 9 k (-1)) 0 10 (sdn U mi k 0 10 + 1) else sdn U mi k
theorem gW1_roll {U : gS} (h1 : gW1 U) (k : Nat) (v : Int) : gW1 (su (su U 9 k (-1)) 0 10 v) := by
  intro i
  have h := h1 i
  show (0 ≤ U 7 i ∧ _) ∧ (-1 ≤ U 8 i ∧ _) ∧ (-1 ≤ va_up (U 9) k (-1) i ∧ va_up (U 9) k (-1) i ≤ 5) ∧ (0 ≤ U 10 i ∧ _)
  unfold va_up
  refine ⟨h.1, h.2.1, ?_, h.2.2.2⟩
  split <;> omega
theorem sdn_w {U : gS} (h1 : gW1 U) (mi : Int) : ∀ k, gW1 (sdn U mi k) ∧ sdn U mi k 0 13 = U 0 13
  | 0 => ⟨h1, rfl⟩
  | k + 1 => by
    have h := sdn_w h1 mi k
    unfold sdn
    split
    · exact ⟨gW1_roll h.1 k _, h.2⟩
    · exact h

set_option maxRecDepth 100000 in
set_option maxHeartbeats 4000000 in
theorem c6_down_2 (hS : gShM h) (h1 : gW1 S) (h2 : gW2 S) (h0 : gW0 S) {nm ns : Nat} (hs : gWS S nm ns) (x : Int) (hx : (-2147483648 ≤ x ∧ x < 2147483648)) (mi : Nat) (he : x = (mi : Int)) (hp : mi < nm) : gMm w l yX6_down cX6_down 5 (some .boolean) 2 [.ref 34, .int (iI x), .int (iI 0)] h S (some (.int (iI (S 2 mi)))) (su (su S 0 0 0) 2 mi 0) := by
  refine gMm_start (by decide +kernel) (by simp [Value.category]) (Nat.le_of_ble_eq_true rfl) (fun m Wp C => ?_)
  have e02 := hs.1
  have hnm := hs.2.1
  have e13 := hs.2.2.1
  have hns1 := hs.2.2.2.1
  have hns2 := hs.2.2.2.2.1
  obtain ⟨hw1, hw7, hw8⟩ := h0
  show gG w m 5 Wp (gwr h S) 0 0 [some (.ref 34), some (.int (iI x)), some (.int (iI 0)), none, none] [] 0
  refine g_aload_n C 0 dX6_down_0 rfl rfl ?_
  refine g_aload_n C 0 dX6_down_1 rfl rfl ?_
  refine g_iload_n C 1 dX6_down_2 rfl rfl ?_
  refine m_call C hS [_] _ (kX6_79 rfl) (c6_isMachine_t hS x hx (by omega) (by omega)) rfl rfl (by decide) (Nat.le_refl _) (Nat.le_refl _) (Nat.le_of_ble_eq_true rfl) dX6_down_3 ?_
  refine g_if_eq C 13 dX6_down_6 (by decide) (by omega) (fun c6 => ?_) (fun c6 => ?_)
  · omega
  · refine g_iconst C dX6_down_9 ?_
    refine g_goto C 14 dX6_down_10 (by decide) ?_
    refine m_call C hS [_] _ (kX6_75 rfl) (c6_ref0 hS) rfl rfl (by decide) (Nat.le_refl _) (Nat.le_refl _) (Nat.le_of_ble_eq_true rfl) dX6_down_14 ?_
    refine g_if_eq C 22 dX6_down_17 (by decide) (by omega) (fun c17 => ?_) (fun c17 => ?_)
    · refine g_aload_n C 0 dX6_down_22 rfl rfl ?_
      refine m_arr C hS 2 (by omega) (by omega) (fX6_13 rfl) rfl dX6_down_23 ?_
      refine g_iload_n C 1 dX6_down_26 rfl rfl ?_
      refine m_baldv C hS mi (by omega) (by omega) (S 2 mi) rfl dX6_down_27 ?_
      refine s_istore_n (lo' := [_, _, _, _, _]) C 3 dX6_down_28 rfl (by decide) rfl ?_
      refine g_aload_n C 0 dX6_down_29 rfl rfl ?_
      refine m_arr C hS 2 (by omega) (by omega) (fX6_13 rfl) rfl dX6_down_30 ?_
      refine g_iload_n C 1 dX6_down_33 rfl rfl ?_
      refine g_iload_n C 2 dX6_down_34 rfl rfl ?_
      refine m_bast C hS mi (by omega) (by omega) (by omega) dX6_down_35 ?_
      refine g_iconst C dX6_down_36 ?_
      refine s_istore (lo' := [_, _, _, _, _]) C dX6_down_37 (by decide) rfl ?_
      refine g_iload C dX6_down_39 rfl ?_
      refine g_aload_n C 0 dX6_down_41 rfl rfl ?_
      refine m_fldv C hS (fX6_29 rfl) rfl (S 0 13) rfl dX6_down_42 ?_
      refine g_icmp_ge C 97 dX6_down_45 (by decide) (by omega) (by omega) (fun c45 => ?_) (fun c45 => ?_)
      · omega
      · refine g_iload_n C 2 dX6_down_48 rfl rfl ?_
        refine g_if_eq C 97 dX6_down_49 (by decide) (by omega) (fun c49 => ?_) (fun c49 => ?_)
        · refine g_iload_n C 3 dX6_down_97 rfl rfl ?_
          exact g_zret C dX6_down_98 (h2 mi).2.1 (Nat.le_refl _) (Nat.le_refl _) ⟨rfl, rfl⟩
        · omega
    · omega

set_option maxRecDepth 100000 in
set_option maxHeartbeats 4000000 in
theorem c6_down_3 (hS : gShM h) (h1 : gW1 S) (h2 : gW2 S) (h0 : gW0 S) {nm ns : Nat} (hs : gWS S nm ns) (x : Int) (hx : (-2147483648 ≤ x ∧ x < 2147483648)) (mi : Nat) (he : x = (mi : Int)) (hp : mi < nm) : gMm w l yX6_down cX6_down 5 (some .boolean) 2 [.ref 34, .int (iI x), .int (iI 1)] h S (some (.int (iI (S 2 mi)))) (sdn (su (su S 0 0 0) 2 mi 1) x ns) := by
  refine gMm_start (by decide +kernel) (by simp [Value.category]) (Nat.le_of_ble_eq_true rfl) (fun m Wp C => ?_)
  have e02 := hs.1
  have hnm := hs.2.1
  have e13 := hs.2.2.1
  have hns1 := hs.2.2.2.1
  have hns2 := hs.2.2.2.2.1
  obtain ⟨hw1, hw7, hw8⟩ := h0
  have hU : gW1 (su (su S 0 0 0) 2 mi 1) := h1
  have L : ∀ (n i : Nat), i + n = ns → gG w m 5 Wp (gwr h (sdn (su (su S 0 0 0) 2 mi 1) x i)) 0 0 [some (.ref 34), some (.int (iI x)), some (.int (iI 1)), some (.int (iI (S 2 mi))), some (.int (iI (i : Int)))] [] 39 := by
    intro n
    induction n with
    | zero =>
      intro i h9
      have e9 : i = ns := by omega
      subst e9
      have hV := (sdn_w hU x i).2
      refine g_iload C dX6_down_39 rfl ?_
      refine g_aload_n C 0 dX6_down_41 rfl rfl ?_
      
      refine m_fldv C hS (fX6_29 rfl) rfl (S 0 13) hV dX6_down_42 ?_
      refine g_icmp_ge C 97 dX6_down_45 (by decide) (by omega) (by omega) (fun c45 => ?_) (fun c45 => ?_)
      · refine g_iload_n C 3 dX6_down_97 rfl rfl ?_
        exact g_zret C dX6_down_98 (h2 mi).2.1 (Nat.le_refl _) (Nat.le_refl _) ⟨rfl, rfl⟩
      · omega
    | succ n ih =>
      intro i h9
      have hV := (sdn_w hU x i).2
      have hr := (sdn_w hU x i).1 i
      refine g_iload C dX6_down_39 rfl ?_
      refine g_aload_n C 0 dX6_down_41 rfl rfl ?_
      refine m_fldv C hS (fX6_29 rfl) rfl (S 0 13) hV dX6_down_42 ?_
      refine g_icmp_ge C 97 dX6_down_45 (by decide) (by omega) (by omega) (fun c45 => ?_) (fun c45 => ?_)
      · omega
      · refine g_iload_n C 2 dX6_down_48 rfl rfl ?_
        refine g_if_eq C 97 dX6_down_49 (by decide) (by omega) (fun c49 => ?_) (fun c49 => ?_)
        · omega
        · refine g_aload_n C 0 dX6_down_52 rfl rfl ?_
          refine m_arr C hS 9 (by omega) (by omega) (fX6_39 rfl) rfl dX6_down_53 ?_
          refine g_iload C dX6_down_56 rfl ?_
          refine m_iald C hS (by omega) rfl (by omega) i (by omega) (by omega) dX6_down_58 ?_
          refine g_iconst C dX6_down_59 ?_
          refine g_icmp_eq C 91 dX6_down_60 (by decide) (by omega) (by omega) (fun c60 => ?_) (fun c60 => ?_)
          · refine s_iinc (lo' := [_, _, _, _, _]) C dX6_down_91 rfl (by decide) rfl ?_
            refine g_goto C 39 dX6_down_94 (by decide) ?_
            exact g_as (ih (i + 1) (by omega)) (by rw [sdn, if_neg (by omega)]) rfl rfl
          · refine g_aload_n C 0 dX6_down_63 rfl rfl ?_
            refine m_arr C hS 8 (by omega) (by omega) (fX6_36 rfl) rfl dX6_down_64 ?_
            refine g_iload C dX6_down_67 rfl ?_
            refine m_iald C hS (by omega) rfl (by omega) i (by omega) (by omega) dX6_down_69 ?_
            refine g_iload_n C 1 dX6_down_70 rfl rfl ?_
            refine g_icmp_eq C 85 dX6_down_71 (by decide) (by omega) (by omega) (fun c71 => ?_) (fun c71 => ?_)
            · refine g_aload_n C 0 dX6_down_85 rfl rfl ?_
              refine g_iload C dX6_down_86 rfl ?_
              refine m_call C hS [_] _ (kX6_82 rfl) (c6_rollBack hS i i rfl (by omega)) rfl rfl (by decide) (Nat.le_refl _) (Nat.le_refl _) (Nat.le_of_ble_eq_true rfl) dX6_down_88 ?_
              refine s_iinc (lo' := [_, _, _, _, _]) C dX6_down_91 rfl (by decide) rfl ?_
              refine g_goto C 39 dX6_down_94 (by decide) ?_
              exact g_as (ih (i + 1) (by omega)) (by rw [sdn, if_pos (by omega)]) rfl rfl
            · refine g_aload_n C 0 dX6_down_74 rfl rfl ?_
              refine m_arr C hS 9 (by omega) (by omega) (fX6_39 rfl) rfl dX6_down_75 ?_
              refine g_iload C dX6_down_78 rfl ?_
              refine m_iald C hS (by omega) rfl (by omega) i (by omega) (by omega) dX6_down_80 ?_
              refine g_iload_n C 1 dX6_down_81 rfl rfl ?_
              refine g_icmp_ne C 91 dX6_down_82 (by decide) (by omega) (by omega) (fun c82 => ?_) (fun c82 => ?_)
              · refine s_iinc (lo' := [_, _, _, _, _]) C dX6_down_91 rfl (by decide) rfl ?_
                refine g_goto C 39 dX6_down_94 (by decide) ?_
                exact g_as (ih (i + 1) (by omega)) (by rw [sdn, if_neg (by omega)]) rfl rfl
              · refine g_aload_n C 0 dX6_down_85 rfl rfl ?_
                refine g_iload C dX6_down_86 rfl ?_
                refine m_call C hS [_] _ (kX6_82 rfl) (c6_rollBack hS i i rfl (by omega)) rfl rfl (by decide) (Nat.le_refl _) (Nat.le_refl _) (Nat.le_of_ble_eq_true rfl) dX6_down_88 ?_
                refine s_iinc (lo' := [_, _, _, _, _]) C dX6_down_91 rfl (by decide) rfl ?_
                refine g_goto C 39 dX6_down_94 (by decide) ?_
                exact g_as (ih (i + 1) (by omega)) (by rw [sdn, if_pos (by omega)]) rfl rfl
  show gG w m 5 Wp (gwr h S) 0 0 [some (.ref 34), some (.int (iI x)), some (.int (iI 1)), none, none] [] 0
  refine g_aload_n C 0 dX6_down_0 rfl rfl ?_
  refine g_aload_n C 0 dX6_down_1 rfl rfl ?_
  refine g_iload_n C 1 dX6_down_2 rfl rfl ?_
  refine m_call C hS [_] _ (kX6_79 rfl) (c6_isMachine_t hS x hx (by omega) (by omega)) rfl rfl (by decide) (Nat.le_refl _) (Nat.le_refl _) (Nat.le_of_ble_eq_true rfl) dX6_down_3 ?_
  refine g_if_eq C 13 dX6_down_6 (by decide) (by omega) (fun c6 => ?_) (fun c6 => ?_)
  · omega
  · refine g_iconst C dX6_down_9 ?_
    refine g_goto C 14 dX6_down_10 (by decide) ?_
    refine m_call C hS [_] _ (kX6_75 rfl) (c6_ref0 hS) rfl rfl (by decide) (Nat.le_refl _) (Nat.le_refl _) (Nat.le_of_ble_eq_true rfl) dX6_down_14 ?_
    refine g_if_eq C 22 dX6_down_17 (by decide) (by omega) (fun c17 => ?_) (fun c17 => ?_)
    · refine g_aload_n C 0 dX6_down_22 rfl rfl ?_
      refine m_arr C hS 2 (by omega) (by omega) (fX6_13 rfl) rfl dX6_down_23 ?_
      refine g_iload_n C 1 dX6_down_26 rfl rfl ?_
      refine m_baldv C hS mi (by omega) (by omega) (S 2 mi) rfl dX6_down_27 ?_
      refine s_istore_n (lo' := [_, _, _, _, _]) C 3 dX6_down_28 rfl (by decide) rfl ?_
      refine g_aload_n C 0 dX6_down_29 rfl rfl ?_
      refine m_arr C hS 2 (by omega) (by omega) (fX6_13 rfl) rfl dX6_down_30 ?_
      refine g_iload_n C 1 dX6_down_33 rfl rfl ?_
      refine g_iload_n C 2 dX6_down_34 rfl rfl ?_
      refine m_bast C hS mi (by omega) (by omega) (by omega) dX6_down_35 ?_
      refine g_iconst C dX6_down_36 ?_
      refine s_istore (lo' := [_, _, _, _, _]) C dX6_down_37 (by decide) rfl ?_
      exact L ns 0 (by omega)
    · omega

set_option maxRecDepth 100000 in
set_option maxHeartbeats 4000000 in
theorem c6_quota_1 (hS : gShM h) (h1 : gW1 S) (h2 : gW2 S) (h0 : gW0 S) {nm ns : Nat} (hs : gWS S nm ns) (t : Int) (ht : (-2147483648 ≤ t ∧ t < 2147483648)) (b : Int) (hb : (-2147483648 ≤ b ∧ b < 2147483648)) (hp : ¬ (0 ≤ t ∧ t ≤ 3)) : gMm w l yX6_quota cX6_quota 4 (some .int) 2 [.ref 34, .int (iI t), .int (iI b)] h S (some (.int (iI (0)))) (su S 0 0 1) := by
  refine gMm_start (by decide +kernel) (by simp [Value.category]) (Nat.le_of_ble_eq_true rfl) (fun m Wp C => ?_)
  have e02 := hs.1
  have hnm := hs.2.1
  have e13 := hs.2.2.1
  have hns1 := hs.2.2.2.1
  have hns2 := hs.2.2.2.2.1
  obtain ⟨hw1, hw7, hw8⟩ := h0
  show gG w m 4 Wp (gwr h S) 0 0 [some (.ref 34), some (.int (iI t)), some (.int (iI b)), none] [] 0
  refine g_aload_n C 0 dX6_quota_0 rfl rfl ?_
  refine g_iload_n C 1 dX6_quota_1 rfl rfl ?_
  refine m_callS C [_] _ (kX6_86 rfl) rfl (c6_isTenant_f t ht (by omega)) rfl rfl (by decide) (Nat.le_refl _) (Nat.le_refl _) (Nat.le_of_ble_eq_true rfl) dX6_quota_2 ?_
  refine g_if_ne C 12 dX6_quota_5 (by decide) (by omega) (fun c5 => ?_) (fun c5 => ?_)
  · omega
  · refine g_iconst C dX6_quota_8 ?_
    refine g_goto C 28 dX6_quota_9 (by decide) ?_
    refine m_call C hS [_] _ (kX6_75 rfl) (c6_refN hS 1 (by omega) (by omega)) rfl rfl (by decide) (Nat.le_refl _) (Nat.le_refl _) (Nat.le_of_ble_eq_true rfl) dX6_quota_28 ?_
    refine g_if_eq C 36 dX6_quota_31 (by decide) (by omega) (fun c31 => ?_) (fun c31 => ?_)
    · omega
    · refine g_iconst C dX6_quota_34 ?_
      exact g_iret C dX6_quota_35 (Nat.le_refl _) (Nat.le_refl _) ⟨rfl, rfl⟩

set_option maxRecDepth 100000 in
set_option maxHeartbeats 4000000 in
theorem c6_quota_2 (hS : gShM h) (h1 : gW1 S) (h2 : gW2 S) (h0 : gW0 S) {nm ns : Nat} (hs : gWS S nm ns) (t : Int) (ht : (-2147483648 ≤ t ∧ t < 2147483648)) (b : Int) (hb : (-2147483648 ≤ b ∧ b < 2147483648)) (hp : 0 ≤ t ∧ t ≤ 3) (hq : ¬ (0 ≤ b ∧ b ≤ 20000)) : gMm w l yX6_quota cX6_quota 4 (some .int) 2 [.ref 34, .int (iI t), .int (iI b)] h S (some (.int (iI (0)))) (su S 0 0 2) := by
  refine gMm_start (by decide +kernel) (by simp [Value.category]) (Nat.le_of_ble_eq_true rfl) (fun m Wp C => ?_)
  have e02 := hs.1
  have hnm := hs.2.1
  have e13 := hs.2.2.1
  have hns1 := hs.2.2.2.1
  have hns2 := hs.2.2.2.2.1
  obtain ⟨hw1, hw7, hw8⟩ := h0
  show gG w m 4 Wp (gwr h S) 0 0 [some (.ref 34), some (.int (iI t)), some (.int (iI b)), none] [] 0
  refine g_aload_n C 0 dX6_quota_0 rfl rfl ?_
  refine g_iload_n C 1 dX6_quota_1 rfl rfl ?_
  refine m_callS C [_] _ (kX6_86 rfl) rfl (c6_isTenant_t t ht (by omega)) rfl rfl (by decide) (Nat.le_refl _) (Nat.le_refl _) (Nat.le_of_ble_eq_true rfl) dX6_quota_2 ?_
  refine g_if_ne C 12 dX6_quota_5 (by decide) (by omega) (fun c5 => ?_) (fun c5 => ?_)
  · refine g_iload_n C 2 dX6_quota_12 rfl rfl ?_
    refine g_iconst C dX6_quota_13 ?_
    refine g_sipush C dX6_quota_14 (by decide) ?_
    refine m_callS C [_, _, _] _ (kX6_54 rfl) rfl (c6_in_f b 0 20000 hb (by omega) (by omega) (by omega)) rfl rfl (by decide) (Nat.le_refl _) (Nat.le_refl _) (Nat.le_of_ble_eq_true rfl) dX6_quota_17 ?_
    refine g_if_ne C 27 dX6_quota_20 (by decide) (by omega) (fun c20 => ?_) (fun c20 => ?_)
    · omega
    · refine g_iconst C dX6_quota_23 ?_
      refine g_goto C 28 dX6_quota_24 (by decide) ?_
      refine m_call C hS [_] _ (kX6_75 rfl) (c6_refN hS 2 (by omega) (by omega)) rfl rfl (by decide) (Nat.le_refl _) (Nat.le_refl _) (Nat.le_of_ble_eq_true rfl) dX6_quota_28 ?_
      refine g_if_eq C 36 dX6_quota_31 (by decide) (by omega) (fun c31 => ?_) (fun c31 => ?_)
      · omega
      · refine g_iconst C dX6_quota_34 ?_
        exact g_iret C dX6_quota_35 (Nat.le_refl _) (Nat.le_refl _) ⟨rfl, rfl⟩
  · omega

set_option maxRecDepth 100000 in
set_option maxHeartbeats 4000000 in
theorem c6_quota_3 (hS : gShM h) (h1 : gW1 S) (h2 : gW2 S) (h0 : gW0 S) {nm ns : Nat} (hs : gWS S nm ns) (t : Int) (ht : (-2147483648 ≤ t ∧ t < 2147483648)) (b : Int) (hb : (-2147483648 ≤ b ∧ b < 2147483648)) (hp : 0 ≤ t ∧ t ≤ 3) (hq : 0 ≤ b ∧ b ≤ 20000) : gMm w l yX6_quota cX6_quota 4 (some .int) 2 [.ref 34, .int (iI t), .int (iI b)] h S (some (.int (iI (S 3 t.toNat)))) (su (su S 0 0 0) 3 t.toNat b) := by
  refine gMm_start (by decide +kernel) (by simp [Value.category]) (Nat.le_of_ble_eq_true rfl) (fun m Wp C => ?_)
  have e02 := hs.1
  have hnm := hs.2.1
  have e13 := hs.2.2.1
  have hns1 := hs.2.2.2.1
  have hns2 := hs.2.2.2.2.1
  obtain ⟨hw1, hw7, hw8⟩ := h0
  show gG w m 4 Wp (gwr h S) 0 0 [some (.ref 34), some (.int (iI t)), some (.int (iI b)), none] [] 0
  refine g_aload_n C 0 dX6_quota_0 rfl rfl ?_
  refine g_iload_n C 1 dX6_quota_1 rfl rfl ?_
  refine m_callS C [_] _ (kX6_86 rfl) rfl (c6_isTenant_t t ht (by omega)) rfl rfl (by decide) (Nat.le_refl _) (Nat.le_refl _) (Nat.le_of_ble_eq_true rfl) dX6_quota_2 ?_
  refine g_if_ne C 12 dX6_quota_5 (by decide) (by omega) (fun c5 => ?_) (fun c5 => ?_)
  · refine g_iload_n C 2 dX6_quota_12 rfl rfl ?_
    refine g_iconst C dX6_quota_13 ?_
    refine g_sipush C dX6_quota_14 (by decide) ?_
    refine m_callS C [_, _, _] _ (kX6_54 rfl) rfl (c6_in_t b 0 20000 hb (by omega) (by omega) (by omega)) rfl rfl (by decide) (Nat.le_refl _) (Nat.le_refl _) (Nat.le_of_ble_eq_true rfl) dX6_quota_17 ?_
    refine g_if_ne C 27 dX6_quota_20 (by decide) (by omega) (fun c20 => ?_) (fun c20 => ?_)
    · refine g_iconst C dX6_quota_27 ?_
      refine m_call C hS [_] _ (kX6_75 rfl) (c6_ref0 hS) rfl rfl (by decide) (Nat.le_refl _) (Nat.le_refl _) (Nat.le_of_ble_eq_true rfl) dX6_quota_28 ?_
      refine g_if_eq C 36 dX6_quota_31 (by decide) (by omega) (fun c31 => ?_) (fun c31 => ?_)
      · refine g_aload_n C 0 dX6_quota_36 rfl rfl ?_
        refine m_arr C hS 3 (by omega) (by omega) (fX6_17 rfl) rfl dX6_quota_37 ?_
        refine g_iload_n C 1 dX6_quota_40 rfl rfl ?_
        refine m_ialdv C hS (by omega) rfl (by omega) t.toNat (by omega) (by omega) (S 3 t.toNat) rfl dX6_quota_41 ?_
        refine s_istore_n (lo' := [_, _, _, _]) C 3 dX6_quota_42 rfl (by decide) rfl ?_
        refine g_aload_n C 0 dX6_quota_43 rfl rfl ?_
        refine m_arr C hS 3 (by omega) (by omega) (fX6_17 rfl) rfl dX6_quota_44 ?_
        refine g_iload_n C 1 dX6_quota_47 rfl rfl ?_
        refine g_iload_n C 2 dX6_quota_48 rfl rfl ?_
        refine m_iast C hS (by omega) rfl (by omega) t.toNat (by omega) (by omega) dX6_quota_49 ?_
        refine g_iload_n C 3 dX6_quota_50 rfl rfl ?_
        exact g_iret C dX6_quota_51 (Nat.le_refl _) (Nat.le_refl _) ⟨rfl, rfl⟩
      · omega
    · omega
  · omega

set_option maxRecDepth 100000 in
set_option maxHeartbeats 4000000 in
theorem c6_limit_1 (hS : gShM h) (h1 : gW1 S) (h2 : gW2 S) (h0 : gW0 S) {nm ns : Nat} (hs : gWS S nm ns) (x : Int) (hx : (-2147483648 ≤ x ∧ x < 2147483648)) (hp : ¬ (0 ≤ x ∧ x ≤ 1000)) : gMm w l yX6_limit cX6_limit 3 (some .int) 1 [.ref 34, .int (iI x)] h S (some (.int (iI (0)))) (su S 0 0 1) := by
  refine gMm_start (by decide +kernel) (by simp [Value.category]) (Nat.le_of_ble_eq_true rfl) (fun m Wp C => ?_)
  have e02 := hs.1
  have hnm := hs.2.1
  have e13 := hs.2.2.1
  have hns1 := hs.2.2.2.1
  have hns2 := hs.2.2.2.2.1
  obtain ⟨hw1, hw7, hw8⟩ := h0
  show gG w m 3 Wp (gwr h S) 0 0 [some (.ref 34), some (.int (iI x)), none] [] 0
  refine g_aload_n C 0 dX6_limit_0 rfl rfl ?_
  refine g_iload_n C 1 dX6_limit_1 rfl rfl ?_
  refine g_iconst C dX6_limit_2 ?_
  refine g_sipush C dX6_limit_3 (by decide) ?_
  refine m_callS C [_, _, _] _ (kX6_54 rfl) rfl (c6_in_f x 0 1000 hx (by omega) (by omega) hp) rfl rfl (by decide) (Nat.le_refl _) (Nat.le_refl _) (Nat.le_of_ble_eq_true rfl) dX6_limit_6 ?_
  refine g_if_eq C 16 dX6_limit_9 (by decide) (by omega) (fun c9 => ?_) (fun c9 => ?_)
  · refine g_iconst C dX6_limit_16 ?_
    refine m_call C hS [_] _ (kX6_75 rfl) (c6_refN hS 1 (by omega) (by omega)) rfl rfl (by decide) (Nat.le_refl _) (Nat.le_refl _) (Nat.le_of_ble_eq_true rfl) dX6_limit_17 ?_
    refine g_if_eq C 25 dX6_limit_20 (by decide) (by omega) (fun c20 => ?_) (fun c20 => ?_)
    · omega
    · refine g_iconst C dX6_limit_23 ?_
      exact g_iret C dX6_limit_24 (Nat.le_refl _) (Nat.le_refl _) ⟨rfl, rfl⟩
  · omega

set_option maxRecDepth 100000 in
set_option maxHeartbeats 4000000 in
theorem c6_limit_2 (hS : gShM h) (h1 : gW1 S) (h2 : gW2 S) (h0 : gW0 S) {nm ns : Nat} (hs : gWS S nm ns) (x : Int) (hx : (-2147483648 ≤ x ∧ x < 2147483648)) (hp : 0 ≤ x ∧ x ≤ 1000) : gMm w l yX6_limit cX6_limit 3 (some .int) 1 [.ref 34, .int (iI x)] h S (some (.int (iI (S 0 7)))) (su (su S 0 0 0) 0 7 x) := by
  refine gMm_start (by decide +kernel) (by simp [Value.category]) (Nat.le_of_ble_eq_true rfl) (fun m Wp C => ?_)
  have e02 := hs.1
  have hnm := hs.2.1
  have e13 := hs.2.2.1
  have hns1 := hs.2.2.2.1
  have hns2 := hs.2.2.2.2.1
  obtain ⟨hw1, hw7, hw8⟩ := h0
  show gG w m 3 Wp (gwr h S) 0 0 [some (.ref 34), some (.int (iI x)), none] [] 0
  refine g_aload_n C 0 dX6_limit_0 rfl rfl ?_
  refine g_iload_n C 1 dX6_limit_1 rfl rfl ?_
  refine g_iconst C dX6_limit_2 ?_
  refine g_sipush C dX6_limit_3 (by decide) ?_
  refine m_callS C [_, _, _] _ (kX6_54 rfl) rfl (c6_in_t x 0 1000 hx (by omega) (by omega) hp) rfl rfl (by decide) (Nat.le_refl _) (Nat.le_refl _) (Nat.le_of_ble_eq_true rfl) dX6_limit_6 ?_
  refine g_if_eq C 16 dX6_limit_9 (by decide) (by omega) (fun c9 => ?_) (fun c9 => ?_)
  · omega
  · refine g_iconst C dX6_limit_12 ?_
    refine g_goto C 17 dX6_limit_13 (by decide) ?_
    refine m_call C hS [_] _ (kX6_75 rfl) (c6_ref0 hS) rfl rfl (by decide) (Nat.le_refl _) (Nat.le_refl _) (Nat.le_of_ble_eq_true rfl) dX6_limit_17 ?_
    refine g_if_eq C 25 dX6_limit_20 (by decide) (by omega) (fun c20 => ?_) (fun c20 => ?_)
    · refine g_aload_n C 0 dX6_limit_25 rfl rfl ?_
      refine m_fldv C hS (fX6_89 rfl) rfl (S 0 7) rfl dX6_limit_26 ?_
      refine s_istore_n (lo' := [_, _, _]) C 2 dX6_limit_29 rfl (by decide) rfl ?_
      refine g_aload_n C 0 dX6_limit_30 rfl rfl ?_
      refine g_iload_n C 1 dX6_limit_31 rfl rfl ?_
      refine m_put C hS (fX6_89 rfl) rfl dX6_limit_32 ?_
      refine g_iload_n C 2 dX6_limit_35 rfl rfl ?_
      exact g_iret C dX6_limit_36 (Nat.le_refl _) (Nat.le_refl _) ⟨rfl, rfl⟩
    · omega

set_option maxRecDepth 100000 in
set_option maxHeartbeats 4000000 in
theorem c6_take_1 (hS : gShM h) (h1 : gW1 S) (h2 : gW2 S) (h0 : gW0 S) {nm ns : Nat} (hs : gWS S nm ns) (key : Int) (hkey : (-2147483648 ≤ key ∧ key < 2147483648)) (hp : ¬ (0 ≤ key ∧ key ≤ 999)) : gMm w l yX6_take cX6_take 6 (some .int) 2 [.ref 34, .int (iI key)] h S (some (.int (iI (0)))) (su S 0 0 1) := by
  refine gMm_start (by decide +kernel) (by simp [Value.category]) (Nat.le_of_ble_eq_true rfl) (fun m Wp C => ?_)
  have e02 := hs.1
  have hnm := hs.2.1
  have e13 := hs.2.2.1
  have hns1 := hs.2.2.2.1
  have hns2 := hs.2.2.2.2.1
  obtain ⟨hw1, hw7, hw8⟩ := h0
  show gG w m 6 Wp (gwr h S) 0 0 [some (.ref 34), some (.int (iI key)), none, none, none, none] [] 0
  refine g_iload_n C 1 dX6_take_0 rfl rfl ?_
  refine m_callS C [_] _ (kX6_92 rfl) rfl (c6_isKey_f key hkey (by omega)) rfl rfl (by decide) (Nat.le_refl _) (Nat.le_refl _) (Nat.le_of_ble_eq_true rfl) dX6_take_1 ?_
  refine s_istore_n (lo' := [_, _, _, _, _, _]) C 2 dX6_take_4 rfl (by decide) rfl ?_
  refine g_iload_n C 2 dX6_take_5 rfl rfl ?_
  refine g_if_eq C 17 dX6_take_6 (by decide) (by omega) (fun c6 => ?_) (fun c6 => ?_)
  · refine g_iconst C dX6_take_17 ?_
    refine s_istore_n (lo' := [_, _, _, _, _, _]) C 3 dX6_take_18 rfl (by decide) rfl ?_
    refine g_iload_n C 2 dX6_take_19 rfl rfl ?_
    refine g_if_eq C 60 dX6_take_20 (by decide) (by omega) (fun c20 => ?_) (fun c20 => ?_)
    · refine g_iconst C dX6_take_60 ?_
      refine s_istore (lo' := [_, _, _, _, _, _]) C dX6_take_61 (by decide) rfl ?_
      refine g_aload_n C 0 dX6_take_63 rfl rfl ?_
      refine g_iload_n C 2 dX6_take_64 rfl rfl ?_
      refine g_if_ne C 72 dX6_take_65 (by decide) (by omega) (fun c65 => ?_) (fun c65 => ?_)
      · omega
      · refine g_iconst C dX6_take_68 ?_
        refine g_goto C 82 dX6_take_69 (by decide) ?_
        refine m_call C hS [_] _ (kX6_75 rfl) (c6_refN hS 1 (by omega) (by omega)) rfl rfl (by decide) (Nat.le_refl _) (Nat.le_refl _) (Nat.le_of_ble_eq_true rfl) dX6_take_82 ?_
        refine g_if_eq C 90 dX6_take_85 (by decide) (by omega) (fun c85 => ?_) (fun c85 => ?_)
        · omega
        · refine g_iconst C dX6_take_88 ?_
          exact g_iret C dX6_take_89 (Nat.le_refl _) (Nat.le_refl _) ⟨rfl, rfl⟩
    · omega
  · omega

set_option maxRecDepth 100000 in
set_option maxHeartbeats 4000000 in
theorem c6_take_2 (hS : gShM h) (h1 : gW1 S) (h2 : gW2 S) (h0 : gW0 S) {nm ns : Nat} (hs : gWS S nm ns) (key : Int) (hkey : (-2147483648 ≤ key ∧ key < 2147483648)) (j : Nat) (hj : j < ns) (hk0 : 0 ≤ key ∧ key ≤ 999) (hk1 : S 7 j ≤ key) (hk2 : key < S 7 (j + 1)) (hnm0 : nm = 0 → S 6 key.toNat = 0) (hp : ¬ (0 < S 6 key.toNat ∧ S 2 (S 8 j).toNat = 0 ∧ S 0 8 < 600)) : gMm w l yX6_take cX6_take 6 (some .int) 2 [.ref 34, .int (iI key)] h S (some (.int (iI (0)))) (su S 0 0 2) := by
  refine gMm_start (by decide +kernel) (by simp [Value.category]) (Nat.le_of_ble_eq_true rfl) (fun m Wp C => ?_)
  have e02 := hs.1
  have hnm := hs.2.1
  have e13 := hs.2.2.1
  have hns1 := hs.2.2.2.1
  have hns2 := hs.2.2.2.2.1
  obtain ⟨hw1, hw7, hw8⟩ := h0
  have hr := hs.2.2.2.2.2.2.2.2 j hj
  have hrr := h1 j
  have hby := h2 key.toNat
  have hdn := (h2 (S 8 j).toNat).2.1
  show gG w m 6 Wp (gwr h S) 0 0 [some (.ref 34), some (.int (iI key)), none, none, none, none] [] 0
  refine g_iload_n C 1 dX6_take_0 rfl rfl ?_
  refine m_callS C [_] _ (kX6_92 rfl) rfl (c6_isKey_t key hkey (by omega)) rfl rfl (by decide) (Nat.le_refl _) (Nat.le_refl _) (Nat.le_of_ble_eq_true rfl) dX6_take_1 ?_
  refine s_istore_n (lo' := [_, _, _, _, _, _]) C 2 dX6_take_4 rfl (by decide) rfl ?_
  refine g_iload_n C 2 dX6_take_5 rfl rfl ?_
  refine g_if_eq C 17 dX6_take_6 (by decide) (by omega) (fun c6 => ?_) (fun c6 => ?_)
  · omega
  · refine g_aload_n C 0 dX6_take_9 rfl rfl ?_
    refine g_iload_n C 1 dX6_take_10 rfl rfl ?_
    refine m_call C hS [_] _ (kX6_95 rfl) (c6_shardAt hS key (by omega) j (by omega) (fun i _ => (h1 i).1) (fun i _ hi => by have := gmono2 hs hi (by omega); omega) hk2) rfl rfl (by decide) (Nat.le_refl _) (Nat.le_refl _) (Nat.le_of_ble_eq_true rfl) dX6_take_11 ?_
    refine g_goto C 18 dX6_take_14 (by decide) ?_
    refine s_istore_n (lo' := [_, _, _, _, _, _]) C 3 dX6_take_18 rfl (by decide) rfl ?_
    refine g_iload_n C 2 dX6_take_19 rfl rfl ?_
    refine g_if_eq C 60 dX6_take_20 (by decide) (by omega) (fun c20 => ?_) (fun c20 => ?_)
    · omega
    · refine g_aload_n C 0 dX6_take_23 rfl rfl ?_
      refine m_arr C hS 6 (by omega) (by omega) (fX6_26 rfl) rfl dX6_take_24 ?_
      refine g_iload_n C 1 dX6_take_27 rfl rfl ?_
      refine m_iald C hS (by omega) rfl (by omega) key.toNat (by omega) (by omega) dX6_take_28 ?_
      refine g_if_le C 60 dX6_take_29 (by decide) (by omega) (fun c29 => ?_) (fun c29 => ?_)
      · refine g_iconst C dX6_take_60 ?_
        refine s_istore (lo' := [_, _, _, _, _, _]) C dX6_take_61 (by decide) rfl ?_
        refine g_aload_n C 0 dX6_take_63 rfl rfl ?_
        refine g_iload_n C 2 dX6_take_64 rfl rfl ?_
        refine g_if_ne C 72 dX6_take_65 (by decide) (by omega) (fun c65 => ?_) (fun c65 => ?_)
        · refine g_iload C dX6_take_72 rfl ?_
          refine g_if_eq C 81 dX6_take_74 (by decide) (by omega) (fun c74 => ?_) (fun c74 => ?_)
          · refine g_iconst C dX6_take_81 ?_
            refine m_call C hS [_] _ (kX6_75 rfl) (c6_refN hS 2 (by omega) (by omega)) rfl rfl (by decide) (Nat.le_refl _) (Nat.le_refl _) (Nat.le_of_ble_eq_true rfl) dX6_take_82 ?_
            refine g_if_eq C 90 dX6_take_85 (by decide) (by omega) (fun c85 => ?_) (fun c85 => ?_)
            · omega
            · refine g_iconst C dX6_take_88 ?_
              exact g_iret C dX6_take_89 (Nat.le_refl _) (Nat.le_refl _) ⟨rfl, rfl⟩
          · omega
        · omega
      · refine g_aload_n C 0 dX6_take_32 rfl rfl ?_
        refine m_arr C hS 2 (by omega) (by omega) (fX6_13 rfl) rfl dX6_take_33 ?_
        refine g_aload_n C 0 dX6_take_36 rfl rfl ?_
        refine m_arr C hS 8 (by omega) (by omega) (fX6_36 rfl) rfl dX6_take_37 ?_
        refine g_iload_n C 3 dX6_take_40 rfl rfl ?_
        refine m_iald C hS (by omega) rfl (by omega) j (by omega) (by omega) dX6_take_41 ?_
        refine m_bald C hS (S 8 j).toNat (by omega) (by omega) dX6_take_42 ?_
        refine g_if_ne C 60 dX6_take_43 (by decide) (by omega) (fun c43 => ?_) (fun c43 => ?_)
        · refine g_iconst C dX6_take_60 ?_
          refine s_istore (lo' := [_, _, _, _, _, _]) C dX6_take_61 (by decide) rfl ?_
          refine g_aload_n C 0 dX6_take_63 rfl rfl ?_
          refine g_iload_n C 2 dX6_take_64 rfl rfl ?_
          refine g_if_ne C 72 dX6_take_65 (by decide) (by omega) (fun c65 => ?_) (fun c65 => ?_)
          · refine g_iload C dX6_take_72 rfl ?_
            refine g_if_eq C 81 dX6_take_74 (by decide) (by omega) (fun c74 => ?_) (fun c74 => ?_)
            · refine g_iconst C dX6_take_81 ?_
              refine m_call C hS [_] _ (kX6_75 rfl) (c6_refN hS 2 (by omega) (by omega)) rfl rfl (by decide) (Nat.le_refl _) (Nat.le_refl _) (Nat.le_of_ble_eq_true rfl) dX6_take_82 ?_
              refine g_if_eq C 90 dX6_take_85 (by decide) (by omega) (fun c85 => ?_) (fun c85 => ?_)
              · omega
              · refine g_iconst C dX6_take_88 ?_
                exact g_iret C dX6_take_89 (Nat.le_refl _) (Nat.le_refl _) ⟨rfl, rfl⟩
            · omega
          · omega
        · refine g_aload_n C 0 dX6_take_46 rfl rfl ?_
          refine m_fld C hS (fX6_104 rfl) rfl dX6_take_47 ?_
          refine g_sipush C dX6_take_50 (by decide) ?_
          refine g_icmp_ge C 60 dX6_take_53 (by decide) (by omega) (by omega) (fun c53 => ?_) (fun c53 => ?_)
          · refine g_iconst C dX6_take_60 ?_
            refine s_istore (lo' := [_, _, _, _, _, _]) C dX6_take_61 (by decide) rfl ?_
            refine g_aload_n C 0 dX6_take_63 rfl rfl ?_
            refine g_iload_n C 2 dX6_take_64 rfl rfl ?_
            refine g_if_ne C 72 dX6_take_65 (by decide) (by omega) (fun c65 => ?_) (fun c65 => ?_)
            · refine g_iload C dX6_take_72 rfl ?_
              refine g_if_eq C 81 dX6_take_74 (by decide) (by omega) (fun c74 => ?_) (fun c74 => ?_)
              · refine g_iconst C dX6_take_81 ?_
                refine m_call C hS [_] _ (kX6_75 rfl) (c6_refN hS 2 (by omega) (by omega)) rfl rfl (by decide) (Nat.le_refl _) (Nat.le_refl _) (Nat.le_of_ble_eq_true rfl) dX6_take_82 ?_
                refine g_if_eq C 90 dX6_take_85 (by decide) (by omega) (fun c85 => ?_) (fun c85 => ?_)
                · omega
                · refine g_iconst C dX6_take_88 ?_
                  exact g_iret C dX6_take_89 (Nat.le_refl _) (Nat.le_refl _) ⟨rfl, rfl⟩
              · omega
            · omega
          · omega

set_option maxRecDepth 100000 in
set_option maxHeartbeats 4000000 in
theorem c6_take_3 (hS : gShM h) (h1 : gW1 S) (h2 : gW2 S) (h0 : gW0 S) {nm ns : Nat} (hs : gWS S nm ns) (key : Int) (hkey : (-2147483648 ≤ key ∧ key < 2147483648)) (j : Nat) (hj : j < ns) (hk0 : 0 ≤ key ∧ key ≤ 999) (hk1 : S 7 j ≤ key) (hk2 : key < S 7 (j + 1)) (hnm0 : nm = 0 → S 6 key.toNat = 0) (hp : 0 < S 6 key.toNat) (hp2 : S 2 (S 8 j).toNat = 0) (hp3 : S 0 8 < 600) : gMm w l yX6_take cX6_take 6 (some .int) 2 [.ref 34, .int (iI key)] h S (some (.int (iI (S 6 key.toNat)))) (su (su (su (su S 0 0 0) 6 key.toNat 0) 0 8 (S 0 8 + 1)) 12 j (S 12 j + 1)) := by
  refine gMm_start (by decide +kernel) (by simp [Value.category]) (Nat.le_of_ble_eq_true rfl) (fun m Wp C => ?_)
  have e02 := hs.1
  have hnm := hs.2.1
  have e13 := hs.2.2.1
  have hns1 := hs.2.2.2.1
  have hns2 := hs.2.2.2.2.1
  obtain ⟨hw1, hw7, hw8⟩ := h0
  have hr := hs.2.2.2.2.2.2.2.2 j hj
  have hrr := h1 j
  have hby := h2 key.toNat
  have hdn := (h2 (S 8 j).toNat).2.1
  show gG w m 6 Wp (gwr h S) 0 0 [some (.ref 34), some (.int (iI key)), none, none, none, none] [] 0
  refine g_iload_n C 1 dX6_take_0 rfl rfl ?_
  refine m_callS C [_] _ (kX6_92 rfl) rfl (c6_isKey_t key hkey (by omega)) rfl rfl (by decide) (Nat.le_refl _) (Nat.le_refl _) (Nat.le_of_ble_eq_true rfl) dX6_take_1 ?_
  refine s_istore_n (lo' := [_, _, _, _, _, _]) C 2 dX6_take_4 rfl (by decide) rfl ?_
  refine g_iload_n C 2 dX6_take_5 rfl rfl ?_
  refine g_if_eq C 17 dX6_take_6 (by decide) (by omega) (fun c6 => ?_) (fun c6 => ?_)
  · omega
  · refine g_aload_n C 0 dX6_take_9 rfl rfl ?_
    refine g_iload_n C 1 dX6_take_10 rfl rfl ?_
    refine m_call C hS [_] _ (kX6_95 rfl) (c6_shardAt hS key (by omega) j (by omega) (fun i _ => (h1 i).1) (fun i _ hi => by have := gmono2 hs hi (by omega); omega) hk2) rfl rfl (by decide) (Nat.le_refl _) (Nat.le_refl _) (Nat.le_of_ble_eq_true rfl) dX6_take_11 ?_
    refine g_goto C 18 dX6_take_14 (by decide) ?_
    refine s_istore_n (lo' := [_, _, _, _, _, _]) C 3 dX6_take_18 rfl (by decide) rfl ?_
    refine g_iload_n C 2 dX6_take_19 rfl rfl ?_
    refine g_if_eq C 60 dX6_take_20 (by decide) (by omega) (fun c20 => ?_) (fun c20 => ?_)
    · omega
    · refine g_aload_n C 0 dX6_take_23 rfl rfl ?_
      refine m_arr C hS 6 (by omega) (by omega) (fX6_26 rfl) rfl dX6_take_24 ?_
      refine g_iload_n C 1 dX6_take_27 rfl rfl ?_
      refine m_iald C hS (by omega) rfl (by omega) key.toNat (by omega) (by omega) dX6_take_28 ?_
      refine g_if_le C 60 dX6_take_29 (by decide) (by omega) (fun c29 => ?_) (fun c29 => ?_)
      · omega
      · refine g_aload_n C 0 dX6_take_32 rfl rfl ?_
        refine m_arr C hS 2 (by omega) (by omega) (fX6_13 rfl) rfl dX6_take_33 ?_
        refine g_aload_n C 0 dX6_take_36 rfl rfl ?_
        refine m_arr C hS 8 (by omega) (by omega) (fX6_36 rfl) rfl dX6_take_37 ?_
        refine g_iload_n C 3 dX6_take_40 rfl rfl ?_
        refine m_iald C hS (by omega) rfl (by omega) j (by omega) (by omega) dX6_take_41 ?_
        refine m_bald C hS (S 8 j).toNat (by omega) (by omega) dX6_take_42 ?_
        refine g_if_ne C 60 dX6_take_43 (by decide) (by omega) (fun c43 => ?_) (fun c43 => ?_)
        · omega
        · refine g_aload_n C 0 dX6_take_46 rfl rfl ?_
          refine m_fld C hS (fX6_104 rfl) rfl dX6_take_47 ?_
          refine g_sipush C dX6_take_50 (by decide) ?_
          refine g_icmp_ge C 60 dX6_take_53 (by decide) (by omega) (by omega) (fun c53 => ?_) (fun c53 => ?_)
          · omega
          · refine g_iconst C dX6_take_56 ?_
            refine g_goto C 61 dX6_take_57 (by decide) ?_
            refine s_istore (lo' := [_, _, _, _, _, _]) C dX6_take_61 (by decide) rfl ?_
            refine g_aload_n C 0 dX6_take_63 rfl rfl ?_
            refine g_iload_n C 2 dX6_take_64 rfl rfl ?_
            refine g_if_ne C 72 dX6_take_65 (by decide) (by omega) (fun c65 => ?_) (fun c65 => ?_)
            · refine g_iload C dX6_take_72 rfl ?_
              refine g_if_eq C 81 dX6_take_74 (by decide) (by omega) (fun c74 => ?_) (fun c74 => ?_)
              · omega
              · refine g_iconst C dX6_take_77 ?_
                refine g_goto C 82 dX6_take_78 (by decide) ?_
                refine m_call C hS [_] _ (kX6_75 rfl) (c6_ref0 hS) rfl rfl (by decide) (Nat.le_refl _) (Nat.le_refl _) (Nat.le_of_ble_eq_true rfl) dX6_take_82 ?_
                refine g_if_eq C 90 dX6_take_85 (by decide) (by omega) (fun c85 => ?_) (fun c85 => ?_)
                · refine g_aload_n C 0 dX6_take_90 rfl rfl ?_
                  refine m_arr C hS 6 (by omega) (by omega) (fX6_26 rfl) rfl dX6_take_91 ?_
                  refine g_iload_n C 1 dX6_take_94 rfl rfl ?_
                  refine m_ialdv C hS (by omega) rfl (by omega) key.toNat (by omega) (by omega) (S 6 key.toNat) rfl dX6_take_95 ?_
                  refine s_istore (lo' := [_, _, _, _, _, _]) C dX6_take_96 (by decide) rfl ?_
                  refine g_aload_n C 0 dX6_take_98 rfl rfl ?_
                  refine m_arr C hS 6 (by omega) (by omega) (fX6_26 rfl) rfl dX6_take_99 ?_
                  refine g_iload_n C 1 dX6_take_102 rfl rfl ?_
                  refine g_iconst C dX6_take_103 ?_
                  refine m_iast C hS (by omega) rfl (by omega) key.toNat (by omega) (by omega) dX6_take_104 ?_
                  refine g_aload_n C 0 dX6_take_105 rfl rfl ?_
                  refine g_dup C dX6_take_106 rfl ?_
                  refine m_fldv C hS (fX6_104 rfl) rfl (S 0 8) rfl dX6_take_107 ?_
                  refine g_iconst C dX6_take_110 ?_
                  refine g_iadd C dX6_take_111 ?_
                  refine m_put C hS (fX6_104 rfl) rfl dX6_take_112 ?_
                  refine g_aload_n C 0 dX6_take_115 rfl rfl ?_
                  refine m_arr C hS 12 (by omega) (by omega) (fX6_48 rfl) rfl dX6_take_116 ?_
                  refine g_iload_n C 3 dX6_take_119 rfl rfl ?_
                  refine g_dup2 C dX6_take_120 rfl rfl ?_
                  refine m_ialdv C hS (by omega) rfl (by omega) j (by omega) (by omega) (S 12 j) rfl dX6_take_121 ?_
                  refine g_iconst C dX6_take_122 ?_
                  refine g_iadd C dX6_take_123 ?_
                  refine m_iast C hS (by omega) rfl (by omega) j (by omega) (by omega) dX6_take_124 ?_
                  refine g_iload C dX6_take_125 rfl ?_
                  exact g_iret C dX6_take_127 (Nat.le_refl _) (Nat.le_refl _) ⟨rfl, rfl⟩
                · omega
            · omega

set_option maxRecDepth 100000 in
set_option maxHeartbeats 4000000 in
theorem c6_read_1 (hS : gShM h) (h1 : gW1 S) (h2 : gW2 S) (h0 : gW0 S) {nm ns : Nat} (hs : gWS S nm ns) (key : Int) (hkey : (-2147483648 ≤ key ∧ key < 2147483648)) (hp : ¬ (0 ≤ key ∧ key ≤ 999)) : gMm w l yX6_read cX6_read 4 (some .int) 2 [.ref 34, .int (iI key)] h S (some (.int (iI (0)))) (su S 0 0 1) := by
  refine gMm_start (by decide +kernel) (by simp [Value.category]) (Nat.le_of_ble_eq_true rfl) (fun m Wp C => ?_)
  have e02 := hs.1
  have hnm := hs.2.1
  have e13 := hs.2.2.1
  have hns1 := hs.2.2.2.1
  have hns2 := hs.2.2.2.2.1
  obtain ⟨hw1, hw7, hw8⟩ := h0
  show gG w m 4 Wp (gwr h S) 0 0 [some (.ref 34), some (.int (iI key)), none, none] [] 0
  refine g_iload_n C 1 dX6_read_0 rfl rfl ?_
  refine m_callS C [_] _ (kX6_92 rfl) rfl (c6_isKey_f key hkey (by omega)) rfl rfl (by decide) (Nat.le_refl _) (Nat.le_refl _) (Nat.le_of_ble_eq_true rfl) dX6_read_1 ?_
  refine s_istore_n (lo' := [_, _, _, _]) C 2 dX6_read_4 rfl (by decide) rfl ?_
  refine g_iload_n C 2 dX6_read_5 rfl rfl ?_
  refine g_if_eq C 17 dX6_read_6 (by decide) (by omega) (fun c6 => ?_) (fun c6 => ?_)
  · refine g_iconst C dX6_read_17 ?_
    refine s_istore_n (lo' := [_, _, _, _]) C 3 dX6_read_18 rfl (by decide) rfl ?_
    refine g_aload_n C 0 dX6_read_19 rfl rfl ?_
    refine g_iload_n C 2 dX6_read_20 rfl rfl ?_
    refine g_if_ne C 28 dX6_read_21 (by decide) (by omega) (fun c21 => ?_) (fun c21 => ?_)
    · omega
    · refine g_iconst C dX6_read_24 ?_
      refine g_goto C 54 dX6_read_25 (by decide) ?_
      refine m_call C hS [_] _ (kX6_75 rfl) (c6_refN hS 1 (by omega) (by omega)) rfl rfl (by decide) (Nat.le_refl _) (Nat.le_refl _) (Nat.le_of_ble_eq_true rfl) dX6_read_54 ?_
      refine g_if_eq C 62 dX6_read_57 (by decide) (by omega) (fun c57 => ?_) (fun c57 => ?_)
      · omega
      · refine g_iconst C dX6_read_60 ?_
        exact g_iret C dX6_read_61 (Nat.le_refl _) (Nat.le_refl _) ⟨rfl, rfl⟩
  · omega

set_option maxRecDepth 100000 in
set_option maxHeartbeats 4000000 in
theorem c6_read_2 (hS : gShM h) (h1 : gW1 S) (h2 : gW2 S) (h0 : gW0 S) {nm ns : Nat} (hs : gWS S nm ns) (key : Int) (hkey : (-2147483648 ≤ key ∧ key < 2147483648)) (j : Nat) (hj : j < ns) (hk0 : 0 ≤ key ∧ key ≤ 999) (hk1 : S 7 j ≤ key) (hk2 : key < S 7 (j + 1)) (hp : nm = 0 ∨ S 2 (S 8 j).toNat = 1) : gMm w l yX6_read cX6_read 4 (some .int) 2 [.ref 34, .int (iI key)] h S (some (.int (iI (0)))) (su S 0 0 2) := by
  refine gMm_start (by decide +kernel) (by simp [Value.category]) (Nat.le_of_ble_eq_true rfl) (fun m Wp C => ?_)
  have e02 := hs.1
  have hnm := hs.2.1
  have e13 := hs.2.2.1
  have hns1 := hs.2.2.2.1
  have hns2 := hs.2.2.2.2.1
  obtain ⟨hw1, hw7, hw8⟩ := h0
  have hr := hs.2.2.2.2.2.2.2.2 j hj
  have hrr := h1 j
  have hby := h2 key.toNat
  have hdn := (h2 (S 8 j).toNat).2.1
  show gG w m 4 Wp (gwr h S) 0 0 [some (.ref 34), some (.int (iI key)), none, none] [] 0
  refine g_iload_n C 1 dX6_read_0 rfl rfl ?_
  refine m_callS C [_] _ (kX6_92 rfl) rfl (c6_isKey_t key hkey (by omega)) rfl rfl (by decide) (Nat.le_refl _) (Nat.le_refl _) (Nat.le_of_ble_eq_true rfl) dX6_read_1 ?_
  refine s_istore_n (lo' := [_, _, _, _]) C 2 dX6_read_4 rfl (by decide) rfl ?_
  refine g_iload_n C 2 dX6_read_5 rfl rfl ?_
  refine g_if_eq C 17 dX6_read_6 (by decide) (by omega) (fun c6 => ?_) (fun c6 => ?_)
  · omega
  · refine g_aload_n C 0 dX6_read_9 rfl rfl ?_
    refine g_iload_n C 1 dX6_read_10 rfl rfl ?_
    refine m_call C hS [_] _ (kX6_95 rfl) (c6_shardAt hS key (by omega) j (by omega) (fun i _ => (h1 i).1) (fun i _ hi => by have := gmono2 hs hi (by omega); omega) hk2) rfl rfl (by decide) (Nat.le_refl _) (Nat.le_refl _) (Nat.le_of_ble_eq_true rfl) dX6_read_11 ?_
    refine g_goto C 18 dX6_read_14 (by decide) ?_
    refine s_istore_n (lo' := [_, _, _, _]) C 3 dX6_read_18 rfl (by decide) rfl ?_
    refine g_aload_n C 0 dX6_read_19 rfl rfl ?_
    refine g_iload_n C 2 dX6_read_20 rfl rfl ?_
    refine g_if_ne C 28 dX6_read_21 (by decide) (by omega) (fun c21 => ?_) (fun c21 => ?_)
    · refine g_aload_n C 0 dX6_read_28 rfl rfl ?_
      refine m_fld C hS (fX6_58 rfl) rfl dX6_read_29 ?_
      refine g_if_eq C 49 dX6_read_32 (by decide) (by omega) (fun c32 => ?_) (fun c32 => ?_)
      · refine g_iconst C dX6_read_49 ?_
        refine g_goto C 54 dX6_read_50 (by decide) ?_
        refine m_call C hS [_] _ (kX6_75 rfl) (c6_refN hS 2 (by omega) (by omega)) rfl rfl (by decide) (Nat.le_refl _) (Nat.le_refl _) (Nat.le_of_ble_eq_true rfl) dX6_read_54 ?_
        refine g_if_eq C 62 dX6_read_57 (by decide) (by omega) (fun c57 => ?_) (fun c57 => ?_)
        · omega
        · refine g_iconst C dX6_read_60 ?_
          exact g_iret C dX6_read_61 (Nat.le_refl _) (Nat.le_refl _) ⟨rfl, rfl⟩
      · refine g_aload_n C 0 dX6_read_35 rfl rfl ?_
        refine m_arr C hS 2 (by omega) (by omega) (fX6_13 rfl) rfl dX6_read_36 ?_
        refine g_aload_n C 0 dX6_read_39 rfl rfl ?_
        refine m_arr C hS 8 (by omega) (by omega) (fX6_36 rfl) rfl dX6_read_40 ?_
        refine g_iload_n C 3 dX6_read_43 rfl rfl ?_
        refine m_iald C hS (by omega) rfl (by omega) j (by omega) (by omega) dX6_read_44 ?_
        refine m_bald C hS (S 8 j).toNat (by omega) (by omega) dX6_read_45 ?_
        refine g_if_eq C 53 dX6_read_46 (by decide) (by omega) (fun c46 => ?_) (fun c46 => ?_)
        · omega
        · refine g_iconst C dX6_read_49 ?_
          refine g_goto C 54 dX6_read_50 (by decide) ?_
          refine m_call C hS [_] _ (kX6_75 rfl) (c6_refN hS 2 (by omega) (by omega)) rfl rfl (by decide) (Nat.le_refl _) (Nat.le_refl _) (Nat.le_of_ble_eq_true rfl) dX6_read_54 ?_
          refine g_if_eq C 62 dX6_read_57 (by decide) (by omega) (fun c57 => ?_) (fun c57 => ?_)
          · omega
          · refine g_iconst C dX6_read_60 ?_
            exact g_iret C dX6_read_61 (Nat.le_refl _) (Nat.le_refl _) ⟨rfl, rfl⟩
    · omega

set_option maxRecDepth 100000 in
set_option maxHeartbeats 4000000 in
theorem c6_read_3 (hS : gShM h) (h1 : gW1 S) (h2 : gW2 S) (h0 : gW0 S) {nm ns : Nat} (hs : gWS S nm ns) (key : Int) (hkey : (-2147483648 ≤ key ∧ key < 2147483648)) (j : Nat) (hj : j < ns) (hk0 : 0 ≤ key ∧ key ≤ 999) (hk1 : S 7 j ≤ key) (hk2 : key < S 7 (j + 1)) (hp : 0 < nm) (hp2 : S 2 (S 8 j).toNat = 0) : gMm w l yX6_read cX6_read 4 (some .int) 2 [.ref 34, .int (iI key)] h S (some (.int (iI (S 6 key.toNat)))) (su (su S 0 0 0) 12 j (S 12 j + 1)) := by
  refine gMm_start (by decide +kernel) (by simp [Value.category]) (Nat.le_of_ble_eq_true rfl) (fun m Wp C => ?_)
  have e02 := hs.1
  have hnm := hs.2.1
  have e13 := hs.2.2.1
  have hns1 := hs.2.2.2.1
  have hns2 := hs.2.2.2.2.1
  obtain ⟨hw1, hw7, hw8⟩ := h0
  have hr := hs.2.2.2.2.2.2.2.2 j hj
  have hrr := h1 j
  have hby := h2 key.toNat
  have hdn := (h2 (S 8 j).toNat).2.1
  show gG w m 4 Wp (gwr h S) 0 0 [some (.ref 34), some (.int (iI key)), none, none] [] 0
  refine g_iload_n C 1 dX6_read_0 rfl rfl ?_
  refine m_callS C [_] _ (kX6_92 rfl) rfl (c6_isKey_t key hkey (by omega)) rfl rfl (by decide) (Nat.le_refl _) (Nat.le_refl _) (Nat.le_of_ble_eq_true rfl) dX6_read_1 ?_
  refine s_istore_n (lo' := [_, _, _, _]) C 2 dX6_read_4 rfl (by decide) rfl ?_
  refine g_iload_n C 2 dX6_read_5 rfl rfl ?_
  refine g_if_eq C 17 dX6_read_6 (by decide) (by omega) (fun c6 => ?_) (fun c6 => ?_)
  · omega
  · refine g_aload_n C 0 dX6_read_9 rfl rfl ?_
    refine g_iload_n C 1 dX6_read_10 rfl rfl ?_
    refine m_call C hS [_] _ (kX6_95 rfl) (c6_shardAt hS key (by omega) j (by omega) (fun i _ => (h1 i).1) (fun i _ hi => by have := gmono2 hs hi (by omega); omega) hk2) rfl rfl (by decide) (Nat.le_refl _) (Nat.le_refl _) (Nat.le_of_ble_eq_true rfl) dX6_read_11 ?_
    refine g_goto C 18 dX6_read_14 (by decide) ?_
    refine s_istore_n (lo' := [_, _, _, _]) C 3 dX6_read_18 rfl (by decide) rfl ?_
    refine g_aload_n C 0 dX6_read_19 rfl rfl ?_
    refine g_iload_n C 2 dX6_read_20 rfl rfl ?_
    refine g_if_ne C 28 dX6_read_21 (by decide) (by omega) (fun c21 => ?_) (fun c21 => ?_)
    · refine g_aload_n C 0 dX6_read_28 rfl rfl ?_
      refine m_fld C hS (fX6_58 rfl) rfl dX6_read_29 ?_
      refine g_if_eq C 49 dX6_read_32 (by decide) (by omega) (fun c32 => ?_) (fun c32 => ?_)
      · omega
      · refine g_aload_n C 0 dX6_read_35 rfl rfl ?_
        refine m_arr C hS 2 (by omega) (by omega) (fX6_13 rfl) rfl dX6_read_36 ?_
        refine g_aload_n C 0 dX6_read_39 rfl rfl ?_
        refine m_arr C hS 8 (by omega) (by omega) (fX6_36 rfl) rfl dX6_read_40 ?_
        refine g_iload_n C 3 dX6_read_43 rfl rfl ?_
        refine m_iald C hS (by omega) rfl (by omega) j (by omega) (by omega) dX6_read_44 ?_
        refine m_bald C hS (S 8 j).toNat (by omega) (by omega) dX6_read_45 ?_
        refine g_if_eq C 53 dX6_read_46 (by decide) (by omega) (fun c46 => ?_) (fun c46 => ?_)
        · refine g_iconst C dX6_read_53 ?_
          refine m_call C hS [_] _ (kX6_75 rfl) (c6_ref0 hS) rfl rfl (by decide) (Nat.le_refl _) (Nat.le_refl _) (Nat.le_of_ble_eq_true rfl) dX6_read_54 ?_
          refine g_if_eq C 62 dX6_read_57 (by decide) (by omega) (fun c57 => ?_) (fun c57 => ?_)
          · refine g_aload_n C 0 dX6_read_62 rfl rfl ?_
            refine m_arr C hS 12 (by omega) (by omega) (fX6_48 rfl) rfl dX6_read_63 ?_
            refine g_iload_n C 3 dX6_read_66 rfl rfl ?_
            refine g_dup2 C dX6_read_67 rfl rfl ?_
            refine m_ialdv C hS (by omega) rfl (by omega) j (by omega) (by omega) (S 12 j) rfl dX6_read_68 ?_
            refine g_iconst C dX6_read_69 ?_
            refine g_iadd C dX6_read_70 ?_
            refine m_iast C hS (by omega) rfl (by omega) j (by omega) (by omega) dX6_read_71 ?_
            refine g_aload_n C 0 dX6_read_72 rfl rfl ?_
            refine m_arr C hS 6 (by omega) (by omega) (fX6_26 rfl) rfl dX6_read_73 ?_
            refine g_iload_n C 1 dX6_read_76 rfl rfl ?_
            refine m_ialdv C hS (by omega) rfl (by omega) key.toNat (by omega) (by omega) (S 6 key.toNat) rfl dX6_read_77 ?_
            exact g_iret C dX6_read_78 (Nat.le_refl _) (Nat.le_refl _) ⟨rfl, rfl⟩
          · omega
        · omega
    · omega

end MC
