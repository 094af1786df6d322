/-! THE REFERENCE: its public methods, second half (rows laid by wip/whole/gen/m4.py) -/
section MD
variable {w : gW} {l : Launch} {h : gH} {S : gS}

def gNo (p : Prop) : Prop := ¬ p
theorem gd01 {x : Int} (h : x = 0 ∨ x = 1) : -2147483648 ≤ x ∧ x < 2147483648 := by omega

set_option maxRecDepth 100000 in
set_option maxHeartbeats 4000000 in
theorem c6_write_1 (hS : gShM h) (h1 : gW1 S) (h2 : gW2 S) (h0 : gW0 S) {nm ns : Nat} (hs : gWS S nm ns) (key : Int) (hkey : (-2147483648 ≤ key ∧ key < 2147483648)) (t : Int) (ht : (-2147483648 ≤ t ∧ t < 2147483648)) (b : Int) (hb : (-2147483648 ≤ b ∧ b < 2147483648)) (hp : ¬ (0 ≤ key ∧ key ≤ 999)) (hq : 1 ≤ b ∧ b ≤ 100) : gMm w l yX6_write cX6_write 8 (some .int) 3 [.ref 34, .int (iI key), .int (iI t), .int (iI b)] h S (some (.int (iI (0)))) (su S 0 0 1) := by
  refine gMm_start (by decide +kernel) (by simp [Value.category]) (Nat.le_of_ble_eq_true rfl) (fun m Wp C => ?_)
  have e02 := hs.1
  have hnm := hs.2.1
  have e13 := hs.2.2.1
  have hns1 := hs.2.2.2.1
  have hns2 := hs.2.2.2.2.1
  obtain ⟨hw1, hw7, hw8⟩ := h0
  show gG w m 8 Wp (gwr h S) 0 0 [some (.ref 34), some (.int (iI key)), some (.int (iI t)), some (.int (iI b)), none, none, none, none] [] 0
  refine g_iload_n C 1 dX6_write_0 rfl rfl ?_
  refine m_callS C [_] _ (kX6_92 rfl) rfl (c6_isKey_f key hkey (by omega)) rfl rfl (by decide) (Nat.le_refl _) (Nat.le_refl _) (Nat.le_of_ble_eq_true rfl) dX6_write_1 ?_
  refine g_if_eq C 18 dX6_write_4 (by decide) (by omega) (fun c4 => ?_) (fun c4 => ?_)
  · refine g_iconst C dX6_write_18 ?_
    refine s_istore (lo' := [_, _, _, _, _, _, _, _]) C dX6_write_19 (by decide) rfl ?_
    refine g_iload_n C 3 dX6_write_21 rfl rfl ?_
    refine g_iconst C dX6_write_22 ?_
    refine g_bipush C dX6_write_23 (by decide) ?_
    refine m_callS C [_, _, _] _ (kX6_54 rfl) rfl (c6_in_t b 1 100 hb (by omega) (by omega) (by omega)) rfl rfl (by decide) (Nat.le_refl _) (Nat.le_refl _) (Nat.le_of_ble_eq_true rfl) dX6_write_25 ?_
    refine s_istore (lo' := [_, _, _, _, _, _, _, _]) C dX6_write_28 (by decide) rfl ?_
    refine g_iload C dX6_write_30 rfl ?_
    refine g_if_eq C 43 dX6_write_32 (by decide) (by omega) (fun c32 => ?_) (fun c32 => ?_)
    · refine g_iconst C dX6_write_43 ?_
      refine s_istore (lo' := [_, _, _, _, _, _, _, _]) C dX6_write_44 (by decide) rfl ?_
      refine g_iload C dX6_write_46 rfl ?_
      refine g_if_eq C 82 dX6_write_48 (by decide) (by omega) (fun c48 => ?_) (fun c48 => ?_)
      · refine g_iconst C dX6_write_82 ?_
        refine s_istore (lo' := [_, _, _, _, _, _, _, _]) C dX6_write_83 (by decide) rfl ?_
        refine g_iload C dX6_write_85 rfl ?_
        refine g_if_eq C 129 dX6_write_87 (by decide) (by omega) (fun c87 => ?_) (fun c87 => ?_)
        · refine g_iconst C dX6_write_129 ?_
          refine s_istore (lo' := [_, _, _, _, _, _, _, _]) C dX6_write_130 (by decide) rfl ?_
          refine g_iload C dX6_write_132 rfl ?_
          refine g_if_eq C 188 dX6_write_134 (by decide) (by omega) (fun c134 => ?_) (fun c134 => ?_)
          · refine g_iconst C dX6_write_188 ?_
            refine s_istore (lo' := [_, _, _, _, _, _, _, _]) C dX6_write_189 (by decide) rfl ?_
            refine g_aload_n C 0 dX6_write_191 rfl rfl ?_
            refine g_iload C dX6_write_192 rfl ?_
            refine g_if_ne C 201 dX6_write_194 (by decide) (by omega) (fun c194 => ?_) (fun c194 => ?_)
            · omega
            · refine g_iconst C dX6_write_197 ?_
              refine g_goto C 220 dX6_write_198 (by decide) ?_
              refine m_call C hS [_] _ (kX6_75 rfl) (c6_refN hS 1 (by omega) (by omega)) rfl rfl (by decide) (Nat.le_refl _) (Nat.le_refl _) (Nat.le_of_ble_eq_true rfl) dX6_write_220 ?_
              refine g_if_eq C 228 dX6_write_223 (by decide) (by omega) (fun c223 => ?_) (fun c223 => ?_)
              · omega
              · refine g_iconst C dX6_write_226 ?_
                exact g_iret C dX6_write_227 (Nat.le_refl _) (Nat.le_refl _) ⟨rfl, rfl⟩
          · omega
        · omega
      · omega
    · omega
  · omega

set_option maxRecDepth 100000 in
set_option maxHeartbeats 4000000 in
theorem c6_write_1b (hS : gShM h) (h1 : gW1 S) (h2 : gW2 S) (h0 : gW0 S) {nm ns : Nat} (hs : gWS S nm ns) (key : Int) (hkey : (-2147483648 ≤ key ∧ key < 2147483648)) (t : Int) (ht : (-2147483648 ≤ t ∧ t < 2147483648)) (b : Int) (hb : (-2147483648 ≤ b ∧ b < 2147483648)) (hp : ¬ (0 ≤ key ∧ key ≤ 999)) (hq : ¬ (1 ≤ b ∧ b ≤ 100)) : gMm w l yX6_write cX6_write 8 (some .int) 3 [.ref 34, .int (iI key), .int (iI t), .int (iI b)] h S (some (.int (iI (0)))) (su S 0 0 1) := by
  refine gMm_start (by decide +kernel) (by simp [Value.category]) (Nat.le_of_ble_eq_true rfl) (fun m Wp C => ?_)
  have e02 := hs.1
  have hnm := hs.2.1
  have e13 := hs.2.2.1
  have hns1 := hs.2.2.2.1
  have hns2 := hs.2.2.2.2.1
  obtain ⟨hw1, hw7, hw8⟩ := h0
  show gG w m 8 Wp (gwr h S) 0 0 [some (.ref 34), some (.int (iI key)), some (.int (iI t)), some (.int (iI b)), none, none, none, none] [] 0
  refine g_iload_n C 1 dX6_write_0 rfl rfl ?_
  refine m_callS C [_] _ (kX6_92 rfl) rfl (c6_isKey_f key hkey (by omega)) rfl rfl (by decide) (Nat.le_refl _) (Nat.le_refl _) (Nat.le_of_ble_eq_true rfl) dX6_write_1 ?_
  refine g_if_eq C 18 dX6_write_4 (by decide) (by omega) (fun c4 => ?_) (fun c4 => ?_)
  · refine g_iconst C dX6_write_18 ?_
    refine s_istore (lo' := [_, _, _, _, _, _, _, _]) C dX6_write_19 (by decide) rfl ?_
    refine g_iload_n C 3 dX6_write_21 rfl rfl ?_
    refine g_iconst C dX6_write_22 ?_
    refine g_bipush C dX6_write_23 (by decide) ?_
    refine m_callS C [_, _, _] _ (kX6_54 rfl) rfl (c6_in_f b 1 100 hb (by omega) (by omega) (by omega)) rfl rfl (by decide) (Nat.le_refl _) (Nat.le_refl _) (Nat.le_of_ble_eq_true rfl) dX6_write_25 ?_
    refine s_istore (lo' := [_, _, _, _, _, _, _, _]) C dX6_write_28 (by decide) rfl ?_
    refine g_iload C dX6_write_30 rfl ?_
    refine g_if_eq C 43 dX6_write_32 (by decide) (by omega) (fun c32 => ?_) (fun c32 => ?_)
    · refine g_iconst C dX6_write_43 ?_
      refine s_istore (lo' := [_, _, _, _, _, _, _, _]) C dX6_write_44 (by decide) rfl ?_
      refine g_iload C dX6_write_46 rfl ?_
      refine g_if_eq C 82 dX6_write_48 (by decide) (by omega) (fun c48 => ?_) (fun c48 => ?_)
      · refine g_iconst C dX6_write_82 ?_
        refine s_istore (lo' := [_, _, _, _, _, _, _, _]) C dX6_write_83 (by decide) rfl ?_
        refine g_iload C dX6_write_85 rfl ?_
        refine g_if_eq C 129 dX6_write_87 (by decide) (by omega) (fun c87 => ?_) (fun c87 => ?_)
        · refine g_iconst C dX6_write_129 ?_
          refine s_istore (lo' := [_, _, _, _, _, _, _, _]) C dX6_write_130 (by decide) rfl ?_
          refine g_iload C dX6_write_132 rfl ?_
          refine g_if_eq C 188 dX6_write_134 (by decide) (by omega) (fun c134 => ?_) (fun c134 => ?_)
          · refine g_iconst C dX6_write_188 ?_
            refine s_istore (lo' := [_, _, _, _, _, _, _, _]) C dX6_write_189 (by decide) rfl ?_
            refine g_aload_n C 0 dX6_write_191 rfl rfl ?_
            refine g_iload C dX6_write_192 rfl ?_
            refine g_if_ne C 201 dX6_write_194 (by decide) (by omega) (fun c194 => ?_) (fun c194 => ?_)
            · omega
            · refine g_iconst C dX6_write_197 ?_
              refine g_goto C 220 dX6_write_198 (by decide) ?_
              refine m_call C hS [_] _ (kX6_75 rfl) (c6_refN hS 1 (by omega) (by omega)) rfl rfl (by decide) (Nat.le_refl _) (Nat.le_refl _) (Nat.le_of_ble_eq_true rfl) dX6_write_220 ?_
              refine g_if_eq C 228 dX6_write_223 (by decide) (by omega) (fun c223 => ?_) (fun c223 => ?_)
              · omega
              · refine g_iconst C dX6_write_226 ?_
                exact g_iret C dX6_write_227 (Nat.le_refl _) (Nat.le_refl _) ⟨rfl, rfl⟩
          · omega
        · omega
      · omega
    · omega
  · omega

set_option maxRecDepth 100000 in
set_option maxHeartbeats 4000000 in
theorem c6_write_1c (hS : gShM h) (h1 : gW1 S) (h2 : gW2 S) (h0 : gW0 S) {nm ns : Nat} (hs : gWS S nm ns) (key : Int) (hkey : (-2147483648 ≤ key ∧ key < 2147483648)) (t : Int) (ht : (-2147483648 ≤ t ∧ t < 2147483648)) (b : Int) (hb : (-2147483648 ≤ b ∧ b < 2147483648)) (hp : 0 ≤ key ∧ key ≤ 999) (hp2 : ¬ (0 ≤ t ∧ t ≤ 3)) (hq : 1 ≤ b ∧ b ≤ 100) : gMm w l yX6_write cX6_write 8 (some .int) 3 [.ref 34, .int (iI key), .int (iI t), .int (iI b)] h S (some (.int (iI (0)))) (su S 0 0 1) := by
  refine gMm_start (by decide +kernel) (by simp [Value.category]) (Nat.le_of_ble_eq_true rfl) (fun m Wp C => ?_)
  have e02 := hs.1
  have hnm := hs.2.1
  have e13 := hs.2.2.1
  have hns1 := hs.2.2.2.1
  have hns2 := hs.2.2.2.2.1
  obtain ⟨hw1, hw7, hw8⟩ := h0
  show gG w m 8 Wp (gwr h S) 0 0 [some (.ref 34), some (.int (iI key)), some (.int (iI t)), some (.int (iI b)), none, none, none, none] [] 0
  refine g_iload_n C 1 dX6_write_0 rfl rfl ?_
  refine m_callS C [_] _ (kX6_92 rfl) rfl (c6_isKey_t key hkey (by omega)) rfl rfl (by decide) (Nat.le_refl _) (Nat.le_refl _) (Nat.le_of_ble_eq_true rfl) dX6_write_1 ?_
  refine g_if_eq C 18 dX6_write_4 (by decide) (by omega) (fun c4 => ?_) (fun c4 => ?_)
  · omega
  · refine g_iload_n C 2 dX6_write_7 rfl rfl ?_
    refine m_callS C [_] _ (kX6_86 rfl) rfl (c6_isTenant_f t ht (by omega)) rfl rfl (by decide) (Nat.le_refl _) (Nat.le_refl _) (Nat.le_of_ble_eq_true rfl) dX6_write_8 ?_
    refine g_if_eq C 18 dX6_write_11 (by decide) (by omega) (fun c11 => ?_) (fun c11 => ?_)
    · refine g_iconst C dX6_write_18 ?_
      refine s_istore (lo' := [_, _, _, _, _, _, _, _]) C dX6_write_19 (by decide) rfl ?_
      refine g_iload_n C 3 dX6_write_21 rfl rfl ?_
      refine g_iconst C dX6_write_22 ?_
      refine g_bipush C dX6_write_23 (by decide) ?_
      refine m_callS C [_, _, _] _ (kX6_54 rfl) rfl (c6_in_t b 1 100 hb (by omega) (by omega) (by omega)) rfl rfl (by decide) (Nat.le_refl _) (Nat.le_refl _) (Nat.le_of_ble_eq_true rfl) dX6_write_25 ?_
      refine s_istore (lo' := [_, _, _, _, _, _, _, _]) C dX6_write_28 (by decide) rfl ?_
      refine g_iload C dX6_write_30 rfl ?_
      refine g_if_eq C 43 dX6_write_32 (by decide) (by omega) (fun c32 => ?_) (fun c32 => ?_)
      · refine g_iconst C dX6_write_43 ?_
        refine s_istore (lo' := [_, _, _, _, _, _, _, _]) C dX6_write_44 (by decide) rfl ?_
        refine g_iload C dX6_write_46 rfl ?_
        refine g_if_eq C 82 dX6_write_48 (by decide) (by omega) (fun c48 => ?_) (fun c48 => ?_)
        · refine g_iconst C dX6_write_82 ?_
          refine s_istore (lo' := [_, _, _, _, _, _, _, _]) C dX6_write_83 (by decide) rfl ?_
          refine g_iload C dX6_write_85 rfl ?_
          refine g_if_eq C 129 dX6_write_87 (by decide) (by omega) (fun c87 => ?_) (fun c87 => ?_)
          · refine g_iconst C dX6_write_129 ?_
            refine s_istore (lo' := [_, _, _, _, _, _, _, _]) C dX6_write_130 (by decide) rfl ?_
            refine g_iload C dX6_write_132 rfl ?_
            refine g_if_eq C 188 dX6_write_134 (by decide) (by omega) (fun c134 => ?_) (fun c134 => ?_)
            · refine g_iconst C dX6_write_188 ?_
              refine s_istore (lo' := [_, _, _, _, _, _, _, _]) C dX6_write_189 (by decide) rfl ?_
              refine g_aload_n C 0 dX6_write_191 rfl rfl ?_
              refine g_iload C dX6_write_192 rfl ?_
              refine g_if_ne C 201 dX6_write_194 (by decide) (by omega) (fun c194 => ?_) (fun c194 => ?_)
              · omega
              · refine g_iconst C dX6_write_197 ?_
                refine g_goto C 220 dX6_write_198 (by decide) ?_
                refine m_call C hS [_] _ (kX6_75 rfl) (c6_refN hS 1 (by omega) (by omega)) rfl rfl (by decide) (Nat.le_refl _) (Nat.le_refl _) (Nat.le_of_ble_eq_true rfl) dX6_write_220 ?_
                refine g_if_eq C 228 dX6_write_223 (by decide) (by omega) (fun c223 => ?_) (fun c223 => ?_)
                · omega
                · refine g_iconst C dX6_write_226 ?_
                  exact g_iret C dX6_write_227 (Nat.le_refl _) (Nat.le_refl _) ⟨rfl, rfl⟩
            · omega
          · omega
        · omega
      · omega
    · omega

set_option maxRecDepth 100000 in
set_option maxHeartbeats 4000000 in
theorem c6_write_1d (hS : gShM h) (h1 : gW1 S) (h2 : gW2 S) (h0 : gW0 S) {nm ns : Nat} (hs : gWS S nm ns) (key : Int) (hkey : (-2147483648 ≤ key ∧ key < 2147483648)) (t : Int) (ht : (-2147483648 ≤ t ∧ t < 2147483648)) (b : Int) (hb : (-2147483648 ≤ b ∧ b < 2147483648)) (hp : 0 ≤ key ∧ key ≤ 999) (hp2 : ¬ (0 ≤ t ∧ t ≤ 3)) (hq : ¬ (1 ≤ b ∧ b ≤ 100)) : gMm w l yX6_write cX6_write 8 (some .int) 3 [.ref 34, .int (iI key), .int (iI t), .int (iI b)] h S (some (.int (iI (0)))) (su S 0 0 1) := by
  refine gMm_start (by decide +kernel) (by simp [Value.category]) (Nat.le_of_ble_eq_true rfl) (fun m Wp C => ?_)
  have e02 := hs.1
  have hnm := hs.2.1
  have e13 := hs.2.2.1
  have hns1 := hs.2.2.2.1
  have hns2 := hs.2.2.2.2.1
  obtain ⟨hw1, hw7, hw8⟩ := h0
  show gG w m 8 Wp (gwr h S) 0 0 [some (.ref 34), some (.int (iI key)), some (.int (iI t)), some (.int (iI b)), none, none, none, none] [] 0
  refine g_iload_n C 1 dX6_write_0 rfl rfl ?_
  refine m_callS C [_] _ (kX6_92 rfl) rfl (c6_isKey_t key hkey (by omega)) rfl rfl (by decide) (Nat.le_refl _) (Nat.le_refl _) (Nat.le_of_ble_eq_true rfl) dX6_write_1 ?_
  refine g_if_eq C 18 dX6_write_4 (by decide) (by omega) (fun c4 => ?_) (fun c4 => ?_)
  · omega
  · refine g_iload_n C 2 dX6_write_7 rfl rfl ?_
    refine m_callS C [_] _ (kX6_86 rfl) rfl (c6_isTenant_f t ht (by omega)) rfl rfl (by decide) (Nat.le_refl _) (Nat.le_refl _) (Nat.le_of_ble_eq_true rfl) dX6_write_8 ?_
    refine g_if_eq C 18 dX6_write_11 (by decide) (by omega) (fun c11 => ?_) (fun c11 => ?_)
    · refine g_iconst C dX6_write_18 ?_
      refine s_istore (lo' := [_, _, _, _, _, _, _, _]) C dX6_write_19 (by decide) rfl ?_
      refine g_iload_n C 3 dX6_write_21 rfl rfl ?_
      refine g_iconst C dX6_write_22 ?_
      refine g_bipush C dX6_write_23 (by decide) ?_
      refine m_callS C [_, _, _] _ (kX6_54 rfl) rfl (c6_in_f b 1 100 hb (by omega) (by omega) (by omega)) rfl rfl (by decide) (Nat.le_refl _) (Nat.le_refl _) (Nat.le_of_ble_eq_true rfl) dX6_write_25 ?_
      refine s_istore (lo' := [_, _, _, _, _, _, _, _]) C dX6_write_28 (by decide) rfl ?_
      refine g_iload C dX6_write_30 rfl ?_
      refine g_if_eq C 43 dX6_write_32 (by decide) (by omega) (fun c32 => ?_) (fun c32 => ?_)
      · refine g_iconst C dX6_write_43 ?_
        refine s_istore (lo' := [_, _, _, _, _, _, _, _]) C dX6_write_44 (by decide) rfl ?_
        refine g_iload C dX6_write_46 rfl ?_
        refine g_if_eq C 82 dX6_write_48 (by decide) (by omega) (fun c48 => ?_) (fun c48 => ?_)
        · refine g_iconst C dX6_write_82 ?_
          refine s_istore (lo' := [_, _, _, _, _, _, _, _]) C dX6_write_83 (by decide) rfl ?_
          refine g_iload C dX6_write_85 rfl ?_
          refine g_if_eq C 129 dX6_write_87 (by decide) (by omega) (fun c87 => ?_) (fun c87 => ?_)
          · refine g_iconst C dX6_write_129 ?_
            refine s_istore (lo' := [_, _, _, _, _, _, _, _]) C dX6_write_130 (by decide) rfl ?_
            refine g_iload C dX6_write_132 rfl ?_
            refine g_if_eq C 188 dX6_write_134 (by decide) (by omega) (fun c134 => ?_) (fun c134 => ?_)
            · refine g_iconst C dX6_write_188 ?_
              refine s_istore (lo' := [_, _, _, _, _, _, _, _]) C dX6_write_189 (by decide) rfl ?_
              refine g_aload_n C 0 dX6_write_191 rfl rfl ?_
              refine g_iload C dX6_write_192 rfl ?_
              refine g_if_ne C 201 dX6_write_194 (by decide) (by omega) (fun c194 => ?_) (fun c194 => ?_)
              · omega
              · refine g_iconst C dX6_write_197 ?_
                refine g_goto C 220 dX6_write_198 (by decide) ?_
                refine m_call C hS [_] _ (kX6_75 rfl) (c6_refN hS 1 (by omega) (by omega)) rfl rfl (by decide) (Nat.le_refl _) (Nat.le_refl _) (Nat.le_of_ble_eq_true rfl) dX6_write_220 ?_
                refine g_if_eq C 228 dX6_write_223 (by decide) (by omega) (fun c223 => ?_) (fun c223 => ?_)
                · omega
                · refine g_iconst C dX6_write_226 ?_
                  exact g_iret C dX6_write_227 (Nat.le_refl _) (Nat.le_refl _) ⟨rfl, rfl⟩
            · omega
          · omega
        · omega
      · omega
    · omega

set_option maxRecDepth 100000 in
set_option maxHeartbeats 4000000 in
theorem c6_write_2 (hS : gShM h) (h1 : gW1 S) (h2 : gW2 S) (h0 : gW0 S) {nm ns : Nat} (hs : gWS S nm ns) (key : Int) (hkey : (-2147483648 ≤ key ∧ key < 2147483648)) (t : Int) (ht : (-2147483648 ≤ t ∧ t < 2147483648)) (b : Int) (hb : (-2147483648 ≤ b ∧ b < 2147483648)) (hk0 : 0 ≤ key ∧ key ≤ 999) (hp2 : 0 ≤ t ∧ t ≤ 3) (j : Nat) (hj : j < ns) (hk1 : S 7 j ≤ key) (hk2 : key < S 7 (j + 1)) (hq : ¬ (1 ≤ b ∧ b ≤ 100)) : gMm w l yX6_write cX6_write 8 (some .int) 3 [.ref 34, .int (iI key), .int (iI t), .int (iI b)] h S (some (.int (iI (0)))) (su S 0 0 2) := by
  refine gMm_start (by decide +kernel) (by simp [Value.category]) (Nat.le_of_ble_eq_true rfl) (fun m Wp C => ?_)
  have e02 := hs.1
  have hnm := hs.2.1
  have e13 := hs.2.2.1
  have hns1 := hs.2.2.2.1
  have hns2 := hs.2.2.2.2.1
  obtain ⟨hw1, hw7, hw8⟩ := h0
  show gG w m 8 Wp (gwr h S) 0 0 [some (.ref 34), some (.int (iI key)), some (.int (iI t)), some (.int (iI b)), none, none, none, none] [] 0
  refine g_iload_n C 1 dX6_write_0 rfl rfl ?_
  refine m_callS C [_] _ (kX6_92 rfl) rfl (c6_isKey_t key hkey (by omega)) rfl rfl (by decide) (Nat.le_refl _) (Nat.le_refl _) (Nat.le_of_ble_eq_true rfl) dX6_write_1 ?_
  refine g_if_eq C 18 dX6_write_4 (by decide) (by omega) (fun c4 => ?_) (fun c4 => ?_)
  · omega
  · refine g_iload_n C 2 dX6_write_7 rfl rfl ?_
    refine m_callS C [_] _ (kX6_86 rfl) rfl (c6_isTenant_t t ht (by omega)) rfl rfl (by decide) (Nat.le_refl _) (Nat.le_refl _) (Nat.le_of_ble_eq_true rfl) dX6_write_8 ?_
    refine g_if_eq C 18 dX6_write_11 (by decide) (by omega) (fun c11 => ?_) (fun c11 => ?_)
    · omega
    · refine g_iconst C dX6_write_14 ?_
      refine g_goto C 19 dX6_write_15 (by decide) ?_
      refine s_istore (lo' := [_, _, _, _, _, _, _, _]) C dX6_write_19 (by decide) rfl ?_
      refine g_iload_n C 3 dX6_write_21 rfl rfl ?_
      refine g_iconst C dX6_write_22 ?_
      refine g_bipush C dX6_write_23 (by decide) ?_
      refine m_callS C [_, _, _] _ (kX6_54 rfl) rfl (c6_in_f b 1 100 hb (by omega) (by omega) (by omega)) rfl rfl (by decide) (Nat.le_refl _) (Nat.le_refl _) (Nat.le_of_ble_eq_true rfl) dX6_write_25 ?_
      refine s_istore (lo' := [_, _, _, _, _, _, _, _]) C dX6_write_28 (by decide) rfl ?_
      refine g_iload C dX6_write_30 rfl ?_
      refine g_if_eq C 43 dX6_write_32 (by decide) (by omega) (fun c32 => ?_) (fun c32 => ?_)
      · omega
      · refine g_aload_n C 0 dX6_write_35 rfl rfl ?_
        refine g_iload_n C 1 dX6_write_36 rfl rfl ?_
        refine m_call C hS [_] _ (kX6_95 rfl) (c6_shardAt hS key (by omega) j (by omega) (fun i _ => (h1 i).1) (fun i _ hi => by have := gmono2 hs hi (by omega); omega) hk2) rfl rfl (by decide) (Nat.le_refl _) (Nat.le_refl _) (Nat.le_of_ble_eq_true rfl) dX6_write_37 ?_
        refine g_goto C 44 dX6_write_40 (by decide) ?_
        refine s_istore (lo' := [_, _, _, _, _, _, _, _]) C dX6_write_44 (by decide) rfl ?_
        refine g_iload C dX6_write_46 rfl ?_
        refine g_if_eq C 82 dX6_write_48 (by decide) (by omega) (fun c48 => ?_) (fun c48 => ?_)
        · omega
        · refine g_iload C dX6_write_51 rfl ?_
          refine g_if_eq C 82 dX6_write_53 (by decide) (by omega) (fun c53 => ?_) (fun c53 => ?_)
          · refine g_iconst C dX6_write_82 ?_
            refine s_istore (lo' := [_, _, _, _, _, _, _, _]) C dX6_write_83 (by decide) rfl ?_
            refine g_iload C dX6_write_85 rfl ?_
            refine g_if_eq C 129 dX6_write_87 (by decide) (by omega) (fun c87 => ?_) (fun c87 => ?_)
            · refine g_iconst C dX6_write_129 ?_
              refine s_istore (lo' := [_, _, _, _, _, _, _, _]) C dX6_write_130 (by decide) rfl ?_
              refine g_iload C dX6_write_132 rfl ?_
              refine g_if_eq C 188 dX6_write_134 (by decide) (by omega) (fun c134 => ?_) (fun c134 => ?_)
              · refine g_iconst C dX6_write_188 ?_
                refine s_istore (lo' := [_, _, _, _, _, _, _, _]) C dX6_write_189 (by decide) rfl ?_
                refine g_aload_n C 0 dX6_write_191 rfl rfl ?_
                refine g_iload C dX6_write_192 rfl ?_
                refine g_if_ne C 201 dX6_write_194 (by decide) (by omega) (fun c194 => ?_) (fun c194 => ?_)
                · refine g_iload C dX6_write_201 rfl ?_
                  refine g_if_ne C 210 dX6_write_203 (by decide) (by omega) (fun c203 => ?_) (fun c203 => ?_)
                  · omega
                  · refine g_iconst C dX6_write_206 ?_
                    refine g_goto C 220 dX6_write_207 (by decide) ?_
                    refine m_call C hS [_] _ (kX6_75 rfl) (c6_refN hS 2 (by omega) (by omega)) rfl rfl (by decide) (Nat.le_refl _) (Nat.le_refl _) (Nat.le_of_ble_eq_true rfl) dX6_write_220 ?_
                    refine g_if_eq C 228 dX6_write_223 (by decide) (by omega) (fun c223 => ?_) (fun c223 => ?_)
                    · omega
                    · refine g_iconst C dX6_write_226 ?_
                      exact g_iret C dX6_write_227 (Nat.le_refl _) (Nat.le_refl _) ⟨rfl, rfl⟩
                · omega
              · omega
            · omega
          · omega

set_option maxRecDepth 100000 in
set_option maxHeartbeats 4000000 in
theorem c6_write_3 (hS : gShM h) (h1 : gW1 S) (h2 : gW2 S) (h0 : gW0 S) {nm ns : Nat} (hs : gWS S nm ns) (key : Int) (hkey : (-2147483648 ≤ key ∧ key < 2147483648)) (t : Int) (ht : (-2147483648 ≤ t ∧ t < 2147483648)) (b : Int) (hb : (-2147483648 ≤ b ∧ b < 2147483648)) (hk0 : 0 ≤ key ∧ key ≤ 999) (hp2 : 0 ≤ t ∧ t ≤ 3) (j : Nat) (hj : j < ns) (hk1 : S 7 j ≤ key) (hk2 : key < S 7 (j + 1)) (hq : 1 ≤ b ∧ b ≤ 100) (hn : gNo (0 < nm ∧ S 2 (S 8 j).toNat = 0 ∧ gheld S (S 8 j) - S 6 key.toNat + b ≤ S 1 (S 8 j).toNat ∧ gbof S t - gbofF S t key.toNat + b ≤ S 3 t.toNat ∧ S 0 8 < 600)) : gMm w l yX6_write cX6_write 8 (some .int) 3 [.ref 34, .int (iI key), .int (iI t), .int (iI b)] h S (some (.int (iI (0)))) (su S 0 0 3) := by
  refine gMm_start (by decide +kernel) (by simp [Value.category]) (Nat.le_of_ble_eq_true rfl) (fun m Wp C => ?_)
  have e02 := hs.1
  have hnm := hs.2.1
  have e13 := hs.2.2.1
  have hns1 := hs.2.2.2.1
  have hns2 := hs.2.2.2.2.1
  obtain ⟨hw1, hw7, hw8⟩ := h0
  have hr0 := hs.2.2.2.2.2.2.2.2 j hj
  have hrr := h1 j
  have hby := (h2 key.toNat).2.2.2.2
  have how := (h2 key.toNat).2.2.2.1
  have hrm := (h2 (S 8 j).toNat).1
  have hqt := (h2 t.toNat).2.2.1
  have hhe := gheld_le h1 h2 (by omega) (S 8 j)
  have hbo := gbof_le h2 t
  have hd3 := gd01 (h2 (S 8 j).toNat).2.1
  have rg1 : -2147483648 ≤ gheld S (S 8 j) - S 6 key.toNat + b ∧ gheld S (S 8 j) - S 6 key.toNat + b < 2147483648 := by clear hs; omega
  have rg2 : -2147483648 ≤ S 1 (S 8 j).toNat ∧ S 1 (S 8 j).toNat < 2147483648 := by clear hs; omega
  have rg3 : -2147483648 ≤ gbof S t - S 6 key.toNat + b ∧ gbof S t - S 6 key.toNat + b < 2147483648 := by clear hs; omega
  have rg4 : -2147483648 ≤ gbof S t - 0 + b ∧ gbof S t - 0 + b < 2147483648 := by clear hs; omega
  have rg5 : -2147483648 ≤ S 3 t.toNat ∧ S 3 t.toNat < 2147483648 := by clear hs; omega
  have rg6 : -2147483648 ≤ S 5 key.toNat ∧ S 5 key.toNat < 2147483648 := by clear hs; omega
  have hkx : key = (key.toNat : Int) := by omega
  have hkl : key.toNat < 1000 := by omega
  have htx : t = (t.toNat : Int) := by omega
  have htl : t.toNat < 4 := by omega
  have h8r : -2147483648 ≤ S 8 j ∧ S 8 j < 2147483648 := by omega
  have hj18 : j < 18 := by omega
  have hlg : -2147483648 ≤ S 0 8 ∧ S 0 8 < 2147483648 := by omega
  show gG w m 8 Wp (gwr h S) 0 0 [some (.ref 34), some (.int (iI key)), some (.int (iI t)), some (.int (iI b)), none, none, none, none] [] 0
  refine g_iload_n C 1 dX6_write_0 rfl rfl ?_
  refine m_callS C [_] _ (kX6_92 rfl) rfl (c6_isKey_t key hkey (by omega)) rfl rfl (by decide) (Nat.le_refl _) (Nat.le_refl _) (Nat.le_of_ble_eq_true rfl) dX6_write_1 ?_
  refine g_if_eq C 18 dX6_write_4 (by decide) (by omega) (fun c4 => ?_) (fun c4 => ?_)
  · omega
  · refine g_iload_n C 2 dX6_write_7 rfl rfl ?_
    refine m_callS C [_] _ (kX6_86 rfl) rfl (c6_isTenant_t t ht (by omega)) rfl rfl (by decide) (Nat.le_refl _) (Nat.le_refl _) (Nat.le_of_ble_eq_true rfl) dX6_write_8 ?_
    refine g_if_eq C 18 dX6_write_11 (by decide) (by omega) (fun c11 => ?_) (fun c11 => ?_)
    · omega
    · refine g_iconst C dX6_write_14 ?_
      refine g_goto C 19 dX6_write_15 (by decide) ?_
      refine s_istore (lo' := [_, _, _, _, _, _, _, _]) C dX6_write_19 (by decide) rfl ?_
      refine g_iload_n C 3 dX6_write_21 rfl rfl ?_
      refine g_iconst C dX6_write_22 ?_
      refine g_bipush C dX6_write_23 (by decide) ?_
      refine m_callS C [_, _, _] _ (kX6_54 rfl) rfl (c6_in_t b 1 100 hb (by omega) (by omega) (by omega)) rfl rfl (by decide) (Nat.le_refl _) (Nat.le_refl _) (Nat.le_of_ble_eq_true rfl) dX6_write_25 ?_
      refine s_istore (lo' := [_, _, _, _, _, _, _, _]) C dX6_write_28 (by decide) rfl ?_
      refine g_iload C dX6_write_30 rfl ?_
      refine g_if_eq C 43 dX6_write_32 (by decide) (by omega) (fun c32 => ?_) (fun c32 => ?_)
      · omega
      · refine g_aload_n C 0 dX6_write_35 rfl rfl ?_
        refine g_iload_n C 1 dX6_write_36 rfl rfl ?_
        refine m_call C hS [_] _ (kX6_95 rfl) (c6_shardAt hS key (by omega) j (by omega) (fun i _ => (h1 i).1) (fun i _ hi => by have := gmono2 hs hi (by omega); omega) hk2) rfl rfl (by decide) (Nat.le_refl _) (Nat.le_refl _) (Nat.le_of_ble_eq_true rfl) dX6_write_37 ?_
        refine g_goto C 44 dX6_write_40 (by decide) ?_
        refine s_istore (lo' := [_, _, _, _, _, _, _, _]) C dX6_write_44 (by decide) rfl ?_
        refine g_iload C dX6_write_46 rfl ?_
        refine g_if_eq C 82 dX6_write_48 (by decide) (by omega) (fun c48 => ?_) (fun c48 => ?_)
        · omega
        · refine g_iload C dX6_write_51 rfl ?_
          refine g_if_eq C 82 dX6_write_53 (by decide) (by omega) (fun c53 => ?_) (fun c53 => ?_)
          · omega
          · refine g_aload_n C 0 dX6_write_56 rfl rfl ?_
            refine m_fld C hS (fX6_58 rfl) rfl dX6_write_57 ?_
            refine g_if_le C 82 dX6_write_60 (by decide) (by omega) (fun c60 => ?_) (fun c60 => ?_)
            · refine g_iconst C dX6_write_82 ?_
              refine s_istore (lo' := [_, _, _, _, _, _, _, _]) C dX6_write_83 (by decide) rfl ?_
              refine g_iload C dX6_write_85 rfl ?_
              refine g_if_eq C 129 dX6_write_87 (by decide) (by omega) (fun c87 => ?_) (fun c87 => ?_)
              · refine g_iconst C dX6_write_129 ?_
                refine s_istore (lo' := [_, _, _, _, _, _, _, _]) C dX6_write_130 (by decide) rfl ?_
                refine g_iload C dX6_write_132 rfl ?_
                refine g_if_eq C 188 dX6_write_134 (by decide) (by omega) (fun c134 => ?_) (fun c134 => ?_)
                · refine g_iconst C dX6_write_188 ?_
                  refine s_istore (lo' := [_, _, _, _, _, _, _, _]) C dX6_write_189 (by decide) rfl ?_
                  refine g_aload_n C 0 dX6_write_191 rfl rfl ?_
                  refine g_iload C dX6_write_192 rfl ?_
                  refine g_if_ne C 201 dX6_write_194 (by decide) (by omega) (fun c194 => ?_) (fun c194 => ?_)
                  · refine g_iload C dX6_write_201 rfl ?_
                    refine g_if_ne C 210 dX6_write_203 (by decide) (by omega) (fun c203 => ?_) (fun c203 => ?_)
                    · refine g_iload C dX6_write_210 rfl ?_
                      refine g_if_eq C 219 dX6_write_212 (by decide) (by omega) (fun c212 => ?_) (fun c212 => ?_)
                      · refine g_iconst C dX6_write_219 ?_
                        refine m_call C hS [_] _ (kX6_75 rfl) (c6_refN hS 3 (by omega) (by omega)) rfl rfl (by decide) (Nat.le_refl _) (Nat.le_refl _) (Nat.le_of_ble_eq_true rfl) dX6_write_220 ?_
                        refine g_if_eq C 228 dX6_write_223 (by decide) (by omega) (fun c223 => ?_) (fun c223 => ?_)
                        · omega
                        · refine g_iconst C dX6_write_226 ?_
                          exact g_iret C dX6_write_227 (Nat.le_refl _) (Nat.le_refl _) ⟨rfl, rfl⟩
                      · omega
                    · omega
                  · omega
                · omega
              · omega
            · have hr8 := hr0.2.1 (by omega)
              have hx8 : S 8 j = ((S 8 j).toNat : Int) := by omega
              have hl8 : (S 8 j).toNat < 6 := by omega
              refine g_aload_n C 0 dX6_write_63 rfl rfl ?_
              refine m_arr C hS 2 (by omega) (by omega) (fX6_13 rfl) rfl dX6_write_64 ?_
              refine g_aload_n C 0 dX6_write_67 rfl rfl ?_
              refine m_arr C hS 8 (by omega) (by omega) (fX6_36 rfl) rfl dX6_write_68 ?_
              refine g_iload C dX6_write_71 rfl ?_
              refine m_iald C hS (by omega) rfl (by omega) j rfl hj18 dX6_write_73 ?_
              refine m_bald C hS (S 8 j).toNat hx8 hl8 dX6_write_74 ?_
              refine g_if_ne C 82 dX6_write_75 (by decide) hd3 (fun c75 => ?_) (fun c75 => ?_)
              · refine g_iconst C dX6_write_82 ?_
                refine s_istore (lo' := [_, _, _, _, _, _, _, _]) C dX6_write_83 (by decide) rfl ?_
                refine g_iload C dX6_write_85 rfl ?_
                refine g_if_eq C 129 dX6_write_87 (by decide) (by omega) (fun c87 => ?_) (fun c87 => ?_)
                · refine g_iconst C dX6_write_129 ?_
                  refine s_istore (lo' := [_, _, _, _, _, _, _, _]) C dX6_write_130 (by decide) rfl ?_
                  refine g_iload C dX6_write_132 rfl ?_
                  refine g_if_eq C 188 dX6_write_134 (by decide) (by omega) (fun c134 => ?_) (fun c134 => ?_)
                  · refine g_iconst C dX6_write_188 ?_
                    refine s_istore (lo' := [_, _, _, _, _, _, _, _]) C dX6_write_189 (by decide) rfl ?_
                    refine g_aload_n C 0 dX6_write_191 rfl rfl ?_
                    refine g_iload C dX6_write_192 rfl ?_
                    refine g_if_ne C 201 dX6_write_194 (by decide) (by omega) (fun c194 => ?_) (fun c194 => ?_)
                    · refine g_iload C dX6_write_201 rfl ?_
                      refine g_if_ne C 210 dX6_write_203 (by decide) (by omega) (fun c203 => ?_) (fun c203 => ?_)
                      · refine g_iload C dX6_write_210 rfl ?_
                        refine g_if_eq C 219 dX6_write_212 (by decide) (by omega) (fun c212 => ?_) (fun c212 => ?_)
                        · refine g_iconst C dX6_write_219 ?_
                          refine m_call C hS [_] _ (kX6_75 rfl) (c6_refN hS 3 (by omega) (by omega)) rfl rfl (by decide) (Nat.le_refl _) (Nat.le_refl _) (Nat.le_of_ble_eq_true rfl) dX6_write_220 ?_
                          refine g_if_eq C 228 dX6_write_223 (by decide) (by omega) (fun c223 => ?_) (fun c223 => ?_)
                          · omega
                          · refine g_iconst C dX6_write_226 ?_
                            exact g_iret C dX6_write_227 (Nat.le_refl _) (Nat.le_refl _) ⟨rfl, rfl⟩
                        · omega
                      · omega
                    · omega
                  · omega
                · omega
              · refine g_iconst C dX6_write_78 ?_
                refine g_goto C 83 dX6_write_79 (by decide) ?_
                refine s_istore (lo' := [_, _, _, _, _, _, _, _]) C dX6_write_83 (by decide) rfl ?_
                refine g_iload C dX6_write_85 rfl ?_
                refine g_if_eq C 129 dX6_write_87 (by decide) (by omega) (fun c87 => ?_) (fun c87 => ?_)
                · omega
                · refine g_aload_n C 0 dX6_write_90 rfl rfl ?_
                  refine g_aload_n C 0 dX6_write_91 rfl rfl ?_
                  refine m_arr C hS 8 (by omega) (by omega) (fX6_36 rfl) rfl dX6_write_92 ?_
                  refine g_iload C dX6_write_95 rfl ?_
                  refine m_iald C hS (by omega) rfl (by omega) j rfl hj18 dX6_write_97 ?_
                  refine m_call C hS [_] _ (kX6_98 rfl) (c6_held hS h1 (by omega) (S 8 j) h8r) rfl rfl (by decide) (Nat.le_refl _) (Nat.le_refl _) (Nat.le_of_ble_eq_true rfl) dX6_write_98 ?_
                  refine g_aload_n C 0 dX6_write_101 rfl rfl ?_
                  refine m_arr C hS 6 (by omega) (by omega) (fX6_26 rfl) rfl dX6_write_102 ?_
                  refine g_iload_n C 1 dX6_write_105 rfl rfl ?_
                  refine m_iald C hS (by omega) rfl (by omega) key.toNat hkx hkl dX6_write_106 ?_
                  refine g_isub C dX6_write_107 ?_
                  refine g_iload_n C 3 dX6_write_108 rfl rfl ?_
                  refine g_iadd C dX6_write_109 ?_
                  refine g_aload_n C 0 dX6_write_110 rfl rfl ?_
                  refine m_arr C hS 1 (by omega) (by omega) (fX6_7 rfl) rfl dX6_write_111 ?_
                  refine g_aload_n C 0 dX6_write_114 rfl rfl ?_
                  refine m_arr C hS 8 (by omega) (by omega) (fX6_36 rfl) rfl dX6_write_115 ?_
                  refine g_iload C dX6_write_118 rfl ?_
                  refine m_iald C hS (by omega) rfl (by omega) j rfl hj18 dX6_write_120 ?_
                  refine m_iald C hS (by omega) rfl (by omega) (S 8 j).toNat hx8 hl8 dX6_write_121 ?_
                  refine g_icmp_gt C 129 dX6_write_122 (by decide) rg1 rg2 (fun c122 => ?_) (fun c122 => ?_)
                  · refine g_iconst C dX6_write_129 ?_
                    refine s_istore (lo' := [_, _, _, _, _, _, _, _]) C dX6_write_130 (by decide) rfl ?_
                    refine g_iload C dX6_write_132 rfl ?_
                    refine g_if_eq C 188 dX6_write_134 (by decide) (by omega) (fun c134 => ?_) (fun c134 => ?_)
                    · refine g_iconst C dX6_write_188 ?_
                      refine s_istore (lo' := [_, _, _, _, _, _, _, _]) C dX6_write_189 (by decide) rfl ?_
                      refine g_aload_n C 0 dX6_write_191 rfl rfl ?_
                      refine g_iload C dX6_write_192 rfl ?_
                      refine g_if_ne C 201 dX6_write_194 (by decide) (by omega) (fun c194 => ?_) (fun c194 => ?_)
                      · refine g_iload C dX6_write_201 rfl ?_
                        refine g_if_ne C 210 dX6_write_203 (by decide) (by omega) (fun c203 => ?_) (fun c203 => ?_)
                        · refine g_iload C dX6_write_210 rfl ?_
                          refine g_if_eq C 219 dX6_write_212 (by decide) (by omega) (fun c212 => ?_) (fun c212 => ?_)
                          · refine g_iconst C dX6_write_219 ?_
                            refine m_call C hS [_] _ (kX6_75 rfl) (c6_refN hS 3 (by omega) (by omega)) rfl rfl (by decide) (Nat.le_refl _) (Nat.le_refl _) (Nat.le_of_ble_eq_true rfl) dX6_write_220 ?_
                            refine g_if_eq C 228 dX6_write_223 (by decide) (by omega) (fun c223 => ?_) (fun c223 => ?_)
                            · omega
                            · refine g_iconst C dX6_write_226 ?_
                              exact g_iret C dX6_write_227 (Nat.le_refl _) (Nat.le_refl _) ⟨rfl, rfl⟩
                          · omega
                        · omega
                      · omega
                    · omega
                  · refine g_iconst C dX6_write_125 ?_
                    refine g_goto C 130 dX6_write_126 (by decide) ?_
                    refine s_istore (lo' := [_, _, _, _, _, _, _, _]) C dX6_write_130 (by decide) rfl ?_
                    refine g_iload C dX6_write_132 rfl ?_
                    refine g_if_eq C 188 dX6_write_134 (by decide) (by omega) (fun c134 => ?_) (fun c134 => ?_)
                    · omega
                    · refine g_aload_n C 0 dX6_write_137 rfl rfl ?_
                      refine g_iload_n C 2 dX6_write_138 rfl rfl ?_
                      refine m_call C hS [_] _ (kX6_101 rfl) (c6_bytesOf hS h2 t ht) rfl rfl (by decide) (Nat.le_refl _) (Nat.le_refl _) (Nat.le_of_ble_eq_true rfl) dX6_write_139 ?_
                      refine g_aload_n C 0 dX6_write_142 rfl rfl ?_
                      refine m_arr C hS 5 (by omega) (by omega) (fX6_23 rfl) rfl dX6_write_143 ?_
                      refine g_iload_n C 1 dX6_write_146 rfl rfl ?_
                      refine m_iald C hS (by omega) rfl (by omega) key.toNat hkx hkl dX6_write_147 ?_
                      refine g_iload_n C 2 dX6_write_148 rfl rfl ?_
                      refine g_icmp_ne C 161 dX6_write_149 (by decide) rg6 ht (fun c149 => ?_) (fun c149 => ?_)
                      · have e9 : gbofF S t key.toNat = 0 := if_neg c149
                        refine g_iconst C dX6_write_161 ?_
                        refine g_isub C dX6_write_162 ?_
                        refine g_iload_n C 3 dX6_write_163 rfl rfl ?_
                        refine g_iadd C dX6_write_164 ?_
                        refine g_aload_n C 0 dX6_write_165 rfl rfl ?_
                        refine m_arr C hS 3 (by omega) (by omega) (fX6_17 rfl) rfl dX6_write_166 ?_
                        refine g_iload_n C 2 dX6_write_169 rfl rfl ?_
                        refine m_iald C hS (by omega) rfl (by omega) t.toNat htx htl dX6_write_170 ?_
                        refine g_icmp_gt C 188 dX6_write_171 (by decide) (by first | exact rg3 | exact rg4) rg5 (fun c171 => ?_) (fun c171 => ?_)
                        · refine g_iconst C dX6_write_188 ?_
                          refine s_istore (lo' := [_, _, _, _, _, _, _, _]) C dX6_write_189 (by decide) rfl ?_
                          refine g_aload_n C 0 dX6_write_191 rfl rfl ?_
                          refine g_iload C dX6_write_192 rfl ?_
                          refine g_if_ne C 201 dX6_write_194 (by decide) (by omega) (fun c194 => ?_) (fun c194 => ?_)
                          · refine g_iload C dX6_write_201 rfl ?_
                            refine g_if_ne C 210 dX6_write_203 (by decide) (by omega) (fun c203 => ?_) (fun c203 => ?_)
                            · refine g_iload C dX6_write_210 rfl ?_
                              refine g_if_eq C 219 dX6_write_212 (by decide) (by omega) (fun c212 => ?_) (fun c212 => ?_)
                              · refine g_iconst C dX6_write_219 ?_
                                refine m_call C hS [_] _ (kX6_75 rfl) (c6_refN hS 3 (by omega) (by omega)) rfl rfl (by decide) (Nat.le_refl _) (Nat.le_refl _) (Nat.le_of_ble_eq_true rfl) dX6_write_220 ?_
                                refine g_if_eq C 228 dX6_write_223 (by decide) (by omega) (fun c223 => ?_) (fun c223 => ?_)
                                · omega
                                · refine g_iconst C dX6_write_226 ?_
                                  exact g_iret C dX6_write_227 (Nat.le_refl _) (Nat.le_refl _) ⟨rfl, rfl⟩
                              · omega
                            · omega
                          · omega
                        · refine g_aload_n C 0 dX6_write_174 rfl rfl ?_
                          refine m_fld C hS (fX6_104 rfl) rfl dX6_write_175 ?_
                          refine g_sipush C dX6_write_178 (by decide) ?_
                          refine g_icmp_ge C 188 dX6_write_181 (by decide) hlg (by omega) (fun c181 => ?_) (fun c181 => ?_)
                          · refine g_iconst C dX6_write_188 ?_
                            refine s_istore (lo' := [_, _, _, _, _, _, _, _]) C dX6_write_189 (by decide) rfl ?_
                            refine g_aload_n C 0 dX6_write_191 rfl rfl ?_
                            refine g_iload C dX6_write_192 rfl ?_
                            refine g_if_ne C 201 dX6_write_194 (by decide) (by omega) (fun c194 => ?_) (fun c194 => ?_)
                            · refine g_iload C dX6_write_201 rfl ?_
                              refine g_if_ne C 210 dX6_write_203 (by decide) (by omega) (fun c203 => ?_) (fun c203 => ?_)
                              · refine g_iload C dX6_write_210 rfl ?_
                                refine g_if_eq C 219 dX6_write_212 (by decide) (by omega) (fun c212 => ?_) (fun c212 => ?_)
                                · refine g_iconst C dX6_write_219 ?_
                                  refine m_call C hS [_] _ (kX6_75 rfl) (c6_refN hS 3 (by omega) (by omega)) rfl rfl (by decide) (Nat.le_refl _) (Nat.le_refl _) (Nat.le_of_ble_eq_true rfl) dX6_write_220 ?_
                                  refine g_if_eq C 228 dX6_write_223 (by decide) (by omega) (fun c223 => ?_) (fun c223 => ?_)
                                  · omega
                                  · refine g_iconst C dX6_write_226 ?_
                                    exact g_iret C dX6_write_227 (Nat.le_refl _) (Nat.le_refl _) ⟨rfl, rfl⟩
                                · omega
                              · omega
                            · omega
                          · exact (hn ⟨by omega, by omega, by omega, by rw [e9]; omega, by omega⟩).elim
                      · have e9 : gbofF S t key.toNat = S 6 key.toNat := if_pos c149
                        refine g_aload_n C 0 dX6_write_152 rfl rfl ?_
                        refine m_arr C hS 6 (by omega) (by omega) (fX6_26 rfl) rfl dX6_write_153 ?_
                        refine g_iload_n C 1 dX6_write_156 rfl rfl ?_
                        refine m_iald C hS (by omega) rfl (by omega) key.toNat hkx hkl dX6_write_157 ?_
                        refine g_goto C 162 dX6_write_158 (by decide) ?_
                        refine g_isub C dX6_write_162 ?_
                        refine g_iload_n C 3 dX6_write_163 rfl rfl ?_
                        refine g_iadd C dX6_write_164 ?_
                        refine g_aload_n C 0 dX6_write_165 rfl rfl ?_
                        refine m_arr C hS 3 (by omega) (by omega) (fX6_17 rfl) rfl dX6_write_166 ?_
                        refine g_iload_n C 2 dX6_write_169 rfl rfl ?_
                        refine m_iald C hS (by omega) rfl (by omega) t.toNat htx htl dX6_write_170 ?_
                        refine g_icmp_gt C 188 dX6_write_171 (by decide) (by first | exact rg3 | exact rg4) rg5 (fun c171 => ?_) (fun c171 => ?_)
                        · refine g_iconst C dX6_write_188 ?_
                          refine s_istore (lo' := [_, _, _, _, _, _, _, _]) C dX6_write_189 (by decide) rfl ?_
                          refine g_aload_n C 0 dX6_write_191 rfl rfl ?_
                          refine g_iload C dX6_write_192 rfl ?_
                          refine g_if_ne C 201 dX6_write_194 (by decide) (by omega) (fun c194 => ?_) (fun c194 => ?_)
                          · refine g_iload C dX6_write_201 rfl ?_
                            refine g_if_ne C 210 dX6_write_203 (by decide) (by omega) (fun c203 => ?_) (fun c203 => ?_)
                            · refine g_iload C dX6_write_210 rfl ?_
                              refine g_if_eq C 219 dX6_write_212 (by decide) (by omega) (fun c212 => ?_) (fun c212 => ?_)
                              · refine g_iconst C dX6_write_219 ?_
                                refine m_call C hS [_] _ (kX6_75 rfl) (c6_refN hS 3 (by omega) (by omega)) rfl rfl (by decide) (Nat.le_refl _) (Nat.le_refl _) (Nat.le_of_ble_eq_true rfl) dX6_write_220 ?_
                                refine g_if_eq C 228 dX6_write_223 (by decide) (by omega) (fun c223 => ?_) (fun c223 => ?_)
                                · omega
                                · refine g_iconst C dX6_write_226 ?_
                                  exact g_iret C dX6_write_227 (Nat.le_refl _) (Nat.le_refl _) ⟨rfl, rfl⟩
                              · omega
                            · omega
                          · omega
                        · refine g_aload_n C 0 dX6_write_174 rfl rfl ?_
                          refine m_fld C hS (fX6_104 rfl) rfl dX6_write_175 ?_
                          refine g_sipush C dX6_write_178 (by decide) ?_
                          refine g_icmp_ge C 188 dX6_write_181 (by decide) hlg (by omega) (fun c181 => ?_) (fun c181 => ?_)
                          · refine g_iconst C dX6_write_188 ?_
                            refine s_istore (lo' := [_, _, _, _, _, _, _, _]) C dX6_write_189 (by decide) rfl ?_
                            refine g_aload_n C 0 dX6_write_191 rfl rfl ?_
                            refine g_iload C dX6_write_192 rfl ?_
                            refine g_if_ne C 201 dX6_write_194 (by decide) (by omega) (fun c194 => ?_) (fun c194 => ?_)
                            · refine g_iload C dX6_write_201 rfl ?_
                              refine g_if_ne C 210 dX6_write_203 (by decide) (by omega) (fun c203 => ?_) (fun c203 => ?_)
                              · refine g_iload C dX6_write_210 rfl ?_
                                refine g_if_eq C 219 dX6_write_212 (by decide) (by omega) (fun c212 => ?_) (fun c212 => ?_)
                                · refine g_iconst C dX6_write_219 ?_
                                  refine m_call C hS [_] _ (kX6_75 rfl) (c6_refN hS 3 (by omega) (by omega)) rfl rfl (by decide) (Nat.le_refl _) (Nat.le_refl _) (Nat.le_of_ble_eq_true rfl) dX6_write_220 ?_
                                  refine g_if_eq C 228 dX6_write_223 (by decide) (by omega) (fun c223 => ?_) (fun c223 => ?_)
                                  · omega
                                  · refine g_iconst C dX6_write_226 ?_
                                    exact g_iret C dX6_write_227 (Nat.le_refl _) (Nat.le_refl _) ⟨rfl, rfl⟩
                                · omega
                              · omega
                            · omega
                          · exact (hn ⟨by omega, by omega, by omega, by rw [e9]; omega, by omega⟩).elim

/-- the state behind a write that is taken, ahead of the copy's end -/
def swr (S : gS) (key j : Nat) (t b : Int) : gS := su (su (su (su (su S 0 0 0) 5 key t) 6 key b) 0 8 (S 0 8 + 1)) 12 j (S 12 j + 1)
/-- .. and behind it: the move fails if the copy finds no room -/
def swf (U : gS) (key : Int) (j : Nat) : gS := if U 9 j ≠ -1 ∧ key < U 10 j ∧ U 1 (U 9 j).toNat < gheld U (U 9 j) then su (su U 9 j (-1)) 0 10 (U 0 10 + 1) else U
theorem gW2_wr {S : gS} (h2 : gW2 S) (key j : Nat) {t b : Int} (ht : 0 ≤ t ∧ t ≤ 3) (hb : 0 ≤ b ∧ b ≤ 100) : gW2 (swr S key j t b) := by
  intro i
  have h := h2 i
  show (0 ≤ S 1 i ∧ _) ∧ (S 2 i = 0 ∨ _) ∧ (0 ≤ S 3 i ∧ _) ∧ (0 ≤ va_up (S 5) key t i ∧ va_up (S 5) key t i ≤ 3) ∧ (0 ≤ va_up (S 6) key b i ∧ va_up (S 6) key b i ≤ 100)
  refine ⟨h.1, h.2.1, h.2.2.1, ?_, ?_⟩
  · unfold va_up; split
    · exact ht
    · exact h.2.2.2.1
  · unfold va_up; split
    · exact hb
    · exact h.2.2.2.2

theorem c6_isCopied_t (hS : gShM h) (h1 : gW1 S) (v : Int) (hv : (-2147483648 ≤ v ∧ v < 2147483648)) (x : Int) (j : Nat) (hx : x = (j : Int)) (hj : j ≤ 16) (hp : (S 9 j ≠ -1 ∧ v < S 10 j)) : gMm w l yX6_isCopied cX6_isCopied 3 (some .boolean) 0 [.ref 34, .int (iI x), .int (iI v)] h S (some (.int (iI 1))) S := by
  have := c6_isCopied (w := w) (l := l) hS h1 v hv x j hx hj
  rwa [bI_t hp] at this

theorem c6_isCopied_f (hS : gShM h) (h1 : gW1 S) (v : Int) (hv : (-2147483648 ≤ v ∧ v < 2147483648)) (x : Int) (j : Nat) (hx : x = (j : Int)) (hj : j ≤ 16) (hp : ¬ (S 9 j ≠ -1 ∧ v < S 10 j)) : gMm w l yX6_isCopied cX6_isCopied 3 (some .boolean) 0 [.ref 34, .int (iI x), .int (iI v)] h S (some (.int (iI 0))) S := by
  have := c6_isCopied (w := w) (l := l) hS h1 v hv x j hx hj
  rwa [bI_f hp] at this

theorem gW2_roll {U : gS} (h2 : gW2 U) (k : Nat) (v : Int) : gW2 (su (su U 9 k (-1)) 0 10 v) := h2

set_option maxRecDepth 100000 in
set_option maxHeartbeats 4000000 in
theorem c6_write_4 (hS : gShM h) (h1 : gW1 S) (h2 : gW2 S) (h0 : gW0 S) {nm ns : Nat} (hs : gWS S nm ns) (key : Int) (hkey : (-2147483648 ≤ key ∧ key < 2147483648)) (t : Int) (ht : (-2147483648 ≤ t ∧ t < 2147483648)) (b : Int) (hb : (-2147483648 ≤ b ∧ b < 2147483648)) (hk0 : 0 ≤ key ∧ key ≤ 999) (hp2 : 0 ≤ t ∧ t ≤ 3) (j : Nat) (hj : j < ns) (hk1 : S 7 j ≤ key) (hk2 : key < S 7 (j + 1)) (hq : 1 ≤ b ∧ b ≤ 100) (hn : 0 < nm) (hn2 : S 2 (S 8 j).toNat = 0) (hn3 : gheld S (S 8 j) - S 6 key.toNat + b ≤ S 1 (S 8 j).toNat) (hn4 : gbof S t - gbofF S t key.toNat + b ≤ S 3 t.toNat) (hn5 : S 0 8 < 600) : gMm w l yX6_write cX6_write 8 (some .int) 3 [.ref 34, .int (iI key), .int (iI t), .int (iI b)] h S (some (.int (iI (gbof (swf (swr S key.toNat j t b) key j) t)))) (swf (swr S key.toNat j t b) key j) := by
  refine gMm_start (by decide +kernel) (by simp [Value.category]) (Nat.le_of_ble_eq_true rfl) (fun m Wp C => ?_)
  have e02 := hs.1
  have hnm := hs.2.1
  have e13 := hs.2.2.1
  have hns1 := hs.2.2.2.1
  have hns2 := hs.2.2.2.2.1
  obtain ⟨hw1, hw7, hw8⟩ := h0
  have hr0 := hs.2.2.2.2.2.2.2.2 j hj
  have hrr := h1 j
  have hby := (h2 key.toNat).2.2.2.2
  have how := (h2 key.toNat).2.2.2.1
  have hrm := (h2 (S 8 j).toNat).1
  have hqt := (h2 t.toNat).2.2.1
  have hhe := gheld_le h1 h2 (by omega) (S 8 j)
  have hbo := gbof_le h2 t
  have hd3 := gd01 (h2 (S 8 j).toNat).2.1
  have rg1 : -2147483648 ≤ gheld S (S 8 j) - S 6 key.toNat + b ∧ gheld S (S 8 j) - S 6 key.toNat + b < 2147483648 := by clear hs; omega
  have rg2 : -2147483648 ≤ S 1 (S 8 j).toNat ∧ S 1 (S 8 j).toNat < 2147483648 := by clear hs; omega
  have rg3 : -2147483648 ≤ gbof S t - S 6 key.toNat + b ∧ gbof S t - S 6 key.toNat + b < 2147483648 := by clear hs; omega
  have rg4 : -2147483648 ≤ gbof S t - 0 + b ∧ gbof S t - 0 + b < 2147483648 := by clear hs; omega
  have rg5 : -2147483648 ≤ S 3 t.toNat ∧ S 3 t.toNat < 2147483648 := by clear hs; omega
  have rg6 : -2147483648 ≤ S 5 key.toNat ∧ S 5 key.toNat < 2147483648 := by clear hs; omega
  have hkx : key = (key.toNat : Int) := by omega
  have hkl : key.toNat < 1000 := by omega
  have htx : t = (t.toNat : Int) := by omega
  have htl : t.toNat < 4 := by omega
  have h8r : -2147483648 ≤ S 8 j ∧ S 8 j < 2147483648 := by omega
  have hj18 : j < 18 := by omega
  have hlg : -2147483648 ≤ S 0 8 ∧ S 0 8 < 2147483648 := by omega
  have hk9 : (key.toNat : Int) = key := by omega
  have hU1 : gW1 (swr S key.toNat j t b) := h1
  have hU2 : gW2 (swr S key.toNat j t b) := gW2_wr h2 key.toNat j (by omega) (by omega)
  have hUe : swr S key.toNat j t b 0 13 = ns := e13
  have hU9 : swr S key.toNat j t b 9 j = S 9 j := rfl
  have hU10 : swr S key.toNat j t b 10 j = S 10 j := rfl
  have K : gG w m 8 Wp (gwr h (swr S key.toNat j t b)) 0 0 [some (.ref 34), some (.int (iI key)), some (.int (iI t)), some (.int (iI b)), some (.int (iI 1)), some (.int (iI 1)), some (.int (iI (j : Int))), some (.int (iI 1))] [] 263 := by
    generalize swr S key.toNat j t b = U at hU1 hU2 hUe hU9 hU10 C
    have hu := hU1 j
    have huh := gheld_le hU1 hU2 (by omega) (U 9 j)
    have hur := (hU2 (U 9 j).toNat).1
    by_cases e9 : U 9 j ≠ -1 ∧ key < U 10 j
    · by_cases e1 : U 1 (U 9 j).toNat < gheld U (U 9 j)
      · rw [show swf U key j = su (su U 9 j (-1)) 0 10 (U 0 10 + 1) from if_pos ⟨e9.1, e9.2, e1⟩] at C
        refine g_aload_n C 0 dX6_write_263 rfl rfl ?_
        refine g_iload C dX6_write_264 rfl ?_
        refine g_iload_n C 1 dX6_write_266 rfl rfl ?_
        refine m_call C hS [_, _] _ (kX6_107 rfl) (c6_isCopied_t hS hU1 key hkey j j rfl (by omega) (by omega)) rfl rfl (by decide) (Nat.le_refl _) (Nat.le_refl _) (Nat.le_of_ble_eq_true rfl) dX6_write_267 ?_
        refine g_if_eq C 305 dX6_write_270 (by decide) (by omega) (fun c270 => ?_) (fun c270 => ?_)
        · omega
        · refine g_aload_n C 0 dX6_write_273 rfl rfl ?_
          refine g_aload_n C 0 dX6_write_274 rfl rfl ?_
          refine m_arr C hS 9 (by omega) (by omega) (fX6_39 rfl) rfl dX6_write_275 ?_
          refine g_iload C dX6_write_278 rfl ?_
          refine m_iald C hS (by omega) rfl (by omega) j (by omega) (by omega) dX6_write_280 ?_
          refine m_call C hS [_] _ (kX6_98 rfl) (c6_held hS hU1 (by omega) (U 9 j) (by omega)) rfl rfl (by decide) (Nat.le_refl _) (Nat.le_refl _) (Nat.le_of_ble_eq_true rfl) dX6_write_281 ?_
          refine g_aload_n C 0 dX6_write_284 rfl rfl ?_
          refine m_arr C hS 1 (by omega) (by omega) (fX6_7 rfl) rfl dX6_write_285 ?_
          refine g_aload_n C 0 dX6_write_288 rfl rfl ?_
          refine m_arr C hS 9 (by omega) (by omega) (fX6_39 rfl) rfl dX6_write_289 ?_
          refine g_iload C dX6_write_292 rfl ?_
          refine m_iald C hS (by omega) rfl (by omega) j (by omega) (by omega) dX6_write_294 ?_
          refine m_iald C hS (by omega) rfl (by omega) (U 9 j).toNat (by omega) (by omega) dX6_write_295 ?_
          refine g_icmp_le C 305 dX6_write_296 (by decide) (by omega) (by omega) (fun c296 => ?_) (fun c296 => ?_)
          · omega
          · refine g_aload_n C 0 dX6_write_299 rfl rfl ?_
            refine g_iload C dX6_write_300 rfl ?_
            refine m_call C hS [_] _ (kX6_82 rfl) (c6_rollBack hS j j rfl (by omega)) rfl rfl (by decide) (Nat.le_refl _) (Nat.le_refl _) (Nat.le_of_ble_eq_true rfl) dX6_write_302 ?_
            refine g_aload_n C 0 dX6_write_305 rfl rfl ?_
            refine g_iload_n C 2 dX6_write_306 rfl rfl ?_
            refine m_call C hS [_] _ (kX6_101 rfl) (c6_bytesOf hS (gW2_roll hU2 j _) t (by omega)) rfl rfl (by decide) (Nat.le_refl _) (Nat.le_refl _) (Nat.le_of_ble_eq_true rfl) dX6_write_307 ?_
            exact g_iret C dX6_write_310 (Nat.le_refl _) (Nat.le_refl _) ⟨rfl, rfl⟩
      · rw [show swf U key j = U from if_neg (fun z => e1 z.2.2)] at C
        refine g_aload_n C 0 dX6_write_263 rfl rfl ?_
        refine g_iload C dX6_write_264 rfl ?_
        refine g_iload_n C 1 dX6_write_266 rfl rfl ?_
        refine m_call C hS [_, _] _ (kX6_107 rfl) (c6_isCopied_t hS hU1 key hkey j j rfl (by omega) (by omega)) rfl rfl (by decide) (Nat.le_refl _) (Nat.le_refl _) (Nat.le_of_ble_eq_true rfl) dX6_write_267 ?_
        refine g_if_eq C 305 dX6_write_270 (by decide) (by omega) (fun c270 => ?_) (fun c270 => ?_)
        · omega
        · refine g_aload_n C 0 dX6_write_273 rfl rfl ?_
          refine g_aload_n C 0 dX6_write_274 rfl rfl ?_
          refine m_arr C hS 9 (by omega) (by omega) (fX6_39 rfl) rfl dX6_write_275 ?_
          refine g_iload C dX6_write_278 rfl ?_
          refine m_iald C hS (by omega) rfl (by omega) j (by omega) (by omega) dX6_write_280 ?_
          refine m_call C hS [_] _ (kX6_98 rfl) (c6_held hS hU1 (by omega) (U 9 j) (by omega)) rfl rfl (by decide) (Nat.le_refl _) (Nat.le_refl _) (Nat.le_of_ble_eq_true rfl) dX6_write_281 ?_
          refine g_aload_n C 0 dX6_write_284 rfl rfl ?_
          refine m_arr C hS 1 (by omega) (by omega) (fX6_7 rfl) rfl dX6_write_285 ?_
          refine g_aload_n C 0 dX6_write_288 rfl rfl ?_
          refine m_arr C hS 9 (by omega) (by omega) (fX6_39 rfl) rfl dX6_write_289 ?_
          refine g_iload C dX6_write_292 rfl ?_
          refine m_iald C hS (by omega) rfl (by omega) j (by omega) (by omega) dX6_write_294 ?_
          refine m_iald C hS (by omega) rfl (by omega) (U 9 j).toNat (by omega) (by omega) dX6_write_295 ?_
          refine g_icmp_le C 305 dX6_write_296 (by decide) (by omega) (by omega) (fun c296 => ?_) (fun c296 => ?_)
          · refine g_aload_n C 0 dX6_write_305 rfl rfl ?_
            refine g_iload_n C 2 dX6_write_306 rfl rfl ?_
            refine m_call C hS [_] _ (kX6_101 rfl) (c6_bytesOf hS hU2 t (by omega)) rfl rfl (by decide) (Nat.le_refl _) (Nat.le_refl _) (Nat.le_of_ble_eq_true rfl) dX6_write_307 ?_
            exact g_iret C dX6_write_310 (Nat.le_refl _) (Nat.le_refl _) ⟨rfl, rfl⟩
          · omega
    · rw [show swf U key j = U from if_neg (fun z => e9 ⟨z.1, z.2.1⟩)] at C
      refine g_aload_n C 0 dX6_write_263 rfl rfl ?_
      refine g_iload C dX6_write_264 rfl ?_
      refine g_iload_n C 1 dX6_write_266 rfl rfl ?_
      refine m_call C hS [_, _] _ (kX6_107 rfl) (c6_isCopied_f hS hU1 key hkey j j rfl (by omega) (by omega)) rfl rfl (by decide) (Nat.le_refl _) (Nat.le_refl _) (Nat.le_of_ble_eq_true rfl) dX6_write_267 ?_
      refine g_if_eq C 305 dX6_write_270 (by decide) (by omega) (fun c270 => ?_) (fun c270 => ?_)
      · refine g_aload_n C 0 dX6_write_305 rfl rfl ?_
        refine g_iload_n C 2 dX6_write_306 rfl rfl ?_
        refine m_call C hS [_] _ (kX6_101 rfl) (c6_bytesOf hS hU2 t (by omega)) rfl rfl (by decide) (Nat.le_refl _) (Nat.le_refl _) (Nat.le_of_ble_eq_true rfl) dX6_write_307 ?_
        exact g_iret C dX6_write_310 (Nat.le_refl _) (Nat.le_refl _) ⟨rfl, rfl⟩
      · omega
  show gG w m 8 Wp (gwr h S) 0 0 [some (.ref 34), some (.int (iI key)), some (.int (iI t)), some (.int (iI b)), none, none, none, none] [] 0
  refine g_iload_n C 1 dX6_write_0 rfl rfl ?_
  refine m_callS C [_] _ (kX6_92 rfl) rfl (c6_isKey_t key hkey (by omega)) rfl rfl (by decide) (Nat.le_refl _) (Nat.le_refl _) (Nat.le_of_ble_eq_true rfl) dX6_write_1 ?_
  refine g_if_eq C 18 dX6_write_4 (by decide) (by omega) (fun c4 => ?_) (fun c4 => ?_)
  · omega
  · refine g_iload_n C 2 dX6_write_7 rfl rfl ?_
    refine m_callS C [_] _ (kX6_86 rfl) rfl (c6_isTenant_t t ht (by omega)) rfl rfl (by decide) (Nat.le_refl _) (Nat.le_refl _) (Nat.le_of_ble_eq_true rfl) dX6_write_8 ?_
    refine g_if_eq C 18 dX6_write_11 (by decide) (by omega) (fun c11 => ?_) (fun c11 => ?_)
    · omega
    · refine g_iconst C dX6_write_14 ?_
      refine g_goto C 19 dX6_write_15 (by decide) ?_
      refine s_istore (lo' := [_, _, _, _, _, _, _, _]) C dX6_write_19 (by decide) rfl ?_
      refine g_iload_n C 3 dX6_write_21 rfl rfl ?_
      refine g_iconst C dX6_write_22 ?_
      refine g_bipush C dX6_write_23 (by decide) ?_
      refine m_callS C [_, _, _] _ (kX6_54 rfl) rfl (c6_in_t b 1 100 hb (by omega) (by omega) (by omega)) rfl rfl (by decide) (Nat.le_refl _) (Nat.le_refl _) (Nat.le_of_ble_eq_true rfl) dX6_write_25 ?_
      refine s_istore (lo' := [_, _, _, _, _, _, _, _]) C dX6_write_28 (by decide) rfl ?_
      refine g_iload C dX6_write_30 rfl ?_
      refine g_if_eq C 43 dX6_write_32 (by decide) (by omega) (fun c32 => ?_) (fun c32 => ?_)
      · omega
      · refine g_aload_n C 0 dX6_write_35 rfl rfl ?_
        refine g_iload_n C 1 dX6_write_36 rfl rfl ?_
        refine m_call C hS [_] _ (kX6_95 rfl) (c6_shardAt hS key (by omega) j (by omega) (fun i _ => (h1 i).1) (fun i _ hi => by have := gmono2 hs hi (by omega); omega) hk2) rfl rfl (by decide) (Nat.le_refl _) (Nat.le_refl _) (Nat.le_of_ble_eq_true rfl) dX6_write_37 ?_
        refine g_goto C 44 dX6_write_40 (by decide) ?_
        refine s_istore (lo' := [_, _, _, _, _, _, _, _]) C dX6_write_44 (by decide) rfl ?_
        refine g_iload C dX6_write_46 rfl ?_
        refine g_if_eq C 82 dX6_write_48 (by decide) (by omega) (fun c48 => ?_) (fun c48 => ?_)
        · omega
        · refine g_iload C dX6_write_51 rfl ?_
          refine g_if_eq C 82 dX6_write_53 (by decide) (by omega) (fun c53 => ?_) (fun c53 => ?_)
          · omega
          · refine g_aload_n C 0 dX6_write_56 rfl rfl ?_
            refine m_fld C hS (fX6_58 rfl) rfl dX6_write_57 ?_
            refine g_if_le C 82 dX6_write_60 (by decide) (by omega) (fun c60 => ?_) (fun c60 => ?_)
            · omega
            · have hr8 := hr0.2.1 (by omega)
              have hx8 : S 8 j = ((S 8 j).toNat : Int) := by omega
              have hl8 : (S 8 j).toNat < 6 := by omega
              refine g_aload_n C 0 dX6_write_63 rfl rfl ?_
              refine m_arr C hS 2 (by omega) (by omega) (fX6_13 rfl) rfl dX6_write_64 ?_
              refine g_aload_n C 0 dX6_write_67 rfl rfl ?_
              refine m_arr C hS 8 (by omega) (by omega) (fX6_36 rfl) rfl dX6_write_68 ?_
              refine g_iload C dX6_write_71 rfl ?_
              refine m_iald C hS (by omega) rfl (by omega) j rfl hj18 dX6_write_73 ?_
              refine m_bald C hS (S 8 j).toNat hx8 hl8 dX6_write_74 ?_
              refine g_if_ne C 82 dX6_write_75 (by decide) hd3 (fun c75 => ?_) (fun c75 => ?_)
              · omega
              · refine g_iconst C dX6_write_78 ?_
                refine g_goto C 83 dX6_write_79 (by decide) ?_
                refine s_istore (lo' := [_, _, _, _, _, _, _, _]) C dX6_write_83 (by decide) rfl ?_
                refine g_iload C dX6_write_85 rfl ?_
                refine g_if_eq C 129 dX6_write_87 (by decide) (by omega) (fun c87 => ?_) (fun c87 => ?_)
                · omega
                · refine g_aload_n C 0 dX6_write_90 rfl rfl ?_
                  refine g_aload_n C 0 dX6_write_91 rfl rfl ?_
                  refine m_arr C hS 8 (by omega) (by omega) (fX6_36 rfl) rfl dX6_write_92 ?_
                  refine g_iload C dX6_write_95 rfl ?_
                  refine m_iald C hS (by omega) rfl (by omega) j rfl hj18 dX6_write_97 ?_
                  refine m_call C hS [_] _ (kX6_98 rfl) (c6_held hS h1 (by omega) (S 8 j) h8r) rfl rfl (by decide) (Nat.le_refl _) (Nat.le_refl _) (Nat.le_of_ble_eq_true rfl) dX6_write_98 ?_
                  refine g_aload_n C 0 dX6_write_101 rfl rfl ?_
                  refine m_arr C hS 6 (by omega) (by omega) (fX6_26 rfl) rfl dX6_write_102 ?_
                  refine g_iload_n C 1 dX6_write_105 rfl rfl ?_
                  refine m_iald C hS (by omega) rfl (by omega) key.toNat hkx hkl dX6_write_106 ?_
                  refine g_isub C dX6_write_107 ?_
                  refine g_iload_n C 3 dX6_write_108 rfl rfl ?_
                  refine g_iadd C dX6_write_109 ?_
                  refine g_aload_n C 0 dX6_write_110 rfl rfl ?_
                  refine m_arr C hS 1 (by omega) (by omega) (fX6_7 rfl) rfl dX6_write_111 ?_
                  refine g_aload_n C 0 dX6_write_114 rfl rfl ?_
                  refine m_arr C hS 8 (by omega) (by omega) (fX6_36 rfl) rfl dX6_write_115 ?_
                  refine g_iload C dX6_write_118 rfl ?_
                  refine m_iald C hS (by omega) rfl (by omega) j rfl hj18 dX6_write_120 ?_
                  refine m_iald C hS (by omega) rfl (by omega) (S 8 j).toNat hx8 hl8 dX6_write_121 ?_
                  refine g_icmp_gt C 129 dX6_write_122 (by decide) rg1 rg2 (fun c122 => ?_) (fun c122 => ?_)
                  · omega
                  · refine g_iconst C dX6_write_125 ?_
                    refine g_goto C 130 dX6_write_126 (by decide) ?_
                    refine s_istore (lo' := [_, _, _, _, _, _, _, _]) C dX6_write_130 (by decide) rfl ?_
                    refine g_iload C dX6_write_132 rfl ?_
                    refine g_if_eq C 188 dX6_write_134 (by decide) (by omega) (fun c134 => ?_) (fun c134 => ?_)
                    · omega
                    · refine g_aload_n C 0 dX6_write_137 rfl rfl ?_
                      refine g_iload_n C 2 dX6_write_138 rfl rfl ?_
                      refine m_call C hS [_] _ (kX6_101 rfl) (c6_bytesOf hS h2 t ht) rfl rfl (by decide) (Nat.le_refl _) (Nat.le_refl _) (Nat.le_of_ble_eq_true rfl) dX6_write_139 ?_
                      refine g_aload_n C 0 dX6_write_142 rfl rfl ?_
                      refine m_arr C hS 5 (by omega) (by omega) (fX6_23 rfl) rfl dX6_write_143 ?_
                      refine g_iload_n C 1 dX6_write_146 rfl rfl ?_
                      refine m_iald C hS (by omega) rfl (by omega) key.toNat hkx hkl dX6_write_147 ?_
                      refine g_iload_n C 2 dX6_write_148 rfl rfl ?_
                      refine g_icmp_ne C 161 dX6_write_149 (by decide) rg6 ht (fun c149 => ?_) (fun c149 => ?_)
                      · have e9 : gbofF S t key.toNat = 0 := if_neg c149
                        refine g_iconst C dX6_write_161 ?_
                        refine g_isub C dX6_write_162 ?_
                        refine g_iload_n C 3 dX6_write_163 rfl rfl ?_
                        refine g_iadd C dX6_write_164 ?_
                        refine g_aload_n C 0 dX6_write_165 rfl rfl ?_
                        refine m_arr C hS 3 (by omega) (by omega) (fX6_17 rfl) rfl dX6_write_166 ?_
                        refine g_iload_n C 2 dX6_write_169 rfl rfl ?_
                        refine m_iald C hS (by omega) rfl (by omega) t.toNat htx htl dX6_write_170 ?_
                        refine g_icmp_gt C 188 dX6_write_171 (by decide) (by first | exact rg3 | exact rg4) rg5 (fun c171 => ?_) (fun c171 => ?_)
                        · omega
                        · refine g_aload_n C 0 dX6_write_174 rfl rfl ?_
                          refine m_fld C hS (fX6_104 rfl) rfl dX6_write_175 ?_
                          refine g_sipush C dX6_write_178 (by decide) ?_
                          refine g_icmp_ge C 188 dX6_write_181 (by decide) hlg (by omega) (fun c181 => ?_) (fun c181 => ?_)
                          · omega
                          · refine g_iconst C dX6_write_184 ?_
                            refine g_goto C 189 dX6_write_185 (by decide) ?_
                            refine s_istore (lo' := [_, _, _, _, _, _, _, _]) C dX6_write_189 (by decide) rfl ?_
                            refine g_aload_n C 0 dX6_write_191 rfl rfl ?_
                            refine g_iload C dX6_write_192 rfl ?_
                            refine g_if_ne C 201 dX6_write_194 (by decide) (by omega) (fun c194 => ?_) (fun c194 => ?_)
                            · refine g_iload C dX6_write_201 rfl ?_
                              refine g_if_ne C 210 dX6_write_203 (by decide) (by omega) (fun c203 => ?_) (fun c203 => ?_)
                              · refine g_iload C dX6_write_210 rfl ?_
                                refine g_if_eq C 219 dX6_write_212 (by decide) (by omega) (fun c212 => ?_) (fun c212 => ?_)
                                · omega
                                · refine g_iconst C dX6_write_215 ?_
                                  refine g_goto C 220 dX6_write_216 (by decide) ?_
                                  refine m_call C hS [_] _ (kX6_75 rfl) (c6_ref0 hS) rfl rfl (by decide) (Nat.le_refl _) (Nat.le_refl _) (Nat.le_of_ble_eq_true rfl) dX6_write_220 ?_
                                  refine g_if_eq C 228 dX6_write_223 (by decide) (by omega) (fun c223 => ?_) (fun c223 => ?_)
                                  · refine g_aload_n C 0 dX6_write_228 rfl rfl ?_
                                    refine m_arr C hS 5 (by omega) (by omega) (fX6_23 rfl) rfl dX6_write_229 ?_
                                    refine g_iload_n C 1 dX6_write_232 rfl rfl ?_
                                    refine g_iload_n C 2 dX6_write_233 rfl rfl ?_
                                    refine m_iast C hS (by omega) rfl (by omega) key.toNat (by omega) (by omega) dX6_write_234 ?_
                                    refine g_aload_n C 0 dX6_write_235 rfl rfl ?_
                                    refine m_arr C hS 6 (by omega) (by omega) (fX6_26 rfl) rfl dX6_write_236 ?_
                                    refine g_iload_n C 1 dX6_write_239 rfl rfl ?_
                                    refine g_iload_n C 3 dX6_write_240 rfl rfl ?_
                                    refine m_iast C hS (by omega) rfl (by omega) key.toNat (by omega) (by omega) dX6_write_241 ?_
                                    refine g_aload_n C 0 dX6_write_242 rfl rfl ?_
                                    refine g_dup C dX6_write_243 rfl ?_
                                    refine m_fldv C hS (fX6_104 rfl) rfl (S 0 8) rfl dX6_write_244 ?_
                                    refine g_iconst C dX6_write_247 ?_
                                    refine g_iadd C dX6_write_248 ?_
                                    refine m_put C hS (fX6_104 rfl) rfl dX6_write_249 ?_
                                    refine g_aload_n C 0 dX6_write_252 rfl rfl ?_
                                    refine m_arr C hS 12 (by omega) (by omega) (fX6_48 rfl) rfl dX6_write_253 ?_
                                    refine g_iload C dX6_write_256 rfl ?_
                                    refine g_dup2 C dX6_write_258 rfl rfl ?_
                                    refine m_ialdv C hS (by omega) rfl (by omega) j (by omega) (by omega) (S 12 j) rfl dX6_write_259 ?_
                                    refine g_iconst C dX6_write_260 ?_
                                    refine g_iadd C dX6_write_261 ?_
                                    refine m_iast C hS (by omega) rfl (by omega) j (by omega) (by omega) dX6_write_262 ?_
                                    exact K
                                  · omega
                              · omega
                            · omega
                      · have e9 : gbofF S t key.toNat = S 6 key.toNat := if_pos c149
                        refine g_aload_n C 0 dX6_write_152 rfl rfl ?_
                        refine m_arr C hS 6 (by omega) (by omega) (fX6_26 rfl) rfl dX6_write_153 ?_
                        refine g_iload_n C 1 dX6_write_156 rfl rfl ?_
                        refine m_ialdv C hS (by omega) rfl (by omega) key.toNat hkx hkl (S 6 key.toNat) rfl dX6_write_157 ?_
                        refine g_goto C 162 dX6_write_158 (by decide) ?_
                        refine g_isub C dX6_write_162 ?_
                        refine g_iload_n C 3 dX6_write_163 rfl rfl ?_
                        refine g_iadd C dX6_write_164 ?_
                        refine g_aload_n C 0 dX6_write_165 rfl rfl ?_
                        refine m_arr C hS 3 (by omega) (by omega) (fX6_17 rfl) rfl dX6_write_166 ?_
                        refine g_iload_n C 2 dX6_write_169 rfl rfl ?_
                        refine m_ialdv C hS (by omega) rfl (by omega) t.toNat htx htl (S 3 t.toNat) rfl dX6_write_170 ?_
                        refine g_icmp_gt C 188 dX6_write_171 (by decide) (by first | exact rg3 | exact rg4) rg5 (fun c171 => ?_) (fun c171 => ?_)
                        · omega
                        · refine g_aload_n C 0 dX6_write_174 rfl rfl ?_
                          refine m_fldv C hS (fX6_104 rfl) rfl (S 0 8) rfl dX6_write_175 ?_
                          refine g_sipush C dX6_write_178 (by decide) ?_
                          refine g_icmp_ge C 188 dX6_write_181 (by decide) hlg (by omega) (fun c181 => ?_) (fun c181 => ?_)
                          · omega
                          · refine g_iconst C dX6_write_184 ?_
                            refine g_goto C 189 dX6_write_185 (by decide) ?_
                            refine s_istore (lo' := [_, _, _, _, _, _, _, _]) C dX6_write_189 (by decide) rfl ?_
                            refine g_aload_n C 0 dX6_write_191 rfl rfl ?_
                            refine g_iload C dX6_write_192 rfl ?_
                            refine g_if_ne C 201 dX6_write_194 (by decide) (by omega) (fun c194 => ?_) (fun c194 => ?_)
                            · refine g_iload C dX6_write_201 rfl ?_
                              refine g_if_ne C 210 dX6_write_203 (by decide) (by omega) (fun c203 => ?_) (fun c203 => ?_)
                              · refine g_iload C dX6_write_210 rfl ?_
                                refine g_if_eq C 219 dX6_write_212 (by decide) (by omega) (fun c212 => ?_) (fun c212 => ?_)
                                · omega
                                · refine g_iconst C dX6_write_215 ?_
                                  refine g_goto C 220 dX6_write_216 (by decide) ?_
                                  refine m_call C hS [_] _ (kX6_75 rfl) (c6_ref0 hS) rfl rfl (by decide) (Nat.le_refl _) (Nat.le_refl _) (Nat.le_of_ble_eq_true rfl) dX6_write_220 ?_
                                  refine g_if_eq C 228 dX6_write_223 (by decide) (by omega) (fun c223 => ?_) (fun c223 => ?_)
                                  · refine g_aload_n C 0 dX6_write_228 rfl rfl ?_
                                    refine m_arr C hS 5 (by omega) (by omega) (fX6_23 rfl) rfl dX6_write_229 ?_
                                    refine g_iload_n C 1 dX6_write_232 rfl rfl ?_
                                    refine g_iload_n C 2 dX6_write_233 rfl rfl ?_
                                    refine m_iast C hS (by omega) rfl (by omega) key.toNat (by omega) (by omega) dX6_write_234 ?_
                                    refine g_aload_n C 0 dX6_write_235 rfl rfl ?_
                                    refine m_arr C hS 6 (by omega) (by omega) (fX6_26 rfl) rfl dX6_write_236 ?_
                                    refine g_iload_n C 1 dX6_write_239 rfl rfl ?_
                                    refine g_iload_n C 3 dX6_write_240 rfl rfl ?_
                                    refine m_iast C hS (by omega) rfl (by omega) key.toNat (by omega) (by omega) dX6_write_241 ?_
                                    refine g_aload_n C 0 dX6_write_242 rfl rfl ?_
                                    refine g_dup C dX6_write_243 rfl ?_
                                    refine m_fldv C hS (fX6_104 rfl) rfl (S 0 8) rfl dX6_write_244 ?_
                                    refine g_iconst C dX6_write_247 ?_
                                    refine g_iadd C dX6_write_248 ?_
                                    refine m_put C hS (fX6_104 rfl) rfl dX6_write_249 ?_
                                    refine g_aload_n C 0 dX6_write_252 rfl rfl ?_
                                    refine m_arr C hS 12 (by omega) (by omega) (fX6_48 rfl) rfl dX6_write_253 ?_
                                    refine g_iload C dX6_write_256 rfl ?_
                                    refine g_dup2 C dX6_write_258 rfl rfl ?_
                                    refine m_ialdv C hS (by omega) rfl (by omega) j (by omega) (by omega) (S 12 j) rfl dX6_write_259 ?_
                                    refine g_iconst C dX6_write_260 ?_
                                    refine g_iadd C dX6_write_261 ?_
                                    refine m_iast C hS (by omega) rfl (by omega) j (by omega) (by omega) dX6_write_262 ?_
                                    exact K
                                  · omega
                              · omega
                            · omega

end MD
