/-! THE REFERENCE: an hour's copying, the draw by heat (rows laid by wip/whole/gen/m5.py) -/
/-- the move of j fails -/
def srb (V : gS) (j : Nat) : gS := su (su V 9 j (-1)) 0 10 (V 0 10 + 1)
/-- one key is copied -/
def sad (V : gS) (j : Nat) : gS := su (su V 11 j (V 11 j - V 6 (V 10 j).toNat)) 10 j (V 10 j + 1)
def scp (j : Nat) : Nat → gS → Int → gS
  | 0, V, _ => V
  | n + 1, V, free => if V 9 j ≠ -1 ∧ V 10 j < V 7 (j + 1) ∧ V 6 (V 10 j).toNat ≤ V 11 j then (if free < V 6 (V 10 j).toNat then srb V j else scp j n (sad V j) (free - V 6 (V 10 j).toNat)) else V
def sfin (V : gS) (j : Nat) : gS := if V 9 j ≠ -1 ∧ V 10 j = V 7 (j + 1) then su (su (su V 8 j (V 9 j)) 9 j (-1)) 0 9 (V 0 9 + 1) else V
def scop (P : gS) (j : Nat) : gS := sfin (scp j (P 7 (j + 1) - P 10 j).toNat P (P 1 (P 9 j).toNat - gheld P (P 9 j))) j
/-- an hour's copying of the shard j, which moves -/
def scopies (S : gS) (j : Nat) : gS := scop (su S 11 j (S 11 j + 50)) j
theorem gW1_sad {V : gS} (h1 : gW1 V) (j : Nat) (h : V 10 j < V 7 (j + 1)) : gW1 (sad V j) := by
  intro i
  have a := h1 i
  have b := h1 j
  have c := h1 (j + 1)
  show (0 ≤ V 7 i ∧ _) ∧ (-1 ≤ V 8 i ∧ _) ∧ (-1 ≤ V 9 i ∧ _) ∧ (0 ≤ va_up (V 10) j (V 10 j + 1) i ∧ va_up (V 10) j (V 10 j + 1) i ≤ 1000)
  unfold va_up
  refine ⟨a.1, a.2.1, a.2.2.1, ?_⟩
  split <;> omega
theorem gsum_le2 {f : Nat → Int} {B : Int} (a : Nat) : ∀ n : Nat, (∀ i, a ≤ i → i < a + n → 0 ≤ f i ∧ f i ≤ B) → 0 ≤ gsum f a n ∧ gsum f a n ≤ n * B
  | 0, _ => by simp [gsum]
  | n + 1, hf => by
    have h1 := gsum_le2 a n (fun i h1 h2 => hf i h1 (by omega))
    have h2 := hf (a + n) (by omega) (by omega)
    rw [gsum, Int.natCast_succ, Int.add_mul]
    omega
theorem gheat_le {S : gS} {ns : Nat} (hn : S 0 13 = ns) (hns : ns ≤ 16) (h3 : ∀ i, i < ns → 0 ≤ S 12 i ∧ S 12 i ≤ 1000) (mi : Int) : 0 ≤ gheat S mi ∧ gheat S mi ≤ 16000 := by
  have h := gsum_le2 (f := gheatF S mi) (B := 1000) 0 ns (fun i _ hi => by
    have := h3 i (by omega)
    unfold gheatF
    split <;> omega)
  unfold gheat
  rw [hn, Int.toNat_natCast]
  omega
section MF
variable {w : gW} {l : Launch} {h : gH} {S : gS}

set_option maxRecDepth 100000 in
set_option maxHeartbeats 4000000 in
theorem c6_copies (hS : gShM h) (h1 : gW1 S) (h2 : gW2 S) (hn : 0 ≤ S 0 13 ∧ S 0 13 ≤ 16) (x : Int) (j : Nat) (hx : x = (j : Int)) (hj : j ≤ 15) (h9 : S 9 j ≠ -1) (hl : 0 ≤ S 11 j ∧ S 11 j ≤ 200000) : gMm w l yX6_copies cX6_copies 4 none 3 [.ref 34, .int (iI x)] h S (none) (scopies S j) := by
  refine gMm_start (by decide +kernel) (by simp [Value.category]) (Nat.le_of_ble_eq_true rfl) (fun m Wp C => ?_)
  subst hx
  have hj18 : j < 18 := by omega
  have hj17 : j + 1 < 18 := by omega
  obtain ⟨X, hXX⟩ : ∃ X, scopies S j = X := ⟨_, rfl⟩
  rw [hXX] at C
  have E : ∀ (V : gS) (free : Int) (z : Option Value), V 9 j = -1 → gW1 V → V = X → gG w m 4 Wp (gwr h V) 0 0 [some (.ref 34), some (.int (iI (j : Int))), some (.int (iI free)), z] [] 34 := by
      intro V free z h9 h1 hX
      have hv := h1 j
      have hv1 := h1 (j + 1)
      have h9r : -2147483648 ≤ V 9 j ∧ V 9 j < 2147483648 := by omega
      have h10r : -2147483648 ≤ V 10 j ∧ V 10 j < 2147483648 := by omega
      have h7r : -2147483648 ≤ V 7 (j + 1) ∧ V 7 (j + 1) < 2147483648 := by omega
      subst hX
      refine g_aload_n C 0 dX6_copies_34 rfl rfl ?_
      refine m_arr C hS 9 (by omega) (by omega) (fX6_39 rfl) rfl dX6_copies_35 ?_
      refine g_iload_n C 1 dX6_copies_38 rfl rfl ?_
      refine m_iald C hS (by omega) rfl (by omega) j rfl hj18 dX6_copies_39 ?_
      refine g_iconst C dX6_copies_40 ?_
      refine g_icmp_eq C 133 dX6_copies_41 (by decide) h9r (by omega) (fun c41 => ?_) (fun c41 => ?_)
      · refine g_aload_n C 0 dX6_copies_133 rfl rfl ?_
        refine m_arr C hS 9 (by omega) (by omega) (fX6_39 rfl) rfl dX6_copies_134 ?_
        refine g_iload_n C 1 dX6_copies_137 rfl rfl ?_
        refine m_iald C hS (by omega) rfl (by omega) j rfl hj18 dX6_copies_138 ?_
        refine g_iconst C dX6_copies_139 ?_
        refine g_icmp_eq C 189 dX6_copies_140 (by decide) h9r (by omega) (fun c140 => ?_) (fun c140 => ?_)
        · exact g_vret C dX6_copies_189 (Nat.le_refl _) (Nat.le_refl _) ⟨rfl, rfl⟩
        · omega
      · omega
  have G : ∀ (V : gS) (free : Int) (z : Option Value), gW1 V → sfin V j = X → gG w m 4 Wp (gwr h V) 0 0 [some (.ref 34), some (.int (iI (j : Int))), some (.int (iI free)), z] [] 133 := by
      intro V free z h1 hX
      have hv := h1 j
      have hv1 := h1 (j + 1)
      have h9r : -2147483648 ≤ V 9 j ∧ V 9 j < 2147483648 := by omega
      have h10r : -2147483648 ≤ V 10 j ∧ V 10 j < 2147483648 := by omega
      have h7r : -2147483648 ≤ V 7 (j + 1) ∧ V 7 (j + 1) < 2147483648 := by omega
      by_cases e9 : V 9 j ≠ -1 ∧ V 10 j = V 7 (j + 1)
      · rw [sfin, if_pos e9] at hX
        subst hX
        refine g_aload_n C 0 dX6_copies_133 rfl rfl ?_
        refine m_arr C hS 9 (by omega) (by omega) (fX6_39 rfl) rfl dX6_copies_134 ?_
        refine g_iload_n C 1 dX6_copies_137 rfl rfl ?_
        refine m_iald C hS (by omega) rfl (by omega) j rfl hj18 dX6_copies_138 ?_
        refine g_iconst C dX6_copies_139 ?_
        refine g_icmp_eq C 189 dX6_copies_140 (by decide) h9r (by omega) (fun c140 => ?_) (fun c140 => ?_)
        · omega
        · refine g_aload_n C 0 dX6_copies_143 rfl rfl ?_
          refine m_arr C hS 10 (by omega) (by omega) (fX6_42 rfl) rfl dX6_copies_144 ?_
          refine g_iload_n C 1 dX6_copies_147 rfl rfl ?_
          refine m_iald C hS (by omega) rfl (by omega) j rfl hj18 dX6_copies_148 ?_
          refine g_aload_n C 0 dX6_copies_149 rfl rfl ?_
          refine m_arr C hS 7 (by omega) (by omega) (fX6_33 rfl) rfl dX6_copies_150 ?_
          refine g_iload_n C 1 dX6_copies_153 rfl rfl ?_
          refine g_iconst C dX6_copies_154 ?_
          refine g_iadd C dX6_copies_155 ?_
          refine m_iald C hS (by omega) rfl (by omega) (j + 1) (by omega) hj17 dX6_copies_156 ?_
          refine g_icmp_ne C 189 dX6_copies_157 (by decide) h10r h7r (fun c157 => ?_) (fun c157 => ?_)
          · omega
          · refine g_aload_n C 0 dX6_copies_160 rfl rfl ?_
            refine m_arr C hS 8 (by omega) (by omega) (fX6_36 rfl) rfl dX6_copies_161 ?_
            refine g_iload_n C 1 dX6_copies_164 rfl rfl ?_
            refine g_aload_n C 0 dX6_copies_165 rfl rfl ?_
            refine m_arr C hS 9 (by omega) (by omega) (fX6_39 rfl) rfl dX6_copies_166 ?_
            refine g_iload_n C 1 dX6_copies_169 rfl rfl ?_
            refine m_iald C hS (by omega) rfl (by omega) j rfl hj18 dX6_copies_170 ?_
            refine m_iast C hS (by omega) rfl (by omega) j rfl hj18 dX6_copies_171 ?_
            refine g_aload_n C 0 dX6_copies_172 rfl rfl ?_
            refine m_arr C hS 9 (by omega) (by omega) (fX6_39 rfl) rfl dX6_copies_173 ?_
            refine g_iload_n C 1 dX6_copies_176 rfl rfl ?_
            refine g_iconst C dX6_copies_177 ?_
            refine m_iast C hS (by omega) rfl (by omega) j rfl hj18 dX6_copies_178 ?_
            refine g_aload_n C 0 dX6_copies_179 rfl rfl ?_
            refine g_dup C dX6_copies_180 rfl ?_
            refine m_fld C hS (fX6_121 rfl) rfl dX6_copies_181 ?_
            refine g_iconst C dX6_copies_184 ?_
            refine g_iadd C dX6_copies_185 ?_
            refine m_put C hS (fX6_121 rfl) rfl dX6_copies_186 ?_
            exact g_vret C dX6_copies_189 (Nat.le_refl _) (Nat.le_refl _) ⟨rfl, rfl⟩
      · rw [sfin, if_neg e9] at hX
        subst hX
        refine g_aload_n C 0 dX6_copies_133 rfl rfl ?_
        refine m_arr C hS 9 (by omega) (by omega) (fX6_39 rfl) rfl dX6_copies_134 ?_
        refine g_iload_n C 1 dX6_copies_137 rfl rfl ?_
        refine m_iald C hS (by omega) rfl (by omega) j rfl hj18 dX6_copies_138 ?_
        refine g_iconst C dX6_copies_139 ?_
        refine g_icmp_eq C 189 dX6_copies_140 (by decide) h9r (by omega) (fun c140 => ?_) (fun c140 => ?_)
        · exact g_vret C dX6_copies_189 (Nat.le_refl _) (Nat.le_refl _) ⟨rfl, rfl⟩
        · refine g_aload_n C 0 dX6_copies_143 rfl rfl ?_
          refine m_arr C hS 10 (by omega) (by omega) (fX6_42 rfl) rfl dX6_copies_144 ?_
          refine g_iload_n C 1 dX6_copies_147 rfl rfl ?_
          refine m_iald C hS (by omega) rfl (by omega) j rfl hj18 dX6_copies_148 ?_
          refine g_aload_n C 0 dX6_copies_149 rfl rfl ?_
          refine m_arr C hS 7 (by omega) (by omega) (fX6_33 rfl) rfl dX6_copies_150 ?_
          refine g_iload_n C 1 dX6_copies_153 rfl rfl ?_
          refine g_iconst C dX6_copies_154 ?_
          refine g_iadd C dX6_copies_155 ?_
          refine m_iald C hS (by omega) rfl (by omega) (j + 1) (by omega) hj17 dX6_copies_156 ?_
          refine g_icmp_ne C 189 dX6_copies_157 (by decide) h10r h7r (fun c157 => ?_) (fun c157 => ?_)
          · exact g_vret C dX6_copies_189 (Nat.le_refl _) (Nat.le_refl _) ⟨rfl, rfl⟩
          · omega
  have L : ∀ (n : Nat) (V : gS) (free : Int) (z : Option Value), (V 7 (j + 1) - V 10 j).toNat ≤ n → gW1 V → gW2 V → (0 ≤ V 11 j ∧ V 11 j ≤ 300000) → (-4000000 ≤ free ∧ free ≤ 10000) → sfin (scp j n V free) j = X → gG w m 4 Wp (gwr h V) 0 0 [some (.ref 34), some (.int (iI (j : Int))), some (.int (iI free)), z] [] 34 := by
    intro n
    induction n with
    | zero =>
      intro V free z hn h1 h2 h11 hfr9 hX
      have hv := h1 j
      have hv1 := h1 (j + 1)
      have h9r : -2147483648 ≤ V 9 j ∧ V 9 j < 2147483648 := by omega
      have h10r : -2147483648 ≤ V 10 j ∧ V 10 j < 2147483648 := by omega
      have h7r : -2147483648 ≤ V 7 (j + 1) ∧ V 7 (j + 1) < 2147483648 := by omega
      have hG := fun z => G V free z h1 hX
      refine g_aload_n C 0 dX6_copies_34 rfl rfl ?_
      refine m_arr C hS 9 (by omega) (by omega) (fX6_39 rfl) rfl dX6_copies_35 ?_
      refine g_iload_n C 1 dX6_copies_38 rfl rfl ?_
      refine m_iald C hS (by omega) rfl (by omega) j rfl hj18 dX6_copies_39 ?_
      refine g_iconst C dX6_copies_40 ?_
      refine g_icmp_eq C 133 dX6_copies_41 (by decide) h9r (by omega) (fun c41 => ?_) (fun c41 => ?_)
      · exact hG _
      · refine g_aload_n C 0 dX6_copies_44 rfl rfl ?_
        refine m_arr C hS 10 (by omega) (by omega) (fX6_42 rfl) rfl dX6_copies_45 ?_
        refine g_iload_n C 1 dX6_copies_48 rfl rfl ?_
        refine m_iald C hS (by omega) rfl (by omega) j rfl hj18 dX6_copies_49 ?_
        refine g_aload_n C 0 dX6_copies_50 rfl rfl ?_
        refine m_arr C hS 7 (by omega) (by omega) (fX6_33 rfl) rfl dX6_copies_51 ?_
        refine g_iload_n C 1 dX6_copies_54 rfl rfl ?_
        refine g_iconst C dX6_copies_55 ?_
        refine g_iadd C dX6_copies_56 ?_
        refine m_iald C hS (by omega) rfl (by omega) (j + 1) (by omega) hj17 dX6_copies_57 ?_
        refine g_icmp_ge C 133 dX6_copies_58 (by decide) h10r h7r (fun c58 => ?_) (fun c58 => ?_)
        · exact hG _
        · omega
    | succ n ih =>
      intro V free z hn h1 h2 h11 hfr9 hX
      have hv := h1 j
      have hv1 := h1 (j + 1)
      have h9r : -2147483648 ≤ V 9 j ∧ V 9 j < 2147483648 := by omega
      have h10r : -2147483648 ≤ V 10 j ∧ V 10 j < 2147483648 := by omega
      have h7r : -2147483648 ≤ V 7 (j + 1) ∧ V 7 (j + 1) < 2147483648 := by omega
      have h6 := (h2 (V 10 j).toNat).2.2.2.2
      have h6r : -2147483648 ≤ V 6 (V 10 j).toNat ∧ V 6 (V 10 j).toNat < 2147483648 := by omega
      have h11r : -2147483648 ≤ V 11 j ∧ V 11 j < 2147483648 := by omega
      have hfr : -2147483648 ≤ free ∧ free < 2147483648 := by omega
      have hx10 : V 10 j = ((V 10 j).toNat : Int) := by omega
      by_cases ec : V 9 j ≠ -1 ∧ V 10 j < V 7 (j + 1) ∧ V 6 (V 10 j).toNat ≤ V 11 j
      · have hl10 : (V 10 j).toNat < 1000 := by omega
        by_cases ef : free < V 6 (V 10 j).toNat
        · rw [scp, if_pos ec, if_pos ef] at hX
          refine g_aload_n C 0 dX6_copies_34 rfl rfl ?_
          refine m_arr C hS 9 (by omega) (by omega) (fX6_39 rfl) rfl dX6_copies_35 ?_
          refine g_iload_n C 1 dX6_copies_38 rfl rfl ?_
          refine m_iald C hS (by omega) rfl (by omega) j rfl hj18 dX6_copies_39 ?_
          refine g_iconst C dX6_copies_40 ?_
          refine g_icmp_eq C 133 dX6_copies_41 (by decide) h9r (by omega) (fun c41 => ?_) (fun c41 => ?_)
          · omega
          · refine g_aload_n C 0 dX6_copies_44 rfl rfl ?_
            refine m_arr C hS 10 (by omega) (by omega) (fX6_42 rfl) rfl dX6_copies_45 ?_
            refine g_iload_n C 1 dX6_copies_48 rfl rfl ?_
            refine m_iald C hS (by omega) rfl (by omega) j rfl hj18 dX6_copies_49 ?_
            refine g_aload_n C 0 dX6_copies_50 rfl rfl ?_
            refine m_arr C hS 7 (by omega) (by omega) (fX6_33 rfl) rfl dX6_copies_51 ?_
            refine g_iload_n C 1 dX6_copies_54 rfl rfl ?_
            refine g_iconst C dX6_copies_55 ?_
            refine g_iadd C dX6_copies_56 ?_
            refine m_iald C hS (by omega) rfl (by omega) (j + 1) (by omega) hj17 dX6_copies_57 ?_
            refine g_icmp_ge C 133 dX6_copies_58 (by decide) h10r h7r (fun c58 => ?_) (fun c58 => ?_)
            · omega
            · refine g_aload_n C 0 dX6_copies_61 rfl rfl ?_
              refine m_arr C hS 6 (by omega) (by omega) (fX6_26 rfl) rfl dX6_copies_62 ?_
              refine g_aload_n C 0 dX6_copies_65 rfl rfl ?_
              refine m_arr C hS 10 (by omega) (by omega) (fX6_42 rfl) rfl dX6_copies_66 ?_
              refine g_iload_n C 1 dX6_copies_69 rfl rfl ?_
              refine m_iald C hS (by omega) rfl (by omega) j rfl hj18 dX6_copies_70 ?_
              refine m_iald C hS (by omega) rfl (by omega) (V 10 j).toNat hx10 hl10 dX6_copies_71 ?_
              refine g_aload_n C 0 dX6_copies_72 rfl rfl ?_
              refine m_arr C hS 11 (by omega) (by omega) (fX6_45 rfl) rfl dX6_copies_73 ?_
              refine g_iload_n C 1 dX6_copies_76 rfl rfl ?_
              refine m_iald C hS (by omega) rfl (by omega) j rfl hj18 dX6_copies_77 ?_
              refine g_icmp_gt C 133 dX6_copies_78 (by decide) h6r h11r (fun c78 => ?_) (fun c78 => ?_)
              · omega
              · refine g_aload_n C 0 dX6_copies_81 rfl rfl ?_
                refine m_arr C hS 6 (by omega) (by omega) (fX6_26 rfl) rfl dX6_copies_82 ?_
                refine g_aload_n C 0 dX6_copies_85 rfl rfl ?_
                refine m_arr C hS 10 (by omega) (by omega) (fX6_42 rfl) rfl dX6_copies_86 ?_
                refine g_iload_n C 1 dX6_copies_89 rfl rfl ?_
                refine m_iald C hS (by omega) rfl (by omega) j rfl hj18 dX6_copies_90 ?_
                refine m_iald C hS (by omega) rfl (by omega) (V 10 j).toNat hx10 hl10 dX6_copies_91 ?_
                refine s_istore_n (lo' := [_, _, _, _]) C 3 dX6_copies_92 rfl (by decide) rfl ?_
                refine g_iload_n C 3 dX6_copies_93 rfl rfl ?_
                refine g_iload_n C 2 dX6_copies_94 rfl rfl ?_
                refine g_icmp_le C 106 dX6_copies_95 (by decide) h6r hfr (fun c95 => ?_) (fun c95 => ?_)
                · omega
                · refine g_aload_n C 0 dX6_copies_98 rfl rfl ?_
                  refine g_iload_n C 1 dX6_copies_99 rfl rfl ?_
                  refine m_call C hS [_] _ (kX6_82 rfl) (c6_rollBack hS j j rfl (by omega)) rfl rfl (by decide) (Nat.le_refl _) (Nat.le_refl _) (Nat.le_of_ble_eq_true rfl) dX6_copies_100 ?_
                  refine g_goto C 130 dX6_copies_103 (by decide) ?_
                  refine g_goto C 34 dX6_copies_130 (by decide) ?_
                  exact E (srb V j) free _ (by show va_up (V 9) j (-1) j = -1; exact if_pos rfl) (gW1_roll h1 j _) (by rw [← hX, sfin, if_neg (fun q => q.1 (by show va_up (V 9) j (-1) j = -1; exact if_pos rfl))])
        · rw [scp, if_pos ec, if_neg ef] at hX
          refine g_aload_n C 0 dX6_copies_34 rfl rfl ?_
          refine m_arr C hS 9 (by omega) (by omega) (fX6_39 rfl) rfl dX6_copies_35 ?_
          refine g_iload_n C 1 dX6_copies_38 rfl rfl ?_
          refine m_iald C hS (by omega) rfl (by omega) j rfl hj18 dX6_copies_39 ?_
          refine g_iconst C dX6_copies_40 ?_
          refine g_icmp_eq C 133 dX6_copies_41 (by decide) h9r (by omega) (fun c41 => ?_) (fun c41 => ?_)
          · omega
          · refine g_aload_n C 0 dX6_copies_44 rfl rfl ?_
            refine m_arr C hS 10 (by omega) (by omega) (fX6_42 rfl) rfl dX6_copies_45 ?_
            refine g_iload_n C 1 dX6_copies_48 rfl rfl ?_
            refine m_iald C hS (by omega) rfl (by omega) j rfl hj18 dX6_copies_49 ?_
            refine g_aload_n C 0 dX6_copies_50 rfl rfl ?_
            refine m_arr C hS 7 (by omega) (by omega) (fX6_33 rfl) rfl dX6_copies_51 ?_
            refine g_iload_n C 1 dX6_copies_54 rfl rfl ?_
            refine g_iconst C dX6_copies_55 ?_
            refine g_iadd C dX6_copies_56 ?_
            refine m_iald C hS (by omega) rfl (by omega) (j + 1) (by omega) hj17 dX6_copies_57 ?_
            refine g_icmp_ge C 133 dX6_copies_58 (by decide) h10r h7r (fun c58 => ?_) (fun c58 => ?_)
            · omega
            · refine g_aload_n C 0 dX6_copies_61 rfl rfl ?_
              refine m_arr C hS 6 (by omega) (by omega) (fX6_26 rfl) rfl dX6_copies_62 ?_
              refine g_aload_n C 0 dX6_copies_65 rfl rfl ?_
              refine m_arr C hS 10 (by omega) (by omega) (fX6_42 rfl) rfl dX6_copies_66 ?_
              refine g_iload_n C 1 dX6_copies_69 rfl rfl ?_
              refine m_iald C hS (by omega) rfl (by omega) j rfl hj18 dX6_copies_70 ?_
              refine m_iald C hS (by omega) rfl (by omega) (V 10 j).toNat hx10 hl10 dX6_copies_71 ?_
              refine g_aload_n C 0 dX6_copies_72 rfl rfl ?_
              refine m_arr C hS 11 (by omega) (by omega) (fX6_45 rfl) rfl dX6_copies_73 ?_
              refine g_iload_n C 1 dX6_copies_76 rfl rfl ?_
              refine m_iald C hS (by omega) rfl (by omega) j rfl hj18 dX6_copies_77 ?_
              refine g_icmp_gt C 133 dX6_copies_78 (by decide) h6r h11r (fun c78 => ?_) (fun c78 => ?_)
              · omega
              · refine g_aload_n C 0 dX6_copies_81 rfl rfl ?_
                refine m_arr C hS 6 (by omega) (by omega) (fX6_26 rfl) rfl dX6_copies_82 ?_
                refine g_aload_n C 0 dX6_copies_85 rfl rfl ?_
                refine m_arr C hS 10 (by omega) (by omega) (fX6_42 rfl) rfl dX6_copies_86 ?_
                refine g_iload_n C 1 dX6_copies_89 rfl rfl ?_
                refine m_iald C hS (by omega) rfl (by omega) j rfl hj18 dX6_copies_90 ?_
                refine m_iald C hS (by omega) rfl (by omega) (V 10 j).toNat hx10 hl10 dX6_copies_91 ?_
                refine s_istore_n (lo' := [_, _, _, _]) C 3 dX6_copies_92 rfl (by decide) rfl ?_
                refine g_iload_n C 3 dX6_copies_93 rfl rfl ?_
                refine g_iload_n C 2 dX6_copies_94 rfl rfl ?_
                refine g_icmp_le C 106 dX6_copies_95 (by decide) h6r hfr (fun c95 => ?_) (fun c95 => ?_)
                · refine g_iload_n C 2 dX6_copies_106 rfl rfl ?_
                  refine g_iload_n C 3 dX6_copies_107 rfl rfl ?_
                  refine g_isub C dX6_copies_108 ?_
                  refine s_istore_n (lo' := [_, _, _, _]) C 2 dX6_copies_109 rfl (by decide) rfl ?_
                  refine g_aload_n C 0 dX6_copies_110 rfl rfl ?_
                  refine m_arr C hS 11 (by omega) (by omega) (fX6_45 rfl) rfl dX6_copies_111 ?_
                  refine g_iload_n C 1 dX6_copies_114 rfl rfl ?_
                  refine g_dup2 C dX6_copies_115 rfl rfl ?_
                  refine m_iald C hS (by omega) rfl (by omega) j rfl hj18 dX6_copies_116 ?_
                  refine g_iload_n C 3 dX6_copies_117 rfl rfl ?_
                  refine g_isub C dX6_copies_118 ?_
                  refine m_iast C hS (by omega) rfl (by omega) j rfl hj18 dX6_copies_119 ?_
                  refine g_aload_n C 0 dX6_copies_120 rfl rfl ?_
                  refine m_arr C hS 10 (by omega) (by omega) (fX6_42 rfl) rfl dX6_copies_121 ?_
                  refine g_iload_n C 1 dX6_copies_124 rfl rfl ?_
                  refine g_dup2 C dX6_copies_125 rfl rfl ?_
                  refine m_iald C hS (by omega) rfl (by omega) j rfl hj18 dX6_copies_126 ?_
                  refine g_iconst C dX6_copies_127 ?_
                  refine g_iadd C dX6_copies_128 ?_
                  refine m_iast C hS (by omega) rfl (by omega) j rfl hj18 dX6_copies_129 ?_
                  refine g_goto C 34 dX6_copies_130 (by decide) ?_
                  exact ih (sad V j) (free - V 6 (V 10 j).toNat) _ (by show (V 7 (j + 1) - va_up (V 10) j (V 10 j + 1) j).toNat ≤ n; rw [va_up, if_pos rfl]; omega) (gW1_sad h1 j ec.2.1) h2 (by show 0 ≤ va_up (V 11) j _ j ∧ va_up (V 11) j _ j ≤ 300000; rw [va_up, if_pos rfl]; omega) (by omega) hX
                · omega
      · rw [scp, if_neg ec] at hX
        have hG := fun z => G V free z h1 hX
        have hl10 : V 10 j < V 7 (j + 1) → (V 10 j).toNat < 1000 := by omega
        refine g_aload_n C 0 dX6_copies_34 rfl rfl ?_
        refine m_arr C hS 9 (by omega) (by omega) (fX6_39 rfl) rfl dX6_copies_35 ?_
        refine g_iload_n C 1 dX6_copies_38 rfl rfl ?_
        refine m_iald C hS (by omega) rfl (by omega) j rfl hj18 dX6_copies_39 ?_
        refine g_iconst C dX6_copies_40 ?_
        refine g_icmp_eq C 133 dX6_copies_41 (by decide) h9r (by omega) (fun c41 => ?_) (fun c41 => ?_)
        · exact hG _
        · refine g_aload_n C 0 dX6_copies_44 rfl rfl ?_
          refine m_arr C hS 10 (by omega) (by omega) (fX6_42 rfl) rfl dX6_copies_45 ?_
          refine g_iload_n C 1 dX6_copies_48 rfl rfl ?_
          refine m_iald C hS (by omega) rfl (by omega) j rfl hj18 dX6_copies_49 ?_
          refine g_aload_n C 0 dX6_copies_50 rfl rfl ?_
          refine m_arr C hS 7 (by omega) (by omega) (fX6_33 rfl) rfl dX6_copies_51 ?_
          refine g_iload_n C 1 dX6_copies_54 rfl rfl ?_
          refine g_iconst C dX6_copies_55 ?_
          refine g_iadd C dX6_copies_56 ?_
          refine m_iald C hS (by omega) rfl (by omega) (j + 1) (by omega) hj17 dX6_copies_57 ?_
          refine g_icmp_ge C 133 dX6_copies_58 (by decide) h10r h7r (fun c58 => ?_) (fun c58 => ?_)
          · exact hG _
          · refine g_aload_n C 0 dX6_copies_61 rfl rfl ?_
            refine m_arr C hS 6 (by omega) (by omega) (fX6_26 rfl) rfl dX6_copies_62 ?_
            refine g_aload_n C 0 dX6_copies_65 rfl rfl ?_
            refine m_arr C hS 10 (by omega) (by omega) (fX6_42 rfl) rfl dX6_copies_66 ?_
            refine g_iload_n C 1 dX6_copies_69 rfl rfl ?_
            refine m_iald C hS (by omega) rfl (by omega) j rfl hj18 dX6_copies_70 ?_
            refine m_iald C hS (by omega) rfl (by omega) (V 10 j).toNat hx10 (hl10 (by omega)) dX6_copies_71 ?_
            refine g_aload_n C 0 dX6_copies_72 rfl rfl ?_
            refine m_arr C hS 11 (by omega) (by omega) (fX6_45 rfl) rfl dX6_copies_73 ?_
            refine g_iload_n C 1 dX6_copies_76 rfl rfl ?_
            refine m_iald C hS (by omega) rfl (by omega) j rfl hj18 dX6_copies_77 ?_
            refine g_icmp_gt C 133 dX6_copies_78 (by decide) h6r h11r (fun c78 => ?_) (fun c78 => ?_)
            · exact hG _
            · omega
  have hj18 : j < 18 := by omega
  have hj17 : j + 1 < 18 := by omega
  have K : gG w m 4 Wp (gwr h (su S 11 j (S 11 j + 50))) 0 0 [some (.ref 34), some (.int (iI (j : Int))), none, none] [] 11 := by
    have hP1 : gW1 (su S 11 j (S 11 j + 50)) := h1
    have hP2 : gW2 (su S 11 j (S 11 j + 50)) := h2
    have hPn : 0 ≤ su S 11 j (S 11 j + 50) 0 13 ∧ su S 11 j (S 11 j + 50) 0 13 ≤ 16 := hn
    have hP9 : su S 11 j (S 11 j + 50) 9 j ≠ -1 := h9
    have hP11 : 0 ≤ su S 11 j (S 11 j + 50) 11 j ∧ su S 11 j (S 11 j + 50) 11 j ≤ 300000 := by
      show 0 ≤ va_up (S 11) j (S 11 j + 50) j ∧ va_up (S 11) j (S 11 j + 50) j ≤ 300000
      rw [va_up, if_pos rfl]; omega
    unfold scopies at hXX
    generalize su S 11 j (S 11 j + 50) = P at hP1 hP2 hPn hP9 hP11 hXX
    have hp := hP1 j
    have hpr := (hP2 (P 9 j).toNat).1
    have hph := gheld_le hP1 hP2 hPn.2 (P 9 j)
    have hx9 : P 9 j = ((P 9 j).toNat : Int) := by omega
    have hl9 : (P 9 j).toNat < 6 := by omega
    refine g_aload_n C 0 dX6_copies_11 rfl rfl ?_
    refine m_arr C hS 1 (by omega) (by omega) (fX6_7 rfl) rfl dX6_copies_12 ?_
    refine g_aload_n C 0 dX6_copies_15 rfl rfl ?_
    refine m_arr C hS 9 (by omega) (by omega) (fX6_39 rfl) rfl dX6_copies_16 ?_
    refine g_iload_n C 1 dX6_copies_19 rfl rfl ?_
    refine m_iald C hS (by omega) rfl (by omega) j rfl hj18 dX6_copies_20 ?_
    refine m_iald C hS (by omega) rfl (by omega) (P 9 j).toNat hx9 hl9 dX6_copies_21 ?_
    refine g_aload_n C 0 dX6_copies_22 rfl rfl ?_
    refine g_aload_n C 0 dX6_copies_23 rfl rfl ?_
    refine m_arr C hS 9 (by omega) (by omega) (fX6_39 rfl) rfl dX6_copies_24 ?_
    refine g_iload_n C 1 dX6_copies_27 rfl rfl ?_
    refine m_iald C hS (by omega) rfl (by omega) j rfl hj18 dX6_copies_28 ?_
    refine m_call C hS [_] _ (kX6_98 rfl) (c6_held hS hP1 hPn (P 9 j) (by omega)) rfl rfl (by decide) (Nat.le_refl _) (Nat.le_refl _) (Nat.le_of_ble_eq_true rfl) dX6_copies_29 ?_
    refine g_isub C dX6_copies_32 ?_
    refine s_istore_n (lo' := [_, _, _, _]) C 2 dX6_copies_33 rfl (by decide) rfl ?_
    exact L _ P _ none (Nat.le_refl _) hP1 hP2 hP11 (by omega) hXX
  show gG w m 4 Wp (gwr h S) 0 0 [some (.ref 34), some (.int (iI (j : Int))), none, none] [] 0
  refine g_aload_n C 0 dX6_copies_0 rfl rfl ?_
  refine m_arr C hS 11 (by omega) (by omega) (fX6_45 rfl) rfl dX6_copies_1 ?_
  refine g_iload_n C 1 dX6_copies_4 rfl rfl ?_
  refine g_dup2 C dX6_copies_5 rfl rfl ?_
  refine m_iald C hS (by omega) rfl (by omega) j rfl hj18 dX6_copies_6 ?_
  refine g_bipush C dX6_copies_7 (by decide) ?_
  refine g_iadd C dX6_copies_9 ?_
  refine m_iast C hS (by omega) rfl (by omega) j rfl hj18 dX6_copies_10 ?_
  exact K

def shot (S : gS) : Nat → Int
  | 0 => -1
  | k + 1 => if S 2 k = 0 then (if shot S k = -1 ∨ gheat S (shot S k) < gheat S k then (k : Int) else shot S k) else shot S k
def scold (S : gS) : Nat → Int
  | 0 => -1
  | k + 1 => if S 2 k = 0 then (if scold S k = -1 ∨ gheat S k < gheat S (scold S k) then (k : Int) else scold S k) else scold S k
def smv (S : gS) (hot : Int) : Nat → Int
  | 0 => 0
  | k + 1 => if smv S hot k ≠ 0 ∨ (S 8 k = hot ∧ S 9 k ≠ -1) then 1 else 0
def sbest (S : gS) (hot : Int) : Nat → Int
  | 0 => -1
  | k + 1 => if S 8 k = hot ∧ (sbest S hot k = -1 ∨ S 12 (sbest S hot k).toNat < S 12 k) then (k : Int) else sbest S hot k
theorem shot_r (S : gS) : ∀ k, -1 ≤ shot S k ∧ shot S k < k
  | 0 => by simp [shot]
  | k + 1 => by
    have h := shot_r S k
    unfold shot
    split
    · split <;> omega
    · omega
theorem scold_r (S : gS) : ∀ k, -1 ≤ scold S k ∧ scold S k < k
  | 0 => by simp [scold]
  | k + 1 => by
    have h := scold_r S k
    unfold scold
    split
    · split <;> omega
    · omega
theorem smv_r (S : gS) (hot : Int) : ∀ k, smv S hot k = 0 ∨ smv S hot k = 1
  | 0 => by simp [smv]
  | k + 1 => by
    unfold smv
    split <;> simp
theorem sbest_r (S : gS) (hot : Int) : ∀ k, -1 ≤ sbest S hot k ∧ sbest S hot k < k
  | 0 => by simp [sbest]
  | k + 1 => by
    have h := sbest_r S hot k
    unfold sbest
    split <;> omega
def sbeg (S : gS) (j : Nat) (q : Int) : gS := su (su (su S 9 j q) 10 j (S 7 j)) 11 j 0
def sdraw (S : gS) (nm ns : Nat) : gS :=
  if shot S nm = -1 ∨ gheat S (shot S nm) - gheat S (scold S nm) < S 0 7 then S
  else if smv S (shot S nm) ns = 0 ∧ sbest S (shot S nm) ns ≠ -1 ∧ 0 < S 12 (sbest S (shot S nm) ns).toNat then sbeg S (sbest S (shot S nm) ns).toNat (scold S nm) else S

set_option maxRecDepth 100000 in
set_option maxHeartbeats 4000000 in
theorem c6_draw (hS : gShM h) (h1 : gW1 S) (h2 : gW2 S) {nm ns : Nat} (e02 : S 0 2 = nm) (hnm : nm ≤ 6) (e13 : S 0 13 = ns) (hns : ns ≤ 16) (hn : 0 ≤ S 0 13 ∧ S 0 13 ≤ 16) (h7 : 0 ≤ S 0 7 ∧ S 0 7 ≤ 1000) (h3 : ∀ i, i < ns → 0 ≤ S 12 i ∧ S 12 i ≤ 1000) : gMm w l yX6_draw cX6_draw 6 none 3 [.ref 34] h S (none) (sdraw S nm ns) := by
  refine gMm_start (by decide +kernel) (by simp [Value.category]) (Nat.le_of_ble_eq_true rfl) (fun m Wp C => ?_)
  have hR : ∀ q : Int, -2147483648 ≤ gheat S q ∧ gheat S q < 2147483648 := fun q => by have := gheat_le e13 hns h3 q; omega
  have L2 : ∀ X : gS, X = (if smv S (shot S nm) ns = 0 ∧ sbest S (shot S nm) ns ≠ -1 ∧ 0 < S 12 (sbest S (shot S nm) ns).toNat then sbeg S (sbest S (shot S nm) ns).toNat (scold S nm) else S) → sdraw S nm ns = X → shot S nm ≠ -1 → ∀ (n i : Nat), i + n = ns → gG w m 6 Wp (gwr h S) 0 0 [some (.ref 34), some (.int (iI (shot S nm))), some (.int (iI (scold S nm))), some (.int (iI (sbest S (shot S nm) i))), some (.int (iI (smv S (shot S nm) i))), some (.int (iI (i : Int)))] [] 109 := by
    intro X hX hX2 hot0 n
    have hh1 := shot_r S nm
    have hh2 := scold_r S nm
    induction n with
    | zero =>
      intro i h9
      have e9 : i = ns := by omega
      subst e9
      have hb := sbest_r S (shot S nm) i
      have hm := smv_r S (shot S nm) i
      rw [hX2] at C
      by_cases ec : smv S (shot S nm) i = 0 ∧ sbest S (shot S nm) i ≠ -1 ∧ 0 < S 12 (sbest S (shot S nm) i).toNat
      · rw [if_pos ec] at hX
        subst hX
        have h3b := h3 (sbest S (shot S nm) i).toNat (by omega)
        refine g_iload C dX6_draw_109 rfl ?_
        refine g_aload_n C 0 dX6_draw_111 rfl rfl ?_
        refine m_fld C hS (fX6_29 rfl) rfl dX6_draw_112 ?_
        refine g_icmp_ge C 197 dX6_draw_115 (by decide) (by omega) (by omega) (fun c115 => ?_) (fun c115 => ?_)
        · refine g_iload C dX6_draw_197 rfl ?_
          refine g_if_ne C 222 dX6_draw_199 (by decide) (by omega) (fun c199 => ?_) (fun c199 => ?_)
          · omega
          · refine g_iload_n C 3 dX6_draw_202 rfl rfl ?_
            refine g_iconst C dX6_draw_203 ?_
            refine g_icmp_eq C 222 dX6_draw_204 (by decide) (by omega) (by omega) (fun c204 => ?_) (fun c204 => ?_)
            · omega
            · refine g_aload_n C 0 dX6_draw_207 rfl rfl ?_
              refine m_arr C hS 12 (by omega) (by omega) (fX6_48 rfl) rfl dX6_draw_208 ?_
              refine g_iload_n C 3 dX6_draw_211 rfl rfl ?_
              refine m_iald C hS (by omega) rfl (by omega) (sbest S (shot S nm) i).toNat (by omega) (by omega) dX6_draw_212 ?_
              refine g_if_le C 222 dX6_draw_213 (by decide) (by omega) (fun c213 => ?_) (fun c213 => ?_)
              · omega
              · refine g_aload_n C 0 dX6_draw_216 rfl rfl ?_
                refine g_iload_n C 3 dX6_draw_217 rfl rfl ?_
                refine g_iload_n C 2 dX6_draw_218 rfl rfl ?_
                refine m_call C hS [_, _] _ (kX6_118 rfl) (c6_begins hS (scold S nm) (sbest S (shot S nm) i) (sbest S (shot S nm) i).toNat (by omega) (by omega)) rfl rfl (by decide) (Nat.le_refl _) (Nat.le_refl _) (Nat.le_of_ble_eq_true rfl) dX6_draw_219 ?_
                exact g_vret C dX6_draw_222 (Nat.le_refl _) (Nat.le_refl _) ⟨rfl, rfl⟩
        · omega
      · rw [if_neg ec] at hX
        rw [hX] at C
        have h3b : sbest S (shot S nm) i ≠ -1 → 0 ≤ S 12 (sbest S (shot S nm) i).toNat ∧ S 12 (sbest S (shot S nm) i).toNat ≤ 1000 := fun _ => h3 (sbest S (shot S nm) i).toNat (by omega)
        refine g_iload C dX6_draw_109 rfl ?_
        refine g_aload_n C 0 dX6_draw_111 rfl rfl ?_
        refine m_fld C hS (fX6_29 rfl) rfl dX6_draw_112 ?_
        refine g_icmp_ge C 197 dX6_draw_115 (by decide) (by omega) (by omega) (fun c115 => ?_) (fun c115 => ?_)
        · refine g_iload C dX6_draw_197 rfl ?_
          refine g_if_ne C 222 dX6_draw_199 (by decide) (by omega) (fun c199 => ?_) (fun c199 => ?_)
          · exact g_vret C dX6_draw_222 (Nat.le_refl _) (Nat.le_refl _) ⟨rfl, rfl⟩
          · refine g_iload_n C 3 dX6_draw_202 rfl rfl ?_
            refine g_iconst C dX6_draw_203 ?_
            refine g_icmp_eq C 222 dX6_draw_204 (by decide) (by omega) (by omega) (fun c204 => ?_) (fun c204 => ?_)
            · exact g_vret C dX6_draw_222 (Nat.le_refl _) (Nat.le_refl _) ⟨rfl, rfl⟩
            · refine g_aload_n C 0 dX6_draw_207 rfl rfl ?_
              refine m_arr C hS 12 (by omega) (by omega) (fX6_48 rfl) rfl dX6_draw_208 ?_
              refine g_iload_n C 3 dX6_draw_211 rfl rfl ?_
              refine m_iald C hS (by omega) rfl (by omega) (sbest S (shot S nm) i).toNat (by omega) (by omega) dX6_draw_212 ?_
              refine g_if_le C 222 dX6_draw_213 (by decide) (by have := h3b (by omega); omega) (fun c213 => ?_) (fun c213 => ?_)
              · exact g_vret C dX6_draw_222 (Nat.le_refl _) (Nat.le_refl _) ⟨rfl, rfl⟩
              · omega
        · omega
    | succ n ih =>
      intro i h9
      have hb := sbest_r S (shot S nm) i
      have hm := gd01 (smv_r S (shot S nm) i)
      have hr := h1 i
      have h3i := h3 i (by omega)
      have h3b : sbest S (shot S nm) i ≠ -1 → 0 ≤ S 12 (sbest S (shot S nm) i).toNat ∧ S 12 (sbest S (shot S nm) i).toNat ≤ 1000 := fun _ => h3 (sbest S (shot S nm) i).toNat (by omega)
      refine g_iload C dX6_draw_109 rfl ?_
      refine g_aload_n C 0 dX6_draw_111 rfl rfl ?_
      refine m_fld C hS (fX6_29 rfl) rfl dX6_draw_112 ?_
      refine g_icmp_ge C 197 dX6_draw_115 (by decide) (by omega) (by omega) (fun c115 => ?_) (fun c115 => ?_)
      · omega
      · refine g_iload C dX6_draw_118 rfl ?_
        refine g_if_ne C 145 dX6_draw_120 (by decide) hm (fun c120 => ?_) (fun c120 => ?_)
        · refine g_iconst C dX6_draw_145 ?_
          refine g_goto C 150 dX6_draw_146 (by decide) ?_
          refine s_istore (lo' := [_, _, _, _, _, _]) C dX6_draw_150 (by decide) rfl ?_
          refine g_aload_n C 0 dX6_draw_152 rfl rfl ?_
          refine m_arr C hS 8 (by omega) (by omega) (fX6_36 rfl) rfl dX6_draw_153 ?_
          refine g_iload C dX6_draw_156 rfl ?_
          refine m_iald C hS (by omega) rfl (by omega) i rfl (by omega) dX6_draw_158 ?_
          refine g_iload_n C 1 dX6_draw_159 rfl rfl ?_
          refine g_icmp_ne C 189 dX6_draw_160 (by decide) (by omega) (by omega) (fun c160 => ?_) (fun c160 => ?_)
          · refine g_iload_n C 3 dX6_draw_189 rfl rfl ?_
            refine s_istore_n (lo' := [_, _, _, _, _, _]) C 3 dX6_draw_190 rfl (by decide) rfl ?_
            refine s_iinc (lo' := [_, _, _, _, _, _]) C dX6_draw_191 rfl (by decide) rfl ?_
            refine g_goto C 109 dX6_draw_194 (by decide) ?_
            exact g_as (ih (i + 1) (by omega)) rfl (by rw [smv, sbest]; (repeat (any_goals split)) <;> first | rfl | (exfalso; omega)) rfl
          · refine g_iload_n C 3 dX6_draw_163 rfl rfl ?_
            refine g_iconst C dX6_draw_164 ?_
            refine g_icmp_eq C 184 dX6_draw_165 (by decide) (by omega) (by omega) (fun c165 => ?_) (fun c165 => ?_)
            · refine g_iload C dX6_draw_184 rfl ?_
              refine g_goto C 190 dX6_draw_186 (by decide) ?_
              refine s_istore_n (lo' := [_, _, _, _, _, _]) C 3 dX6_draw_190 rfl (by decide) rfl ?_
              refine s_iinc (lo' := [_, _, _, _, _, _]) C dX6_draw_191 rfl (by decide) rfl ?_
              refine g_goto C 109 dX6_draw_194 (by decide) ?_
              exact g_as (ih (i + 1) (by omega)) rfl (by rw [smv, sbest]; (repeat (any_goals split)) <;> first | rfl | (exfalso; omega)) rfl
            · refine g_aload_n C 0 dX6_draw_168 rfl rfl ?_
              refine m_arr C hS 12 (by omega) (by omega) (fX6_48 rfl) rfl dX6_draw_169 ?_
              refine g_iload C dX6_draw_172 rfl ?_
              refine m_iald C hS (by omega) rfl (by omega) i rfl (by omega) dX6_draw_174 ?_
              refine g_aload_n C 0 dX6_draw_175 rfl rfl ?_
              refine m_arr C hS 12 (by omega) (by omega) (fX6_48 rfl) rfl dX6_draw_176 ?_
              refine g_iload_n C 3 dX6_draw_179 rfl rfl ?_
              refine m_iald C hS (by omega) rfl (by omega) (sbest S (shot S nm) i).toNat (by omega) (by omega) dX6_draw_180 ?_
              refine g_icmp_le C 189 dX6_draw_181 (by decide) (by omega) (by have := h3b (by omega); omega) (fun c181 => ?_) (fun c181 => ?_)
              · refine g_iload_n C 3 dX6_draw_189 rfl rfl ?_
                refine s_istore_n (lo' := [_, _, _, _, _, _]) C 3 dX6_draw_190 rfl (by decide) rfl ?_
                refine s_iinc (lo' := [_, _, _, _, _, _]) C dX6_draw_191 rfl (by decide) rfl ?_
                refine g_goto C 109 dX6_draw_194 (by decide) ?_
                exact g_as (ih (i + 1) (by omega)) rfl (by rw [smv, sbest]; (repeat (any_goals split)) <;> first | rfl | (exfalso; omega)) rfl
              · refine g_iload C dX6_draw_184 rfl ?_
                refine g_goto C 190 dX6_draw_186 (by decide) ?_
                refine s_istore_n (lo' := [_, _, _, _, _, _]) C 3 dX6_draw_190 rfl (by decide) rfl ?_
                refine s_iinc (lo' := [_, _, _, _, _, _]) C dX6_draw_191 rfl (by decide) rfl ?_
                refine g_goto C 109 dX6_draw_194 (by decide) ?_
                exact g_as (ih (i + 1) (by omega)) rfl (by rw [smv, sbest]; (repeat (any_goals split)) <;> first | rfl | (exfalso; omega)) rfl
        · refine g_aload_n C 0 dX6_draw_123 rfl rfl ?_
          refine m_arr C hS 8 (by omega) (by omega) (fX6_36 rfl) rfl dX6_draw_124 ?_
          refine g_iload C dX6_draw_127 rfl ?_
          refine m_iald C hS (by omega) rfl (by omega) i rfl (by omega) dX6_draw_129 ?_
          refine g_iload_n C 1 dX6_draw_130 rfl rfl ?_
          refine g_icmp_ne C 149 dX6_draw_131 (by decide) (by omega) (by omega) (fun c131 => ?_) (fun c131 => ?_)
          · refine g_iconst C dX6_draw_149 ?_
            refine s_istore (lo' := [_, _, _, _, _, _]) C dX6_draw_150 (by decide) rfl ?_
            refine g_aload_n C 0 dX6_draw_152 rfl rfl ?_
            refine m_arr C hS 8 (by omega) (by omega) (fX6_36 rfl) rfl dX6_draw_153 ?_
            refine g_iload C dX6_draw_156 rfl ?_
            refine m_iald C hS (by omega) rfl (by omega) i rfl (by omega) dX6_draw_158 ?_
            refine g_iload_n C 1 dX6_draw_159 rfl rfl ?_
            refine g_icmp_ne C 189 dX6_draw_160 (by decide) (by omega) (by omega) (fun c160 => ?_) (fun c160 => ?_)
            · refine g_iload_n C 3 dX6_draw_189 rfl rfl ?_
              refine s_istore_n (lo' := [_, _, _, _, _, _]) C 3 dX6_draw_190 rfl (by decide) rfl ?_
              refine s_iinc (lo' := [_, _, _, _, _, _]) C dX6_draw_191 rfl (by decide) rfl ?_
              refine g_goto C 109 dX6_draw_194 (by decide) ?_
              exact g_as (ih (i + 1) (by omega)) rfl (by rw [smv, sbest]; (repeat (any_goals split)) <;> first | rfl | (exfalso; omega)) rfl
            · refine g_iload_n C 3 dX6_draw_163 rfl rfl ?_
              refine g_iconst C dX6_draw_164 ?_
              refine g_icmp_eq C 184 dX6_draw_165 (by decide) (by omega) (by omega) (fun c165 => ?_) (fun c165 => ?_)
              · refine g_iload C dX6_draw_184 rfl ?_
                refine g_goto C 190 dX6_draw_186 (by decide) ?_
                refine s_istore_n (lo' := [_, _, _, _, _, _]) C 3 dX6_draw_190 rfl (by decide) rfl ?_
                refine s_iinc (lo' := [_, _, _, _, _, _]) C dX6_draw_191 rfl (by decide) rfl ?_
                refine g_goto C 109 dX6_draw_194 (by decide) ?_
                exact g_as (ih (i + 1) (by omega)) rfl (by rw [smv, sbest]; (repeat (any_goals split)) <;> first | rfl | (exfalso; omega)) rfl
              · refine g_aload_n C 0 dX6_draw_168 rfl rfl ?_
                refine m_arr C hS 12 (by omega) (by omega) (fX6_48 rfl) rfl dX6_draw_169 ?_
                refine g_iload C dX6_draw_172 rfl ?_
                refine m_iald C hS (by omega) rfl (by omega) i rfl (by omega) dX6_draw_174 ?_
                refine g_aload_n C 0 dX6_draw_175 rfl rfl ?_
                refine m_arr C hS 12 (by omega) (by omega) (fX6_48 rfl) rfl dX6_draw_176 ?_
                refine g_iload_n C 3 dX6_draw_179 rfl rfl ?_
                refine m_iald C hS (by omega) rfl (by omega) (sbest S (shot S nm) i).toNat (by omega) (by omega) dX6_draw_180 ?_
                refine g_icmp_le C 189 dX6_draw_181 (by decide) (by omega) (by have := h3b (by omega); omega) (fun c181 => ?_) (fun c181 => ?_)
                · refine g_iload_n C 3 dX6_draw_189 rfl rfl ?_
                  refine s_istore_n (lo' := [_, _, _, _, _, _]) C 3 dX6_draw_190 rfl (by decide) rfl ?_
                  refine s_iinc (lo' := [_, _, _, _, _, _]) C dX6_draw_191 rfl (by decide) rfl ?_
                  refine g_goto C 109 dX6_draw_194 (by decide) ?_
                  exact g_as (ih (i + 1) (by omega)) rfl (by rw [smv, sbest]; (repeat (any_goals split)) <;> first | rfl | (exfalso; omega)) rfl
                · refine g_iload C dX6_draw_184 rfl ?_
                  refine g_goto C 190 dX6_draw_186 (by decide) ?_
                  refine s_istore_n (lo' := [_, _, _, _, _, _]) C 3 dX6_draw_190 rfl (by decide) rfl ?_
                  refine s_iinc (lo' := [_, _, _, _, _, _]) C dX6_draw_191 rfl (by decide) rfl ?_
                  refine g_goto C 109 dX6_draw_194 (by decide) ?_
                  exact g_as (ih (i + 1) (by omega)) rfl (by rw [smv, sbest]; (repeat (any_goals split)) <;> first | rfl | (exfalso; omega)) rfl
          · refine g_aload_n C 0 dX6_draw_134 rfl rfl ?_
            refine m_arr C hS 9 (by omega) (by omega) (fX6_39 rfl) rfl dX6_draw_135 ?_
            refine g_iload C dX6_draw_138 rfl ?_
            refine m_iald C hS (by omega) rfl (by omega) i rfl (by omega) dX6_draw_140 ?_
            refine g_iconst C dX6_draw_141 ?_
            refine g_icmp_eq C 149 dX6_draw_142 (by decide) (by omega) (by omega) (fun c142 => ?_) (fun c142 => ?_)
            · refine g_iconst C dX6_draw_149 ?_
              refine s_istore (lo' := [_, _, _, _, _, _]) C dX6_draw_150 (by decide) rfl ?_
              refine g_aload_n C 0 dX6_draw_152 rfl rfl ?_
              refine m_arr C hS 8 (by omega) (by omega) (fX6_36 rfl) rfl dX6_draw_153 ?_
              refine g_iload C dX6_draw_156 rfl ?_
              refine m_iald C hS (by omega) rfl (by omega) i rfl (by omega) dX6_draw_158 ?_
              refine g_iload_n C 1 dX6_draw_159 rfl rfl ?_
              refine g_icmp_ne C 189 dX6_draw_160 (by decide) (by omega) (by omega) (fun c160 => ?_) (fun c160 => ?_)
              · refine g_iload_n C 3 dX6_draw_189 rfl rfl ?_
                refine s_istore_n (lo' := [_, _, _, _, _, _]) C 3 dX6_draw_190 rfl (by decide) rfl ?_
                refine s_iinc (lo' := [_, _, _, _, _, _]) C dX6_draw_191 rfl (by decide) rfl ?_
                refine g_goto C 109 dX6_draw_194 (by decide) ?_
                exact g_as (ih (i + 1) (by omega)) rfl (by rw [smv, sbest]; (repeat (any_goals split)) <;> first | rfl | (exfalso; omega)) rfl
              · refine g_iload_n C 3 dX6_draw_163 rfl rfl ?_
                refine g_iconst C dX6_draw_164 ?_
                refine g_icmp_eq C 184 dX6_draw_165 (by decide) (by omega) (by omega) (fun c165 => ?_) (fun c165 => ?_)
                · refine g_iload C dX6_draw_184 rfl ?_
                  refine g_goto C 190 dX6_draw_186 (by decide) ?_
                  refine s_istore_n (lo' := [_, _, _, _, _, _]) C 3 dX6_draw_190 rfl (by decide) rfl ?_
                  refine s_iinc (lo' := [_, _, _, _, _, _]) C dX6_draw_191 rfl (by decide) rfl ?_
                  refine g_goto C 109 dX6_draw_194 (by decide) ?_
                  exact g_as (ih (i + 1) (by omega)) rfl (by rw [smv, sbest]; (repeat (any_goals split)) <;> first | rfl | (exfalso; omega)) rfl
                · refine g_aload_n C 0 dX6_draw_168 rfl rfl ?_
                  refine m_arr C hS 12 (by omega) (by omega) (fX6_48 rfl) rfl dX6_draw_169 ?_
                  refine g_iload C dX6_draw_172 rfl ?_
                  refine m_iald C hS (by omega) rfl (by omega) i rfl (by omega) dX6_draw_174 ?_
                  refine g_aload_n C 0 dX6_draw_175 rfl rfl ?_
                  refine m_arr C hS 12 (by omega) (by omega) (fX6_48 rfl) rfl dX6_draw_176 ?_
                  refine g_iload_n C 3 dX6_draw_179 rfl rfl ?_
                  refine m_iald C hS (by omega) rfl (by omega) (sbest S (shot S nm) i).toNat (by omega) (by omega) dX6_draw_180 ?_
                  refine g_icmp_le C 189 dX6_draw_181 (by decide) (by omega) (by have := h3b (by omega); omega) (fun c181 => ?_) (fun c181 => ?_)
                  · refine g_iload_n C 3 dX6_draw_189 rfl rfl ?_
                    refine s_istore_n (lo' := [_, _, _, _, _, _]) C 3 dX6_draw_190 rfl (by decide) rfl ?_
                    refine s_iinc (lo' := [_, _, _, _, _, _]) C dX6_draw_191 rfl (by decide) rfl ?_
                    refine g_goto C 109 dX6_draw_194 (by decide) ?_
                    exact g_as (ih (i + 1) (by omega)) rfl (by rw [smv, sbest]; (repeat (any_goals split)) <;> first | rfl | (exfalso; omega)) rfl
                  · refine g_iload C dX6_draw_184 rfl ?_
                    refine g_goto C 190 dX6_draw_186 (by decide) ?_
                    refine s_istore_n (lo' := [_, _, _, _, _, _]) C 3 dX6_draw_190 rfl (by decide) rfl ?_
                    refine s_iinc (lo' := [_, _, _, _, _, _]) C dX6_draw_191 rfl (by decide) rfl ?_
                    refine g_goto C 109 dX6_draw_194 (by decide) ?_
                    exact g_as (ih (i + 1) (by omega)) rfl (by rw [smv, sbest]; (repeat (any_goals split)) <;> first | rfl | (exfalso; omega)) rfl
            · refine g_iconst C dX6_draw_145 ?_
              refine g_goto C 150 dX6_draw_146 (by decide) ?_
              refine s_istore (lo' := [_, _, _, _, _, _]) C dX6_draw_150 (by decide) rfl ?_
              refine g_aload_n C 0 dX6_draw_152 rfl rfl ?_
              refine m_arr C hS 8 (by omega) (by omega) (fX6_36 rfl) rfl dX6_draw_153 ?_
              refine g_iload C dX6_draw_156 rfl ?_
              refine m_iald C hS (by omega) rfl (by omega) i rfl (by omega) dX6_draw_158 ?_
              refine g_iload_n C 1 dX6_draw_159 rfl rfl ?_
              refine g_icmp_ne C 189 dX6_draw_160 (by decide) (by omega) (by omega) (fun c160 => ?_) (fun c160 => ?_)
              · refine g_iload_n C 3 dX6_draw_189 rfl rfl ?_
                refine s_istore_n (lo' := [_, _, _, _, _, _]) C 3 dX6_draw_190 rfl (by decide) rfl ?_
                refine s_iinc (lo' := [_, _, _, _, _, _]) C dX6_draw_191 rfl (by decide) rfl ?_
                refine g_goto C 109 dX6_draw_194 (by decide) ?_
                exact g_as (ih (i + 1) (by omega)) rfl (by rw [smv, sbest]; (repeat (any_goals split)) <;> first | rfl | (exfalso; omega)) rfl
              · refine g_iload_n C 3 dX6_draw_163 rfl rfl ?_
                refine g_iconst C dX6_draw_164 ?_
                refine g_icmp_eq C 184 dX6_draw_165 (by decide) (by omega) (by omega) (fun c165 => ?_) (fun c165 => ?_)
                · refine g_iload C dX6_draw_184 rfl ?_
                  refine g_goto C 190 dX6_draw_186 (by decide) ?_
                  refine s_istore_n (lo' := [_, _, _, _, _, _]) C 3 dX6_draw_190 rfl (by decide) rfl ?_
                  refine s_iinc (lo' := [_, _, _, _, _, _]) C dX6_draw_191 rfl (by decide) rfl ?_
                  refine g_goto C 109 dX6_draw_194 (by decide) ?_
                  exact g_as (ih (i + 1) (by omega)) rfl (by rw [smv, sbest]; (repeat (any_goals split)) <;> first | rfl | (exfalso; omega)) rfl
                · refine g_aload_n C 0 dX6_draw_168 rfl rfl ?_
                  refine m_arr C hS 12 (by omega) (by omega) (fX6_48 rfl) rfl dX6_draw_169 ?_
                  refine g_iload C dX6_draw_172 rfl ?_
                  refine m_iald C hS (by omega) rfl (by omega) i rfl (by omega) dX6_draw_174 ?_
                  refine g_aload_n C 0 dX6_draw_175 rfl rfl ?_
                  refine m_arr C hS 12 (by omega) (by omega) (fX6_48 rfl) rfl dX6_draw_176 ?_
                  refine g_iload_n C 3 dX6_draw_179 rfl rfl ?_
                  refine m_iald C hS (by omega) rfl (by omega) (sbest S (shot S nm) i).toNat (by omega) (by omega) dX6_draw_180 ?_
                  refine g_icmp_le C 189 dX6_draw_181 (by decide) (by omega) (by have := h3b (by omega); omega) (fun c181 => ?_) (fun c181 => ?_)
                  · refine g_iload_n C 3 dX6_draw_189 rfl rfl ?_
                    refine s_istore_n (lo' := [_, _, _, _, _, _]) C 3 dX6_draw_190 rfl (by decide) rfl ?_
                    refine s_iinc (lo' := [_, _, _, _, _, _]) C dX6_draw_191 rfl (by decide) rfl ?_
                    refine g_goto C 109 dX6_draw_194 (by decide) ?_
                    exact g_as (ih (i + 1) (by omega)) rfl (by rw [smv, sbest]; (repeat (any_goals split)) <;> first | rfl | (exfalso; omega)) rfl
                  · refine g_iload C dX6_draw_184 rfl ?_
                    refine g_goto C 190 dX6_draw_186 (by decide) ?_
                    refine s_istore_n (lo' := [_, _, _, _, _, _]) C 3 dX6_draw_190 rfl (by decide) rfl ?_
                    refine s_iinc (lo' := [_, _, _, _, _, _]) C dX6_draw_191 rfl (by decide) rfl ?_
                    refine g_goto C 109 dX6_draw_194 (by decide) ?_
                    exact g_as (ih (i + 1) (by omega)) rfl (by rw [smv, sbest]; (repeat (any_goals split)) <;> first | rfl | (exfalso; omega)) rfl
  have A : gG w m 6 Wp (gwr h S) 0 0 [some (.ref 34), some (.int (iI (shot S nm))), some (.int (iI (scold S nm))), some (.int (iI (nm : Int))), none, none] [] 77 := by
    have hh1 := shot_r S nm
    have hh2 := scold_r S nm
    have hH1 := gheat_le e13 hns h3 (shot S nm)
    have hH2 := gheat_le e13 hns h3 (scold S nm)
    by_cases e1 : shot S nm = -1 ∨ gheat S (shot S nm) - gheat S (scold S nm) < S 0 7
    · rw [sdraw, if_pos e1] at C
      refine g_iload_n C 1 dX6_draw_77 rfl rfl ?_
      refine g_iconst C dX6_draw_78 ?_
      refine g_icmp_eq C 100 dX6_draw_79 (by decide) (by omega) (by omega) (fun c79 => ?_) (fun c79 => ?_)
      · exact g_vret C dX6_draw_100 (Nat.le_refl _) (Nat.le_refl _) ⟨rfl, rfl⟩
      · refine g_aload_n C 0 dX6_draw_82 rfl rfl ?_
        refine g_iload_n C 1 dX6_draw_83 rfl rfl ?_
        refine m_call C hS [_] _ (kX6_124 rfl) (c6_heatOf hS h1 hn (shot S nm) (by omega)) rfl rfl (by decide) (Nat.le_refl _) (Nat.le_refl _) (Nat.le_of_ble_eq_true rfl) dX6_draw_84 ?_
        refine g_aload_n C 0 dX6_draw_87 rfl rfl ?_
        refine g_iload_n C 2 dX6_draw_88 rfl rfl ?_
        refine m_call C hS [_] _ (kX6_124 rfl) (c6_heatOf hS h1 hn (scold S nm) (by omega)) rfl rfl (by decide) (Nat.le_refl _) (Nat.le_refl _) (Nat.le_of_ble_eq_true rfl) dX6_draw_89 ?_
        refine g_isub C dX6_draw_92 ?_
        refine g_aload_n C 0 dX6_draw_93 rfl rfl ?_
        refine m_fld C hS (fX6_89 rfl) rfl dX6_draw_94 ?_
        refine g_icmp_ge C 101 dX6_draw_97 (by decide) (by omega) (by omega) (fun c97 => ?_) (fun c97 => ?_)
        · omega
        · exact g_vret C dX6_draw_100 (Nat.le_refl _) (Nat.le_refl _) ⟨rfl, rfl⟩
    · have hx := sdraw.eq_1 S nm ns
      rw [if_neg e1] at hx
      refine g_iload_n C 1 dX6_draw_77 rfl rfl ?_
      refine g_iconst C dX6_draw_78 ?_
      refine g_icmp_eq C 100 dX6_draw_79 (by decide) (by omega) (by omega) (fun c79 => ?_) (fun c79 => ?_)
      · omega
      · refine g_aload_n C 0 dX6_draw_82 rfl rfl ?_
        refine g_iload_n C 1 dX6_draw_83 rfl rfl ?_
        refine m_call C hS [_] _ (kX6_124 rfl) (c6_heatOf hS h1 hn (shot S nm) (by omega)) rfl rfl (by decide) (Nat.le_refl _) (Nat.le_refl _) (Nat.le_of_ble_eq_true rfl) dX6_draw_84 ?_
        refine g_aload_n C 0 dX6_draw_87 rfl rfl ?_
        refine g_iload_n C 2 dX6_draw_88 rfl rfl ?_
        refine m_call C hS [_] _ (kX6_124 rfl) (c6_heatOf hS h1 hn (scold S nm) (by omega)) rfl rfl (by decide) (Nat.le_refl _) (Nat.le_refl _) (Nat.le_of_ble_eq_true rfl) dX6_draw_89 ?_
        refine g_isub C dX6_draw_92 ?_
        refine g_aload_n C 0 dX6_draw_93 rfl rfl ?_
        refine m_fld C hS (fX6_89 rfl) rfl dX6_draw_94 ?_
        refine g_icmp_ge C 101 dX6_draw_97 (by decide) (by omega) (by omega) (fun c97 => ?_) (fun c97 => ?_)
        · refine g_iconst C dX6_draw_101 ?_
          refine s_istore_n (lo' := [_, _, _, _, _, _]) C 3 dX6_draw_102 rfl (by decide) rfl ?_
          refine g_iconst C dX6_draw_103 ?_
          refine s_istore (lo' := [_, _, _, _, _, _]) C dX6_draw_104 (by decide) rfl ?_
          refine g_iconst C dX6_draw_106 ?_
          refine s_istore (lo' := [_, _, _, _, _, _]) C dX6_draw_107 (by decide) rfl ?_
          exact g_as (L2 _ rfl hx (by omega) ns 0 (by omega)) rfl rfl rfl
        · omega
  have L1 : ∀ (n i : Nat), i + n = nm → gG w m 6 Wp (gwr h S) 0 0 [some (.ref 34), some (.int (iI (shot S i))), some (.int (iI (scold S i))), some (.int (iI (i : Int))), none, none] [] 6 := by
    intro n
    induction n with
    | zero =>
      intro i h9
      have e9 : i = nm := by omega
      subst e9
      refine g_iload_n C 3 dX6_draw_6 rfl rfl ?_
      refine g_aload_n C 0 dX6_draw_7 rfl rfl ?_
      refine m_fld C hS (fX6_58 rfl) rfl dX6_draw_8 ?_
      refine g_icmp_ge C 77 dX6_draw_11 (by decide) (by omega) (by omega) (fun c11 => ?_) (fun c11 => ?_)
      · exact A
      · omega
    | succ n ih =>
      intro i h9
      have hr1 := shot_r S i
      have hr2 := scold_r S i
      have hrd := gd01 (h2 i).2.1
      refine g_iload_n C 3 dX6_draw_6 rfl rfl ?_
      refine g_aload_n C 0 dX6_draw_7 rfl rfl ?_
      refine m_fld C hS (fX6_58 rfl) rfl dX6_draw_8 ?_
      refine g_icmp_ge C 77 dX6_draw_11 (by decide) (by omega) (by omega) (fun c11 => ?_) (fun c11 => ?_)
      · omega
      · refine g_aload_n C 0 dX6_draw_14 rfl rfl ?_
        refine m_arr C hS 2 (by omega) (by omega) (fX6_13 rfl) rfl dX6_draw_15 ?_
        refine g_iload_n C 3 dX6_draw_18 rfl rfl ?_
        refine m_bald C hS i rfl (by omega) dX6_draw_19 ?_
        refine g_if_ne C 71 dX6_draw_20 (by decide) hrd (fun c20 => ?_) (fun c20 => ?_)
        · refine s_iinc (lo' := [_, _, _, _, _, _]) C dX6_draw_71 rfl (by decide) rfl ?_
          refine g_goto C 6 dX6_draw_74 (by decide) ?_
          exact g_as (ih (i + 1) (by omega)) rfl (by rw [shot, scold]; (repeat (any_goals split)) <;> first | rfl | (exfalso; omega)) rfl
        · refine g_iload_n C 1 dX6_draw_23 rfl rfl ?_
          refine g_iconst C dX6_draw_24 ?_
          refine g_icmp_eq C 41 dX6_draw_25 (by decide) (by omega) (by omega) (fun c25 => ?_) (fun c25 => ?_)
          · refine g_iload_n C 3 dX6_draw_41 rfl rfl ?_
            refine g_goto C 46 dX6_draw_42 (by decide) ?_
            refine s_istore_n (lo' := [_, _, _, _, _, _]) C 1 dX6_draw_46 rfl (by decide) rfl ?_
            refine g_iload_n C 2 dX6_draw_47 rfl rfl ?_
            refine g_iconst C dX6_draw_48 ?_
            refine g_icmp_eq C 65 dX6_draw_49 (by decide) (by omega) (by omega) (fun c49 => ?_) (fun c49 => ?_)
            · refine g_iload_n C 3 dX6_draw_65 rfl rfl ?_
              refine g_goto C 70 dX6_draw_66 (by decide) ?_
              refine s_istore_n (lo' := [_, _, _, _, _, _]) C 2 dX6_draw_70 rfl (by decide) rfl ?_
              refine s_iinc (lo' := [_, _, _, _, _, _]) C dX6_draw_71 rfl (by decide) rfl ?_
              refine g_goto C 6 dX6_draw_74 (by decide) ?_
              exact g_as (ih (i + 1) (by omega)) rfl (by rw [shot, scold]; (repeat (any_goals split)) <;> first | rfl | (exfalso; omega)) rfl
            · refine g_aload_n C 0 dX6_draw_52 rfl rfl ?_
              refine g_iload_n C 3 dX6_draw_53 rfl rfl ?_
              refine m_call C hS [_] _ (kX6_124 rfl) (c6_heatOf hS h1 hn ((i : Int)) (by omega)) rfl rfl (by decide) (Nat.le_refl _) (Nat.le_refl _) (Nat.le_of_ble_eq_true rfl) dX6_draw_54 ?_
              refine g_aload_n C 0 dX6_draw_57 rfl rfl ?_
              refine g_iload_n C 2 dX6_draw_58 rfl rfl ?_
              refine m_call C hS [_] _ (kX6_124 rfl) (c6_heatOf hS h1 hn (scold S i) (by omega)) rfl rfl (by decide) (Nat.le_refl _) (Nat.le_refl _) (Nat.le_of_ble_eq_true rfl) dX6_draw_59 ?_
              refine g_icmp_ge C 69 dX6_draw_62 (by decide) (hR _) (hR _) (fun c62 => ?_) (fun c62 => ?_)
              · refine g_iload_n C 2 dX6_draw_69 rfl rfl ?_
                refine s_istore_n (lo' := [_, _, _, _, _, _]) C 2 dX6_draw_70 rfl (by decide) rfl ?_
                refine s_iinc (lo' := [_, _, _, _, _, _]) C dX6_draw_71 rfl (by decide) rfl ?_
                refine g_goto C 6 dX6_draw_74 (by decide) ?_
                exact g_as (ih (i + 1) (by omega)) rfl (by rw [shot, scold]; (repeat (any_goals split)) <;> first | rfl | (exfalso; omega)) rfl
              · refine g_iload_n C 3 dX6_draw_65 rfl rfl ?_
                refine g_goto C 70 dX6_draw_66 (by decide) ?_
                refine s_istore_n (lo' := [_, _, _, _, _, _]) C 2 dX6_draw_70 rfl (by decide) rfl ?_
                refine s_iinc (lo' := [_, _, _, _, _, _]) C dX6_draw_71 rfl (by decide) rfl ?_
                refine g_goto C 6 dX6_draw_74 (by decide) ?_
                exact g_as (ih (i + 1) (by omega)) rfl (by rw [shot, scold]; (repeat (any_goals split)) <;> first | rfl | (exfalso; omega)) rfl
          · refine g_aload_n C 0 dX6_draw_28 rfl rfl ?_
            refine g_iload_n C 3 dX6_draw_29 rfl rfl ?_
            refine m_call C hS [_] _ (kX6_124 rfl) (c6_heatOf hS h1 hn ((i : Int)) (by omega)) rfl rfl (by decide) (Nat.le_refl _) (Nat.le_refl _) (Nat.le_of_ble_eq_true rfl) dX6_draw_30 ?_
            refine g_aload_n C 0 dX6_draw_33 rfl rfl ?_
            refine g_iload_n C 1 dX6_draw_34 rfl rfl ?_
            refine m_call C hS [_] _ (kX6_124 rfl) (c6_heatOf hS h1 hn (shot S i) (by omega)) rfl rfl (by decide) (Nat.le_refl _) (Nat.le_refl _) (Nat.le_of_ble_eq_true rfl) dX6_draw_35 ?_
            refine g_icmp_le C 45 dX6_draw_38 (by decide) (hR _) (hR _) (fun c38 => ?_) (fun c38 => ?_)
            · refine g_iload_n C 1 dX6_draw_45 rfl rfl ?_
              refine s_istore_n (lo' := [_, _, _, _, _, _]) C 1 dX6_draw_46 rfl (by decide) rfl ?_
              refine g_iload_n C 2 dX6_draw_47 rfl rfl ?_
              refine g_iconst C dX6_draw_48 ?_
              refine g_icmp_eq C 65 dX6_draw_49 (by decide) (by omega) (by omega) (fun c49 => ?_) (fun c49 => ?_)
              · refine g_iload_n C 3 dX6_draw_65 rfl rfl ?_
                refine g_goto C 70 dX6_draw_66 (by decide) ?_
                refine s_istore_n (lo' := [_, _, _, _, _, _]) C 2 dX6_draw_70 rfl (by decide) rfl ?_
                refine s_iinc (lo' := [_, _, _, _, _, _]) C dX6_draw_71 rfl (by decide) rfl ?_
                refine g_goto C 6 dX6_draw_74 (by decide) ?_
                exact g_as (ih (i + 1) (by omega)) rfl (by rw [shot, scold]; (repeat (any_goals split)) <;> first | rfl | (exfalso; omega)) rfl
              · refine g_aload_n C 0 dX6_draw_52 rfl rfl ?_
                refine g_iload_n C 3 dX6_draw_53 rfl rfl ?_
                refine m_call C hS [_] _ (kX6_124 rfl) (c6_heatOf hS h1 hn ((i : Int)) (by omega)) rfl rfl (by decide) (Nat.le_refl _) (Nat.le_refl _) (Nat.le_of_ble_eq_true rfl) dX6_draw_54 ?_
                refine g_aload_n C 0 dX6_draw_57 rfl rfl ?_
                refine g_iload_n C 2 dX6_draw_58 rfl rfl ?_
                refine m_call C hS [_] _ (kX6_124 rfl) (c6_heatOf hS h1 hn (scold S i) (by omega)) rfl rfl (by decide) (Nat.le_refl _) (Nat.le_refl _) (Nat.le_of_ble_eq_true rfl) dX6_draw_59 ?_
                refine g_icmp_ge C 69 dX6_draw_62 (by decide) (hR _) (hR _) (fun c62 => ?_) (fun c62 => ?_)
                · refine g_iload_n C 2 dX6_draw_69 rfl rfl ?_
                  refine s_istore_n (lo' := [_, _, _, _, _, _]) C 2 dX6_draw_70 rfl (by decide) rfl ?_
                  refine s_iinc (lo' := [_, _, _, _, _, _]) C dX6_draw_71 rfl (by decide) rfl ?_
                  refine g_goto C 6 dX6_draw_74 (by decide) ?_
                  exact g_as (ih (i + 1) (by omega)) rfl (by rw [shot, scold]; (repeat (any_goals split)) <;> first | rfl | (exfalso; omega)) rfl
                · refine g_iload_n C 3 dX6_draw_65 rfl rfl ?_
                  refine g_goto C 70 dX6_draw_66 (by decide) ?_
                  refine s_istore_n (lo' := [_, _, _, _, _, _]) C 2 dX6_draw_70 rfl (by decide) rfl ?_
                  refine s_iinc (lo' := [_, _, _, _, _, _]) C dX6_draw_71 rfl (by decide) rfl ?_
                  refine g_goto C 6 dX6_draw_74 (by decide) ?_
                  exact g_as (ih (i + 1) (by omega)) rfl (by rw [shot, scold]; (repeat (any_goals split)) <;> first | rfl | (exfalso; omega)) rfl
            · refine g_iload_n C 3 dX6_draw_41 rfl rfl ?_
              refine g_goto C 46 dX6_draw_42 (by decide) ?_
              refine s_istore_n (lo' := [_, _, _, _, _, _]) C 1 dX6_draw_46 rfl (by decide) rfl ?_
              refine g_iload_n C 2 dX6_draw_47 rfl rfl ?_
              refine g_iconst C dX6_draw_48 ?_
              refine g_icmp_eq C 65 dX6_draw_49 (by decide) (by omega) (by omega) (fun c49 => ?_) (fun c49 => ?_)
              · refine g_iload_n C 3 dX6_draw_65 rfl rfl ?_
                refine g_goto C 70 dX6_draw_66 (by decide) ?_
                refine s_istore_n (lo' := [_, _, _, _, _, _]) C 2 dX6_draw_70 rfl (by decide) rfl ?_
                refine s_iinc (lo' := [_, _, _, _, _, _]) C dX6_draw_71 rfl (by decide) rfl ?_
                refine g_goto C 6 dX6_draw_74 (by decide) ?_
                exact g_as (ih (i + 1) (by omega)) rfl (by rw [shot, scold]; (repeat (any_goals split)) <;> first | rfl | (exfalso; omega)) rfl
              · refine g_aload_n C 0 dX6_draw_52 rfl rfl ?_
                refine g_iload_n C 3 dX6_draw_53 rfl rfl ?_
                refine m_call C hS [_] _ (kX6_124 rfl) (c6_heatOf hS h1 hn ((i : Int)) (by omega)) rfl rfl (by decide) (Nat.le_refl _) (Nat.le_refl _) (Nat.le_of_ble_eq_true rfl) dX6_draw_54 ?_
                refine g_aload_n C 0 dX6_draw_57 rfl rfl ?_
                refine g_iload_n C 2 dX6_draw_58 rfl rfl ?_
                refine m_call C hS [_] _ (kX6_124 rfl) (c6_heatOf hS h1 hn (scold S i) (by omega)) rfl rfl (by decide) (Nat.le_refl _) (Nat.le_refl _) (Nat.le_of_ble_eq_true rfl) dX6_draw_59 ?_
                refine g_icmp_ge C 69 dX6_draw_62 (by decide) (hR _) (hR _) (fun c62 => ?_) (fun c62 => ?_)
                · refine g_iload_n C 2 dX6_draw_69 rfl rfl ?_
                  refine s_istore_n (lo' := [_, _, _, _, _, _]) C 2 dX6_draw_70 rfl (by decide) rfl ?_
                  refine s_iinc (lo' := [_, _, _, _, _, _]) C dX6_draw_71 rfl (by decide) rfl ?_
                  refine g_goto C 6 dX6_draw_74 (by decide) ?_
                  exact g_as (ih (i + 1) (by omega)) rfl (by rw [shot, scold]; (repeat (any_goals split)) <;> first | rfl | (exfalso; omega)) rfl
                · refine g_iload_n C 3 dX6_draw_65 rfl rfl ?_
                  refine g_goto C 70 dX6_draw_66 (by decide) ?_
                  refine s_istore_n (lo' := [_, _, _, _, _, _]) C 2 dX6_draw_70 rfl (by decide) rfl ?_
                  refine s_iinc (lo' := [_, _, _, _, _, _]) C dX6_draw_71 rfl (by decide) rfl ?_
                  refine g_goto C 6 dX6_draw_74 (by decide) ?_
                  exact g_as (ih (i + 1) (by omega)) rfl (by rw [shot, scold]; (repeat (any_goals split)) <;> first | rfl | (exfalso; omega)) rfl
  show gG w m 6 Wp (gwr h S) 0 0 [some (.ref 34), none, none, none, none, none] [] 0
  refine g_iconst C dX6_draw_0 ?_
  refine s_istore_n (lo' := [_, _, _, _, _, _]) C 1 dX6_draw_1 rfl (by decide) rfl ?_
  refine g_iconst C dX6_draw_2 ?_
  refine s_istore_n (lo' := [_, _, _, _, _, _]) C 2 dX6_draw_3 rfl (by decide) rfl ?_
  refine g_iconst C dX6_draw_4 ?_
  refine s_istore_n (lo' := [_, _, _, _, _, _]) C 3 dX6_draw_5 rfl (by decide) rfl ?_
  exact g_as (L1 nm 0 (by omega)) rfl rfl rfl

end MF
