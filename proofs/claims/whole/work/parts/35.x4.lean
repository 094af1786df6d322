/-! THE CLASS: an hour (rows laid by wip/whole/gen/x4.py) -/
/-- the copying of a shard's keys: the state, and whether all are copied -/
def ycp (q : Nat) : Nat → gS → gS × Bool
  | 0, V => (V, true)
  | n + 1, V => if V 14 q ≤ V 11 q then (if V 15 q < V 8 (V 14 q).toNat then (V, false) else if V 4 (V 13 q).toNat + V 8 (V 14 q).toNat ≤ V 2 (V 13 q).toNat then ycp q n (ytake V q (V 8 (V 14 q).toNat)) else (yfail V q, false)) else (V, true)
def ycq (Y : gS) (q : Nat) : gS × Bool := ycp q (Y 11 q + 1 - Y 14 q).toNat (su Y 15 q (Y 15 q + 50))
/-- an hour's copying of the shard q: the state, the log of cut overs -/
def yco (Y : gS) (q : Nat) : gS := if (ycq Y q).2 then ycov (ycq Y q).1 q else (ycq Y q).1
def ycoB (Y : gS) (q : Nat) (B : List gOE) : List gOE := if (ycq Y q).2 then ((ycq Y q).1 10 q, (ycq Y q).1 11 q, (ycq Y q).1 1 ((ycq Y q).1 13 q).toNat) :: B else B
section XE
variable {w : gW} {l : Launch} {Y : gS} {s : Nat → Nat} {A : List gCE} {B : List gOE}

set_option maxRecDepth 100000 in
set_option maxHeartbeats 4000000 in
theorem e5_copy {q : Nat} (hq : q < 16) (h14 : 0 ≤ Y 14 q ∧ Y 14 q ≤ 1000) (h11 : -1 ≤ Y 11 q ∧ Y 11 q ≤ 999) (h8 : ∀ k : Nat, 0 ≤ Y 8 k ∧ Y 8 k ≤ 100) (h4 : 0 ≤ Y 4 (Y 13 q).toNat ∧ Y 4 (Y 13 q).toNat + 100 * ((Y 11 q + 1 - Y 14 q).toNat : Int) ≤ 2000000) (hr2 : (-2147483648 ≤ Y 2 (Y 13 q).toNat ∧ Y 2 (Y 13 q).toNat < 2147483648)) (h15 : 0 ≤ Y 15 q ∧ Y 15 q ≤ 200000) : gXc w l yX5_copyForOneHour cX5_copyForOneHour 4 none 3 1 4 [.ref 1, .ref (18 + q)] Y s A B (none) (yco Y q) s A (ycoB Y q B) := by
  refine gXc_start (by decide +kernel) (by simp [Value.category]) (Nat.le_of_ble_eq_true rfl) (fun m Wp h C H F => ?_)
  obtain ⟨X, hXX⟩ : ∃ X, ycq Y q = X := ⟨_, rfl⟩
  rw [yco, ycoB, hXX] at C
  obtain ⟨h0, hh0⟩ : ∃ h0, h0 = h := ⟨_, rfl⟩
  rw [← hh0] at C
  have F : FrX h0 h := by rw [hh0]; exact F
  have L : ∀ (n : Nat) (V : gS) (h : gH) (x3 : Option Value), RX V s A B h → FrX h0 h → (V 11 q + 1 - V 14 q).toNat ≤ n → (0 ≤ V 14 q ∧ V 14 q ≤ 1000) → (-1 ≤ V 11 q ∧ V 11 q ≤ 999) → (∀ k : Nat, 0 ≤ V 8 k ∧ V 8 k ≤ 100) → (0 ≤ V 4 (V 13 q).toNat ∧ V 4 (V 13 q).toNat + 100 * ((V 11 q + 1 - V 14 q).toNat : Int) ≤ 2000000) → (-2147483648 ≤ V 2 (V 13 q).toNat ∧ V 2 (V 13 q).toNat < 2147483648) → (0 ≤ V 15 q ∧ V 15 q ≤ 300000) → ycp q n V = X → gG w m 4 Wp h 0 0 [some (.ref 1), some (.ref (18 + q)), some (.int (iI (V 14 q))), x3] [] 16 := by
    intro n
    induction n with
    | zero =>
      intro V h x3 H F h1 h14 h11 h8 h4 hr2 h15 hX
      have h62 : (V 12 q).toNat ≤ 6 := x_z6 (i := 2) H hq (by omega)
      have h63 : (V 13 q).toNat ≤ 6 := x_z6 (i := 3) H hq (by omega)
      have h14r : -2147483648 ≤ V 14 q ∧ V 14 q < 2147483648 := by omega
      have h11r : -2147483648 ≤ V 11 q ∧ V 11 q < 2147483648 := by omega
      subst hX
      rw [show (ycp q 0 V).2 = true from rfl, if_pos rfl, if_pos rfl] at C
      refine g_iload_n C 2 dX5_copyForOneHour_16 rfl rfl ?_
      refine g_aload_n C 1 dX5_copyForOneHour_17 rfl rfl ?_
      refine x_gsha C H hq (by omega) (fX5_171 rfl) rfl (V 11 q) rfl dX5_copyForOneHour_18 ?_
      refine g_icmp_gt C 75 dX5_copyForOneHour_21 (by decide) h14r h11r (fun c21 => ?_) (fun c21 => ?_)
      · refine g_aload_n C 0 dX5_copyForOneHour_75 rfl rfl ?_
        refine g_aload_n C 1 dX5_copyForOneHour_76 rfl rfl ?_
        refine x_call C H F [_] _ (kX5_290 rfl) (e5_cutOver hq h62 h63) rfl rfl H.2.1.1 (by decide) (by omega) (by omega) (Nat.le_of_ble_eq_true rfl) dX5_copyForOneHour_77 (fun h H F => ?_)
        exact g_vret C dX5_copyForOneHour_80 (by omega) (by omega) ⟨rfl, H, F⟩
      · omega
    | succ n ih =>
      intro V h x3 H F h1 h14 h11 h8 h4 hr2 h15 hX
      have h62 : (V 12 q).toNat ≤ 6 := x_z6 (i := 2) H hq (by omega)
      have h63 : (V 13 q).toNat ≤ 6 := x_z6 (i := 3) H hq (by omega)
      have h14r : -2147483648 ≤ V 14 q ∧ V 14 q < 2147483648 := by omega
      have h11r : -2147483648 ≤ V 11 q ∧ V 11 q < 2147483648 := by omega
      have h15r : -2147483648 ≤ V 15 q ∧ V 15 q < 2147483648 := by omega
      by_cases e1 : V 14 q ≤ V 11 q
      · have hx14 : V 14 q = ((V 14 q).toNat : Int) := by omega
        have hl14 : (V 14 q).toNat < 1000 := by omega
        have h8b := h8 (V 14 q).toNat
        have h8r : -2147483648 ≤ V 8 (V 14 q).toNat ∧ V 8 (V 14 q).toNat < 2147483648 := by omega
        have hrr : -2147483648 ≤ V 4 (V 13 q).toNat + V 8 (V 14 q).toNat ∧ V 4 (V 13 q).toNat + V 8 (V 14 q).toNat < 2147483648 := by omega
        by_cases e2 : V 15 q < V 8 (V 14 q).toNat
        · rw [ycp, if_pos e1, if_pos e2] at hX
          subst hX
          rw [if_neg (by simp), if_neg (by simp)] at C
          refine g_iload_n C 2 dX5_copyForOneHour_16 rfl rfl ?_
          refine g_aload_n C 1 dX5_copyForOneHour_17 rfl rfl ?_
          refine x_gsha C H hq (by omega) (fX5_171 rfl) rfl (V 11 q) rfl dX5_copyForOneHour_18 ?_
          refine g_icmp_gt C 75 dX5_copyForOneHour_21 (by decide) h14r h11r (fun c21 => ?_) (fun c21 => ?_)
          · omega
          · refine g_iload_n C 2 dX5_copyForOneHour_24 rfl rfl ?_
            refine g_sipush C dX5_copyForOneHour_25 (by decide) ?_
            refine g_icmp_ge C 75 dX5_copyForOneHour_28 (by decide) h14r (by omega) (fun c28 => ?_) (fun c28 => ?_)
            · omega
            · refine g_aload_n C 0 dX5_copyForOneHour_31 rfl rfl ?_
              refine x_rmain C H 3 (fX5_18 rfl) (by omega) dX5_copyForOneHour_32 ?_
              refine g_iload_n C 2 dX5_copyForOneHour_35 rfl rfl ?_
              refine x_byt C H (V 14 q).toNat hx14 hl14 (V 8 (V 14 q).toNat) rfl dX5_copyForOneHour_36 ?_
              refine s_istore_n (lo' := [_, _, _, _]) C 3 dX5_copyForOneHour_37 rfl (by decide) rfl ?_
              refine g_iload_n C 3 dX5_copyForOneHour_38 rfl rfl ?_
              refine g_aload_n C 1 dX5_copyForOneHour_39 rfl rfl ?_
              refine x_gsha C H hq (by omega) (fX5_281 rfl) rfl (V 15 q) rfl dX5_copyForOneHour_40 ?_
              refine g_icmp_le C 47 dX5_copyForOneHour_43 (by decide) h8r h15r (fun c43 => ?_) (fun c43 => ?_)
              · omega
              · exact g_vret C dX5_copyForOneHour_46 (by omega) (by omega) ⟨rfl, H, F⟩
        · by_cases er : V 4 (V 13 q).toNat + V 8 (V 14 q).toNat ≤ V 2 (V 13 q).toNat
          · rw [ycp, if_pos e1, if_neg e2, if_pos er] at hX
            have ey14 : ytake V q (V 8 (V 14 q).toNat) 14 q = V 14 q + 1 := by simp [ytake, su_f]
            have ey11 : ytake V q (V 8 (V 14 q).toNat) 11 q = V 11 q := by simp [ytake, su_f]
            have ey13 : ytake V q (V 8 (V 14 q).toNat) 13 = V 13 := by funext i; simp [ytake, su_f]
            have ey2 : ytake V q (V 8 (V 14 q).toNat) 2 = V 2 := by funext i; simp [ytake, su_f]
            have ey8 : ytake V q (V 8 (V 14 q).toNat) 8 = V 8 := by funext i; simp [ytake, su_f]
            have ey15 : ytake V q (V 8 (V 14 q).toNat) 15 q = V 15 q - V 8 (V 14 q).toNat := by simp [ytake, su_f]
            have ey4 : ytake V q (V 8 (V 14 q).toNat) 4 (V 13 q).toNat = V 4 (V 13 q).toNat + V 8 (V 14 q).toNat := by simp [ytake, su_f]
            refine g_iload_n C 2 dX5_copyForOneHour_16 rfl rfl ?_
            refine g_aload_n C 1 dX5_copyForOneHour_17 rfl rfl ?_
            refine x_gsha C H hq (by omega) (fX5_171 rfl) rfl (V 11 q) rfl dX5_copyForOneHour_18 ?_
            refine g_icmp_gt C 75 dX5_copyForOneHour_21 (by decide) h14r h11r (fun c21 => ?_) (fun c21 => ?_)
            · omega
            · refine g_iload_n C 2 dX5_copyForOneHour_24 rfl rfl ?_
              refine g_sipush C dX5_copyForOneHour_25 (by decide) ?_
              refine g_icmp_ge C 75 dX5_copyForOneHour_28 (by decide) h14r (by omega) (fun c28 => ?_) (fun c28 => ?_)
              · omega
              · refine g_aload_n C 0 dX5_copyForOneHour_31 rfl rfl ?_
                refine x_rmain C H 3 (fX5_18 rfl) (by omega) dX5_copyForOneHour_32 ?_
                refine g_iload_n C 2 dX5_copyForOneHour_35 rfl rfl ?_
                refine x_byt C H (V 14 q).toNat hx14 hl14 (V 8 (V 14 q).toNat) rfl dX5_copyForOneHour_36 ?_
                refine s_istore_n (lo' := [_, _, _, _]) C 3 dX5_copyForOneHour_37 rfl (by decide) rfl ?_
                refine g_iload_n C 3 dX5_copyForOneHour_38 rfl rfl ?_
                refine g_aload_n C 1 dX5_copyForOneHour_39 rfl rfl ?_
                refine x_gsha C H hq (by omega) (fX5_281 rfl) rfl (V 15 q) rfl dX5_copyForOneHour_40 ?_
                refine g_icmp_le C 47 dX5_copyForOneHour_43 (by decide) h8r h15r (fun c43 => ?_) (fun c43 => ?_)
                · refine g_aload_n C 1 dX5_copyForOneHour_47 rfl rfl ?_
                  refine x_ghome C H hq (by omega) (fX5_201 rfl) rfl ((V 13 q).toNat) rfl dX5_copyForOneHour_48 ?_
                  refine g_iload_n C 3 dX5_copyForOneHour_51 rfl rfl ?_
                  refine x_call C H F [_] _ (kX5_120 rfl) (e2_hasRoomFor_t h63 (V 8 (V 14 q).toNat) hrr hr2 er) rfl rfl (H.2.1.2.1 _ h63) (by decide) (by omega) (by omega) (Nat.le_of_ble_eq_true rfl) dX5_copyForOneHour_52 (fun h H F => ?_)
                  refine g_if_ne C 64 dX5_copyForOneHour_55 (by decide) (by omega) (fun c55 => ?_) (fun c55 => ?_)
                  · refine g_aload_n C 1 dX5_copyForOneHour_64 rfl rfl ?_
                    refine g_iload_n C 3 dX5_copyForOneHour_65 rfl rfl ?_
                    refine x_call C H F [_] _ (kX5_287 rfl) (e3_takeCopy hq (V 8 (V 14 q).toNat)) rfl rfl (H.2.1.2.2.2.2.2.2.2.2 _ hq) (by decide) (by omega) (by omega) (Nat.le_of_ble_eq_true rfl) dX5_copyForOneHour_66 (fun h H F => ?_)
                    refine s_iinc (lo' := [_, _, _, _]) C dX5_copyForOneHour_69 rfl (by decide) rfl ?_
                    refine g_goto C 16 dX5_copyForOneHour_72 (by decide) ?_
                    refine g_as (ih (ytake V q (V 8 (V 14 q).toNat)) h _ H F (by rw [ey14, ey11]; omega) (by rw [ey14]; omega) (by rw [ey11]; exact h11) (by rw [ey8]; exact h8) (by rw [ey13, ey4, ey14, ey11]; omega) (by rw [ey13, ey2]; exact hr2) (by rw [ey15]; omega) hX) rfl (by rw [ey14]) rfl
                  · omega
                · omega
          · rw [ycp, if_pos e1, if_neg e2, if_neg er] at hX
            subst hX
            rw [if_neg (by simp), if_neg (by simp)] at C
            refine g_iload_n C 2 dX5_copyForOneHour_16 rfl rfl ?_
            refine g_aload_n C 1 dX5_copyForOneHour_17 rfl rfl ?_
            refine x_gsha C H hq (by omega) (fX5_171 rfl) rfl (V 11 q) rfl dX5_copyForOneHour_18 ?_
            refine g_icmp_gt C 75 dX5_copyForOneHour_21 (by decide) h14r h11r (fun c21 => ?_) (fun c21 => ?_)
            · omega
            · refine g_iload_n C 2 dX5_copyForOneHour_24 rfl rfl ?_
              refine g_sipush C dX5_copyForOneHour_25 (by decide) ?_
              refine g_icmp_ge C 75 dX5_copyForOneHour_28 (by decide) h14r (by omega) (fun c28 => ?_) (fun c28 => ?_)
              · omega
              · refine g_aload_n C 0 dX5_copyForOneHour_31 rfl rfl ?_
                refine x_rmain C H 3 (fX5_18 rfl) (by omega) dX5_copyForOneHour_32 ?_
                refine g_iload_n C 2 dX5_copyForOneHour_35 rfl rfl ?_
                refine x_byt C H (V 14 q).toNat hx14 hl14 (V 8 (V 14 q).toNat) rfl dX5_copyForOneHour_36 ?_
                refine s_istore_n (lo' := [_, _, _, _]) C 3 dX5_copyForOneHour_37 rfl (by decide) rfl ?_
                refine g_iload_n C 3 dX5_copyForOneHour_38 rfl rfl ?_
                refine g_aload_n C 1 dX5_copyForOneHour_39 rfl rfl ?_
                refine x_gsha C H hq (by omega) (fX5_281 rfl) rfl (V 15 q) rfl dX5_copyForOneHour_40 ?_
                refine g_icmp_le C 47 dX5_copyForOneHour_43 (by decide) h8r h15r (fun c43 => ?_) (fun c43 => ?_)
                · refine g_aload_n C 1 dX5_copyForOneHour_47 rfl rfl ?_
                  refine x_ghome C H hq (by omega) (fX5_201 rfl) rfl ((V 13 q).toNat) rfl dX5_copyForOneHour_48 ?_
                  refine g_iload_n C 3 dX5_copyForOneHour_51 rfl rfl ?_
                  refine x_call C H F [_] _ (kX5_120 rfl) (e2_hasRoomFor_f h63 (V 8 (V 14 q).toNat) hrr hr2 er) rfl rfl (H.2.1.2.1 _ h63) (by decide) (by omega) (by omega) (Nat.le_of_ble_eq_true rfl) dX5_copyForOneHour_52 (fun h H F => ?_)
                  refine g_if_ne C 64 dX5_copyForOneHour_55 (by decide) (by omega) (fun c55 => ?_) (fun c55 => ?_)
                  · omega
                  · refine g_aload_n C 0 dX5_copyForOneHour_58 rfl rfl ?_
                    refine g_aload_n C 1 dX5_copyForOneHour_59 rfl rfl ?_
                    refine x_call C H F [_] _ (kX5_187 rfl) (e5_failMove hq) rfl rfl H.2.1.1 (by decide) (by omega) (by omega) (Nat.le_of_ble_eq_true rfl) dX5_copyForOneHour_60 (fun h H F => ?_)
                    exact g_vret C dX5_copyForOneHour_63 (by omega) (by omega) ⟨rfl, H, F⟩
                · omega
      · rw [ycp, if_neg e1] at hX
        subst hX
        rw [if_pos rfl, if_pos rfl] at C
        refine g_iload_n C 2 dX5_copyForOneHour_16 rfl rfl ?_
        refine g_aload_n C 1 dX5_copyForOneHour_17 rfl rfl ?_
        refine x_gsha C H hq (by omega) (fX5_171 rfl) rfl (V 11 q) rfl dX5_copyForOneHour_18 ?_
        refine g_icmp_gt C 75 dX5_copyForOneHour_21 (by decide) h14r h11r (fun c21 => ?_) (fun c21 => ?_)
        · refine g_aload_n C 0 dX5_copyForOneHour_75 rfl rfl ?_
          refine g_aload_n C 1 dX5_copyForOneHour_76 rfl rfl ?_
          refine x_call C H F [_] _ (kX5_290 rfl) (e5_cutOver hq h62 h63) rfl rfl H.2.1.1 (by decide) (by omega) (by omega) (Nat.le_of_ble_eq_true rfl) dX5_copyForOneHour_77 (fun h H F => ?_)
          exact g_vret C dX5_copyForOneHour_80 (by omega) (by omega) ⟨rfl, H, F⟩
        · omega
  show gG w m 4 Wp h 0 0 [some (.ref 1), some (.ref (18 + q)), none, none] [] 0
  refine g_aload_n C 1 dX5_copyForOneHour_0 rfl rfl ?_
  refine g_dup C dX5_copyForOneHour_1 rfl ?_
  refine x_gsha C H hq (by omega) (fX5_281 rfl) rfl (Y 15 q) rfl dX5_copyForOneHour_2 ?_
  refine g_bipush C dX5_copyForOneHour_5 (by decide) ?_
  refine g_iadd C dX5_copyForOneHour_7 ?_
  refine x_psha C H F hq (by omega) (fX5_281 rfl) rfl dX5_copyForOneHour_8 (fun h H F => ?_)
  refine g_aload_n C 1 dX5_copyForOneHour_11 rfl rfl ?_
  refine x_gsha C H hq (by omega) (fX5_284 rfl) rfl (Y 14 q) rfl dX5_copyForOneHour_12 ?_
  refine s_istore_n (lo' := [_, _, _, _]) C 2 dX5_copyForOneHour_15 rfl (by decide) rfl ?_
  have ev : ∀ f i, f ≠ 15 → su Y 15 q (Y 15 q + 50) f i = Y f i := fun f i hf => su_ne (by omega)
  refine g_as (L (Y 11 q + 1 - Y 14 q).toNat (su Y 15 q (Y 15 q + 50)) h none H F (by rw [ev 11 q (by omega), ev 14 q (by omega)]; exact Nat.le_refl _) (by rw [ev 14 q (by omega)]; exact h14) (by rw [ev 11 q (by omega)]; exact h11) (fun k => by rw [ev 8 k (by omega)]; exact h8 k) (by rw [ev 13 q (by omega), ev 4 _ (by omega), ev 11 q (by omega), ev 14 q (by omega)]; exact h4) (by rw [ev 13 q (by omega), ev 2 _ (by omega)]; exact hr2) (by rw [su_eq]; omega) hXX) rfl (by rw [ev 14 q (by omega)]) rfl

end XE
