/-! THE CLASS: passOneHour (rows laid by wip/whole/gen/x5.py) -/
theorem ycp_fr (q : Nat) : ∀ (n : Nat) (V : gS), (∀ f, f ≠ 0 → f ≠ 4 → f ≠ 13 → f ≠ 14 → f ≠ 15 → f ≠ 16 → (ycp q n V).1 f = V f) ∧ ∀ i, i ≠ 11 → (ycp q n V).1 0 i = V 0 i
  | 0, V => ⟨fun _ _ _ _ _ _ _ => rfl, fun _ _ => rfl⟩
  | n + 1, V => by
    unfold ycp
    split
    · split
      · exact ⟨fun _ _ _ _ _ _ _ => rfl, fun _ _ => rfl⟩
      · split
        · obtain ⟨a1, a2⟩ := ycp_fr q n (ytake V q (V 8 (V 14 q).toNat))
          refine ⟨fun f h0 h1 h2 h3 h4 h5 => ?_, fun i hi => ?_⟩
          · rw [a1 f h0 h1 h2 h3 h4 h5]
            funext i
            unfold ytake
            rw [su_ne (by omega), su_ne (by omega), su_ne (by omega), su_ne (by omega)]
          · rw [a2 i hi]
            unfold ytake
            rw [su_ne (by omega), su_ne (by omega), su_ne (by omega), su_ne (by omega)]
        · refine ⟨fun f h0 h1 h2 h3 h4 h5 => ?_, fun i hi => ?_⟩
          · funext i
            unfold yfail yaim
            dsimp only
            rw [su_ne (by omega), su_ne (by omega), su_ne (by omega), su_ne (by omega), su_ne (by omega), su_ne (by omega)]
          · unfold yfail yaim
            dsimp only
            rw [su_ne (by omega), su_ne (by omega), su_ne (by omega), su_ne (by omega), su_ne (by omega), su_ne (by omega)]
    · exact ⟨fun _ _ _ _ _ _ _ => rfl, fun _ _ => rfl⟩
theorem yco_fr (Y : gS) (q : Nat) : (∀ f, f ≠ 0 → f ≠ 4 → f ≠ 12 → f ≠ 13 → f ≠ 14 → f ≠ 15 → f ≠ 16 → yco Y q f = Y f) ∧ ∀ i, i ≠ 11 → i ≠ 10 → yco Y q 0 i = Y 0 i := by
  obtain ⟨a1, a2⟩ := ycp_fr q (Y 11 q + 1 - Y 14 q).toNat (su Y 15 q (Y 15 q + 50))
  unfold yco ycq
  split
  · refine ⟨fun f h0 h1 h2 h3 h4 h5 h6 => ?_, fun i h1 h2 => ?_⟩
    · funext i
      unfold ycov yaim
      rw [su_ne (by omega), su_ne (by omega), su_ne (by omega), su_ne (by omega), su_ne (by omega), su_ne (by omega), su_ne (by omega), a1 f h0 h1 h3 h4 h5 h6, su_ne (by omega)]
    · unfold ycov yaim
      rw [su_ne (by omega), su_ne (by omega), su_ne (by omega), su_ne (by omega), su_ne (by omega), su_ne (by omega), su_ne (by omega), a2 i h1, su_ne (by omega)]
  · refine ⟨fun f h0 h1 h2 h3 h4 h5 h6 => ?_, fun i h1 h2 => ?_⟩
    · rw [a1 f h0 h1 h3 h4 h5 h6]
      funext i
      exact su_ne (by omega)
    · rw [a2 i h1]
      exact su_ne (by omega)
def ypc (U : gS) (s : Nat → Nat) : Nat → gS
  | 0 => U
  | k + 1 => if ypc U s k 13 (s k) ≠ 0 then yco (ypc U s k) (s k) else ypc U s k
def ypcB (U : gS) (s : Nat → Nat) (B : List gOE) : Nat → List gOE
  | 0 => B
  | k + 1 => if ypc U s k 13 (s k) ≠ 0 then ycoB (ypc U s k) (s k) (ypcB U s B k) else ypcB U s B k
theorem ypc_fr (U : gS) (s : Nat → Nat) : ∀ k, (∀ f, f ≠ 0 → f ≠ 4 → f ≠ 12 → f ≠ 13 → f ≠ 14 → f ≠ 15 → f ≠ 16 → ypc U s k f = U f) ∧ ∀ i, i ≠ 11 → i ≠ 10 → ypc U s k 0 i = U 0 i
  | 0 => ⟨fun _ _ _ _ _ _ _ _ => rfl, fun _ _ _ => rfl⟩
  | k + 1 => by
    obtain ⟨a1, a2⟩ := ypc_fr U s k
    unfold ypc
    split
    · obtain ⟨b1, b2⟩ := yco_fr (ypc U s k) (s k)
      exact ⟨fun f h0 h1 h2 h3 h4 h5 h6 => (b1 f h0 h1 h2 h3 h4 h5 h6).trans (a1 f h0 h1 h2 h3 h4 h5 h6), fun i h1 h2 => (b2 i h1 h2).trans (a2 i h1 h2)⟩
    · exact ⟨a1, a2⟩
def ybl (U : gS) : Nat → gS
  | 0 => U
  | k + 1 => su (ybl U k) 7 k (ybl U k 7 k + ybl U k 5 k)
theorem ybl_fr (U : gS) : ∀ k, ∀ f, f ≠ 7 → ybl U k f = U f
  | 0, _, _ => rfl
  | k + 1, f, h => by
    funext i
    show su (ybl U k) 7 k _ f i = U f i
    rw [su_ne (by omega), ybl_fr U k f h]
def yhv (U : gS) (s : Nat → Nat) : Nat → gS
  | 0 => U
  | k + 1 => su (yhv U s k) 18 (s k) (yhv U s k 18 (s k) / 2)
theorem yhv_0 (U : gS) (s : Nat → Nat) : ∀ k, yhv U s k 0 = U 0
  | 0 => rfl
  | k + 1 => yhv_0 U s k
def ydr (W : gS) (s : Nat → Nat) (nm ns : Nat) : gS := if W 0 9 ≠ 0 then ydraw W s nm ns else W
theorem ydr_0 (W : gS) (s : Nat → Nat) (nm ns : Nat) : ydr W s nm ns 0 = W 0 := by
  unfold ydr ydraw yaim
  split
  · split
    · rfl
    · split <;> rfl
  · rfl
def yW (Y : gS) (s : Nat → Nat) (ns : Nat) : gS := ybl (ypc (su Y 0 8 (Y 0 8 + 1)) s ns) 4
/-- an hour passes -/
def yhour (Y : gS) (s : Nat → Nat) (nm ns : Nat) : gS := yhv (ydr (yW Y s ns) s nm ns) s ns
def yhourB (Y : gS) (s : Nat → Nat) (ns : Nat) (B : List gOE) : List gOE := ypcB (su Y 0 8 (Y 0 8 + 1)) s B ns
/-- what a shard's copying needs -/
def yPc (V : gS) (q : Nat) : Prop := (0 ≤ V 14 q ∧ V 14 q ≤ 1000) ∧ (-1 ≤ V 11 q ∧ V 11 q ≤ 999) ∧ (∀ k : Nat, 0 ≤ V 8 k ∧ V 8 k ≤ 100) ∧ (0 ≤ V 4 (V 13 q).toNat ∧ V 4 (V 13 q).toNat + 100 * ((V 11 q + 1 - V 14 q).toNat : Int) ≤ 2000000) ∧ (-2147483648 ≤ V 2 (V 13 q).toNat ∧ V 2 (V 13 q).toNat < 2147483648) ∧ (0 ≤ V 15 q ∧ V 15 q ≤ 200000)
/-- what an hour needs -/
def yPh (Y : gS) (s : Nat → Nat) (nm ns : Nat) : Prop := (∀ k, k < ns → ypc (su Y 0 8 (Y 0 8 + 1)) s k 13 (s k) ≠ 0 → yPc (ypc (su Y 0 8 (Y 0 8 + 1)) s k) (s k)) ∧
  (∀ z : Nat, z ≤ 6 → 0 ≤ Y 3 z ∧ Y 3 z ≤ 1) ∧ (∀ z, -2147483648 ≤ yheat (yW Y s ns) s ns z ∧ yheat (yW Y s ns) s ns z < 1073741824 ∧ 0 ≤ yheat (yW Y s ns) s ns z) ∧ (∀ i, i < ns → 0 ≤ Y 18 (s i) ∧ Y 18 (s i) < 2147483648) ∧ (-2147483648 ≤ Y 0 9 ∧ Y 0 9 < 2147483648) ∧ (∀ i j, i < ns → j < ns → s i = s j → i = j)
theorem yhv_18 {U : gS} {s : Nat → Nat} {ns : Nat} (hs : ∀ i j, i < ns → j < ns → s i = s j → i = j) : ∀ k, k ≤ ns → ∀ i, k ≤ i → i < ns → yhv U s k 18 (s i) = U 18 (s i)
  | 0, _, _, _, _ => rfl
  | k + 1, hk, i, h1, h2 => by
    show su (yhv U s k) 18 (s k) _ 18 (s i) = _
    rw [su_ne (Or.inr (fun e => by have := hs i k h2 (by omega) e; omega)), yhv_18 hs k (by omega) i (by omega) h2]
theorem ydr_18 (W : gS) (s : Nat → Nat) (nm ns : Nat) : ydr W s nm ns 18 = W 18 := by
  unfold ydr ydraw yaim
  split
  · split
    · rfl
    · split <;> rfl
  · rfl
section XF
variable {w : gW} {l : Launch} {Y : gS} {s : Nat → Nat} {A : List gCE} {B : List gOE}

set_option maxRecDepth 100000 in
set_option maxHeartbeats 4000000 in
theorem e5_hour (nm ns : Nat) (hm : Y 0 5 = nm) (hnm : nm ≤ 6) (hn : Y 0 7 = ns) (hns : ns ≤ 16) (hN : gNu Y) (hP : yPh Y s nm ns) : gXc w l yX5_passOneHour cX5_passOneHour 2 none 4 16 64 [.ref 1] Y s A B (none) (yhour Y s nm ns) s A (yhourB Y s ns B) := by
  refine gXc_start (by decide +kernel) (by simp [Value.category]) (Nat.le_of_ble_eq_true rfl) (fun m Wp h C H F => ?_)
  obtain ⟨h0, hh0⟩ : ∃ h0, h0 = h := ⟨_, rfl⟩
  rw [← hh0] at C
  have F : FrX h0 h := by rw [hh0]; exact F
  have hW7 : yW Y s ns 0 7 = ns := by rw [yW, ybl_fr _ 4 0 (by omega), (ypc_fr _ s ns).2 7 (by omega) (by omega)]; exact hn
  have hW5 : yW Y s ns 0 5 = nm := by rw [yW, ybl_fr _ 4 0 (by omega), (ypc_fr _ s ns).2 5 (by omega) (by omega)]; exact hm
  have hW9 : -2147483648 ≤ yW Y s ns 0 9 ∧ yW Y s ns 0 9 < 2147483648 := by rw [yW, ybl_fr _ 4 0 (by omega), (ypc_fr _ s ns).2 9 (by omega) (by omega)]; exact hP.2.2.2.2.1
  have hNW : gNu (yW Y s ns) := fun z hz => by rw [yW, ybl_fr _ 4 1 (by omega), (ypc_fr _ s ns).1 1 (by omega) (by omega) (by omega) (by omega) (by omega) (by omega) (by omega)]; exact hN z hz
  have hW3 : ∀ z : Nat, z ≤ 6 → 0 ≤ yW Y s ns 3 z ∧ yW Y s ns 3 z ≤ 1 := fun z hz => by rw [yW, ybl_fr _ 4 3 (by omega), (ypc_fr _ s ns).1 3 (by omega) (by omega) (by omega) (by omega) (by omega) (by omega) (by omega)]; exact hP.2.1 z hz
  have hW18 : ∀ i, i < ns → -2147483648 ≤ yW Y s ns 18 (s i) ∧ yW Y s ns 18 (s i) < 2147483648 := fun i hi => by rw [yW, ybl_fr _ 4 18 (by omega), (ypc_fr _ s ns).1 18 (by omega) (by omega) (by omega) (by omega) (by omega) (by omega) (by omega)]; have := hP.2.2.2.1 i hi; show -2147483648 ≤ Y 18 (s i) ∧ Y 18 (s i) < 2147483648; omega
  have L97 : ∀ (n i : Nat) (h : gH), i + n = ns → RX (yhv (ydr (yW Y s ns) s nm ns) s i) s A (ypcB (su Y 0 8 (Y 0 8 + 1)) s B ns) h → FrX h0 h → gG w m 2 Wp h 16 64 [some (.ref 1), some (.int (iI (i : Int)))] [] 97 := by
    intro n
    induction n with
    | zero =>
      intro i h h1 H F
      have e : i = ns := by omega
      have h7 : yhv (ydr (yW Y s ns) s nm ns) s i 0 7 = ns := by rw [yhv_0, ydr_0]; exact hW7
      refine g_iload_n C 1 dX5_passOneHour_97 rfl rfl ?_
      refine g_aload_n C 0 dX5_passOneHour_98 rfl rfl ?_
      refine x_gmain C H (fX5_45 rfl) rfl ((ns : Int)) h7 dX5_passOneHour_99 ?_
      refine g_icmp_ge C 126 dX5_passOneHour_102 (by decide) (by omega) (by omega) (fun c102 => ?_) (fun c102 => ?_)
      · exact g_vret C dX5_passOneHour_126 (by omega) (by omega) ⟨rfl, by rw [e] at H; exact H, F⟩
      · omega
    | succ n ih =>
      intro i h h1 H F
      have h7 : yhv (ydr (yW Y s ns) s nm ns) s i 0 7 = ns := by rw [yhv_0, ydr_0]; exact hW7
      have hsi := (H.2.2.1.2.2.2 i (by omega)).1
      have hq : 0 ≤ yhv (ydr (yW Y s ns) s nm ns) s i 18 (s i) ∧ yhv (ydr (yW Y s ns) s nm ns) s i 18 (s i) < 2147483648 := by rw [yhv_18 hP.2.2.2.2.2 i (by omega) i (Nat.le_refl i) (by omega), ydr_18, yW, ybl_fr _ 4 18 (by omega), (ypc_fr _ s ns).1 18 (by omega) (by omega) (by omega) (by omega) (by omega) (by omega) (by omega)]; exact hP.2.2.2.1 i (by omega)
      refine g_iload_n C 1 dX5_passOneHour_97 rfl rfl ?_
      refine g_aload_n C 0 dX5_passOneHour_98 rfl rfl ?_
      refine x_gmain C H (fX5_45 rfl) rfl ((ns : Int)) h7 dX5_passOneHour_99 ?_
      refine g_icmp_ge C 126 dX5_passOneHour_102 (by decide) (by omega) (by omega) (fun c102 => ?_) (fun c102 => ?_)
      · omega
      · refine g_aload_n C 0 dX5_passOneHour_105 rfl rfl ?_
        refine x_rmain C H 17 (fX5_38 rfl) (by omega) dX5_passOneHour_106 ?_
        refine g_iload_n C 1 dX5_passOneHour_109 rfl rfl ?_
        refine x_shas C H i (by omega) (by omega) (s i) rfl dX5_passOneHour_110 ?_
        refine g_dup C dX5_passOneHour_111 rfl ?_
        refine x_gsha C H hsi (by omega) (fX5_142 rfl) rfl (yhv (ydr (yW Y s ns) s nm ns) s i 18 (s i)) rfl dX5_passOneHour_112 ?_
        refine g_iconst C dX5_passOneHour_115 ?_
        refine g_half C dX5_passOneHour_116 hq.1 hq.2 ?_
        refine x_psha C H F hsi (by omega) (fX5_142 rfl) rfl dX5_passOneHour_117 (fun h H F => ?_)
        refine s_iinc (lo' := [_, _]) C dX5_passOneHour_120 rfl (by decide) rfl ?_
        refine g_goto C 97 dX5_passOneHour_123 (by decide) ?_
        exact ih (i + 1) _ (by omega) H F
  have L84 : ∀ (h : gH) (x : Option Value), RX (yW Y s ns) s A (ypcB (su Y 0 8 (Y 0 8 + 1)) s B ns) h → FrX h0 h → gG w m 2 Wp h 16 64 [some (.ref 1), x] [] 84 := by
    intro h x H F
    by_cases e9 : yW Y s ns 0 9 = 0
    · have eD : ydr (yW Y s ns) s nm ns = yW Y s ns := by rw [ydr, if_neg (fun z => z e9)]
      refine g_aload_n C 0 dX5_passOneHour_84 rfl rfl ?_
      refine x_gmain C H (fX5_101 rfl) rfl (yW Y s ns 0 9) rfl dX5_passOneHour_85 ?_
      refine g_if_eq C 95 dX5_passOneHour_88 (by decide) hW9 (fun c88 => ?_) (fun c88 => ?_)
      · refine g_iconst C dX5_passOneHour_95 ?_
        refine s_istore_n (lo' := [_, _]) C 1 dX5_passOneHour_96 rfl (by decide) rfl ?_
        exact L97 ns 0 _ (by omega) (by rw [yhv, eD]; exact H) F
      · omega
    · have eD : ydr (yW Y s ns) s nm ns = ydraw (yW Y s ns) s nm ns := by rw [ydr, if_pos e9]
      refine g_aload_n C 0 dX5_passOneHour_84 rfl rfl ?_
      refine x_gmain C H (fX5_101 rfl) rfl (yW Y s ns 0 9) rfl dX5_passOneHour_85 ?_
      refine g_if_eq C 95 dX5_passOneHour_88 (by decide) hW9 (fun c88 => ?_) (fun c88 => ?_)
      · omega
      · refine g_aload_n C 0 dX5_passOneHour_91 rfl rfl ?_
        refine x_call C H F [] _ (kX5_296 rfl) (e5_draw nm ns hW5 hnm hW7 hns hNW hW3 (fun z => ⟨(hP.2.2.1 z).1, by have := (hP.2.2.1 z).2.1; omega⟩) hW18 (by have a := hP.2.2.1 (yhot (yW Y s ns) s ns nm); have b := hP.2.2.1 (ycold (yW Y s ns) s ns nm); omega) hW9) rfl rfl H.2.1.1 (by decide) (by omega) (by omega) (Nat.le_of_ble_eq_true rfl) dX5_passOneHour_92 (fun h H F => ?_)
        refine g_iconst C dX5_passOneHour_95 ?_
        refine s_istore_n (lo' := [_, _]) C 1 dX5_passOneHour_96 rfl (by decide) rfl ?_
        exact L97 ns 0 _ (by omega) (by rw [yhv, eD]; exact H) F
  have L50 : ∀ (n i : Nat) (h : gH), i + n = 4 → RX (ybl (ypc (su Y 0 8 (Y 0 8 + 1)) s ns) i) s A (ypcB (su Y 0 8 (Y 0 8 + 1)) s B ns) h → FrX h0 h → gG w m 2 Wp h 16 64 [some (.ref 1), some (.int (iI (i : Int)))] [] 50 := by
    intro n
    induction n with
    | zero =>
      intro i h h1 H F
      have e : i = 4 := by omega
      refine g_iload_n C 1 dX5_passOneHour_50 rfl rfl ?_
      refine g_iconst C dX5_passOneHour_51 ?_
      refine g_icmp_ge C 84 dX5_passOneHour_52 (by decide) (by omega) (by omega) (fun c52 => ?_) (fun c52 => ?_)
      · exact L84 _ _ (by rw [e] at H; exact H) F
      · omega
    | succ n ih =>
      intro i h h1 H F
      refine g_iload_n C 1 dX5_passOneHour_50 rfl rfl ?_
      refine g_iconst C dX5_passOneHour_51 ?_
      refine g_icmp_ge C 84 dX5_passOneHour_52 (by decide) (by omega) (by omega) (fun c52 => ?_) (fun c52 => ?_)
      · omega
      · refine g_aload_n C 0 dX5_passOneHour_55 rfl rfl ?_
        refine x_rmain C H 5 (fX5_27 rfl) (by omega) dX5_passOneHour_56 ?_
        refine g_iload_n C 1 dX5_passOneHour_59 rfl rfl ?_
        refine x_tens C H i (by omega) (by omega) dX5_passOneHour_60 ?_
        refine g_dup C dX5_passOneHour_61 rfl ?_
        refine x_gten C H (by omega) (by omega) (fX5_216 rfl) (ybl (ypc (su Y 0 8 (Y 0 8 + 1)) s ns) i 7 i) rfl dX5_passOneHour_62 ?_
        refine g_aload_n C 0 dX5_passOneHour_65 rfl rfl ?_
        refine x_rmain C H 5 (fX5_27 rfl) (by omega) dX5_passOneHour_66 ?_
        refine g_iload_n C 1 dX5_passOneHour_69 rfl rfl ?_
        refine x_tens C H i (by omega) (by omega) dX5_passOneHour_70 ?_
        refine x_gten C H (by omega) (by omega) (fX5_133 rfl) (ybl (ypc (su Y 0 8 (Y 0 8 + 1)) s ns) i 5 i) rfl dX5_passOneHour_71 ?_
        refine g_iadd C dX5_passOneHour_74 ?_
        refine x_pten C H F (by omega) (by omega) (fX5_216 rfl) dX5_passOneHour_75 (fun h H F => ?_)
        refine s_iinc (lo' := [_, _]) C dX5_passOneHour_78 rfl (by decide) rfl ?_
        refine g_goto C 50 dX5_passOneHour_81 (by decide) ?_
        exact ih (i + 1) _ (by omega) H F
  have L12 : ∀ (n i : Nat) (h : gH), i + n = ns → RX (ypc (su Y 0 8 (Y 0 8 + 1)) s i) s A (ypcB (su Y 0 8 (Y 0 8 + 1)) s B i) h → FrX h0 h → gG w m 2 Wp h i (4 * i) [some (.ref 1), some (.int (iI (i : Int)))] [] 12 := by
    intro n
    induction n with
    | zero =>
      intro i h h1 H F
      have e : i = ns := by omega
      have h7 : ypc (su Y 0 8 (Y 0 8 + 1)) s i 0 7 = ns := by rw [(ypc_fr _ s i).2 7 (by omega) (by omega)]; exact hn
      have hNV : gNu (ypc (su Y 0 8 (Y 0 8 + 1)) s i) := fun z hz => by rw [(ypc_fr _ s i).1 1 (by omega) (by omega) (by omega) (by omega) (by omega) (by omega) (by omega)]; exact hN z hz
      refine g_iload_n C 1 dX5_passOneHour_12 rfl rfl ?_
      refine g_aload_n C 0 dX5_passOneHour_13 rfl rfl ?_
      refine x_gmain C H (fX5_45 rfl) rfl ((ns : Int)) h7 dX5_passOneHour_14 ?_
      refine g_icmp_ge C 48 dX5_passOneHour_17 (by decide) (by omega) (by omega) (fun c17 => ?_) (fun c17 => ?_)
      · refine g_iconst C dX5_passOneHour_48 ?_
        refine s_istore_n (lo' := [_, _]) C 1 dX5_passOneHour_49 rfl (by decide) rfl ?_
        exact g_widen C (by omega) (by omega) (L50 4 0 _ (by omega) (by rw [e] at H; exact H) F)
      · omega
    | succ n ih =>
      intro i h h1 H F
      have h7 : ypc (su Y 0 8 (Y 0 8 + 1)) s i 0 7 = ns := by rw [(ypc_fr _ s i).2 7 (by omega) (by omega)]; exact hn
      have hNV : gNu (ypc (su Y 0 8 (Y 0 8 + 1)) s i) := fun z hz => by rw [(ypc_fr _ s i).1 1 (by omega) (by omega) (by omega) (by omega) (by omega) (by omega) (by omega)]; exact hN z hz
      have hsi := (H.2.2.1.2.2.2 i (by omega)).1
      by_cases em : ypc (su Y 0 8 (Y 0 8 + 1)) s i 13 (s i) = 0
      · refine g_iload_n C 1 dX5_passOneHour_12 rfl rfl ?_
        refine g_aload_n C 0 dX5_passOneHour_13 rfl rfl ?_
        refine x_gmain C H (fX5_45 rfl) rfl ((ns : Int)) h7 dX5_passOneHour_14 ?_
        refine g_icmp_ge C 48 dX5_passOneHour_17 (by decide) (by omega) (by omega) (fun c17 => ?_) (fun c17 => ?_)
        · omega
        · refine g_aload_n C 0 dX5_passOneHour_20 rfl rfl ?_
          refine x_rmain C H 17 (fX5_38 rfl) (by omega) dX5_passOneHour_21 ?_
          refine g_iload_n C 1 dX5_passOneHour_24 rfl rfl ?_
          refine x_shas C H i (by omega) (by omega) (s i) rfl dX5_passOneHour_25 ?_
          refine x_call C H F [] _ (kX5_150 rfl) (e3_isMoving_f hsi hNV em) rfl rfl (H.2.1.2.2.2.2.2.2.2.2 _ hsi) (by decide) (by omega) (by omega) (Nat.le_of_ble_eq_true rfl) dX5_passOneHour_26 (fun h H F => ?_)
          refine g_if_eq C 42 dX5_passOneHour_29 (by decide) (by omega) (fun c29 => ?_) (fun c29 => ?_)
          · refine s_iinc (lo' := [_, _]) C dX5_passOneHour_42 rfl (by decide) rfl ?_
            refine g_goto C 12 dX5_passOneHour_45 (by decide) ?_
            exact g_widen C (by omega) (by omega) (ih (i + 1) _ (by omega) (by rw [ypc, if_neg (fun z => z em), ypcB, if_neg (fun z => z em)]; exact H) F)
          · omega
      · obtain ⟨p1, p2, p3, p4, p5, p6⟩ := hP.1 i (by omega) em
        refine g_iload_n C 1 dX5_passOneHour_12 rfl rfl ?_
        refine g_aload_n C 0 dX5_passOneHour_13 rfl rfl ?_
        refine x_gmain C H (fX5_45 rfl) rfl ((ns : Int)) h7 dX5_passOneHour_14 ?_
        refine g_icmp_ge C 48 dX5_passOneHour_17 (by decide) (by omega) (by omega) (fun c17 => ?_) (fun c17 => ?_)
        · omega
        · refine g_aload_n C 0 dX5_passOneHour_20 rfl rfl ?_
          refine x_rmain C H 17 (fX5_38 rfl) (by omega) dX5_passOneHour_21 ?_
          refine g_iload_n C 1 dX5_passOneHour_24 rfl rfl ?_
          refine x_shas C H i (by omega) (by omega) (s i) rfl dX5_passOneHour_25 ?_
          refine x_call C H F [] _ (kX5_150 rfl) (e3_isMoving_t hsi hNV em) rfl rfl (H.2.1.2.2.2.2.2.2.2.2 _ hsi) (by decide) (by omega) (by omega) (Nat.le_of_ble_eq_true rfl) dX5_passOneHour_26 (fun h H F => ?_)
          refine g_if_eq C 42 dX5_passOneHour_29 (by decide) (by omega) (fun c29 => ?_) (fun c29 => ?_)
          · omega
          · refine g_aload_n C 0 dX5_passOneHour_32 rfl rfl ?_
            refine g_aload_n C 0 dX5_passOneHour_33 rfl rfl ?_
            refine x_rmain C H 17 (fX5_38 rfl) (by omega) dX5_passOneHour_34 ?_
            refine g_iload_n C 1 dX5_passOneHour_37 rfl rfl ?_
            refine x_shas C H i (by omega) (by omega) (s i) rfl dX5_passOneHour_38 ?_
            refine x_call C H F [_] _ (kX5_293 rfl) (e5_copy hsi p1 p2 p3 p4 p5 p6) rfl rfl H.2.1.1 (by decide) (by omega) (by omega) (Nat.le_of_ble_eq_true rfl) dX5_passOneHour_39 (fun h H F => ?_)
            refine s_iinc (lo' := [_, _]) C dX5_passOneHour_42 rfl (by decide) rfl ?_
            refine g_goto C 12 dX5_passOneHour_45 (by decide) ?_
            exact ih (i + 1) _ (by omega) (by rw [ypc, if_pos em, ypcB, if_pos em]; exact H) F
  show gG w m 2 Wp h 0 0 [some (.ref 1), none] [] 0
  refine g_aload_n C 0 dX5_passOneHour_0 rfl rfl ?_
  refine g_dup C dX5_passOneHour_1 rfl ?_
  refine x_gmain C H (fX5_193 rfl) rfl (Y 0 8) rfl dX5_passOneHour_2 ?_
  refine g_iconst C dX5_passOneHour_5 ?_
  refine g_iadd C dX5_passOneHour_6 ?_
  refine x_pmain C H F (fX5_193 rfl) rfl dX5_passOneHour_7 (fun h H F => ?_)
  refine g_iconst C dX5_passOneHour_10 ?_
  refine s_istore_n (lo' := [_, _]) C 1 dX5_passOneHour_11 rfl (by decide) rfl ?_
  exact L12 ns 0 _ (by omega) H F

end XF
