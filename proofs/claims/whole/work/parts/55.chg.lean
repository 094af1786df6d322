/-! BOTH SIDES: what is written, what is taken away -/
theorem qs_upd (f : Nat → Int) (k : Nat) (v : Int) (a n : Nat) : gsum (va_up f k v) a n = gsum f a n + if a ≤ k ∧ k < a + n then v - f k else 0 := by
  by_cases h : a ≤ k ∧ k < a + n
  · rw [if_pos h, qs_one (f := f) a k n (fun i _ _ z => by unfold va_up; rw [if_neg z]) h.1 h.2]
    have : va_up f k v k = v := by unfold va_up; rw [if_pos rfl]
    rw [this]; omega
  · rw [if_neg h, gsum_congr (f := va_up f k v) (g := f) a n (fun i x y => by unfold va_up; rw [if_neg (fun z => h (by subst z; exact ⟨x, y⟩))])]; omega
theorem yadd_5 (Y : gS) (t b : Int) (t2 : Nat) (h : t2 < 4) : yadd Y t b 5 t2 = Y 5 t2 + if t = t2 then b else 0 := by
  unfold yadd
  split
  · rw [su_f]
    by_cases e : t2 = t.toNat
    · rw [if_pos ⟨rfl, e⟩, if_pos (by omega), e]
    · rw [if_neg (fun z => e z.2), if_neg (by omega)]; omega
  · rw [if_neg (by omega)]; omega
theorem ychg_g (Y : gS) (q k : Nat) (t b : Int) {f : Nat} (hf : f ≠ 0 ∧ f ≠ 4 ∧ f ≠ 5 ∧ f ≠ 8 ∧ f ≠ 9 ∧ f ≠ 17 ∧ f ≠ 18) : ychg Y q k t b f = Y f := by
  funext i
  unfold ychg
  rw [su_ne (by omega), su_ne (by omega), su_ne (by omega), su_ne (by omega), su_ne (by omega), yadd_ne (by omega), yadd_ne (by omega), su_ne (by omega)]
theorem ychg_0 (Y : gS) (q k : Nat) (t b : Int) (i : Nat) : ychg Y q k t b 0 i = if i = 13 then Y 0 13 + 1 else Y 0 i := by
  unfold ychg
  rw [su_ne (by omega), su_ne (by omega), su_ne (by omega), su_ne (by omega), su_ne (by omega), yadd_ne (by omega), yadd_ne (by omega), su_f]
  by_cases e : i = 13
  · rw [if_pos ⟨rfl, e⟩, if_pos e]
  · rw [if_neg (fun z => e z.2), if_neg e]
theorem ychg_4 (Y : gS) (q k : Nat) (t b : Int) (z : Nat) : ychg Y q k t b 4 z = if z = (Y 12 q).toNat then Y 4 (Y 12 q).toNat + (b - Y 8 k) else Y 4 z := by
  unfold ychg
  rw [su_ne (by omega), su_f]
  by_cases e : z = (Y 12 q).toNat
  · rw [if_pos ⟨rfl, e⟩, if_pos e]
  · rw [if_neg (fun z => e z.2), if_neg e, su_ne (by omega), su_ne (by omega), su_ne (by omega), yadd_ne (by omega), yadd_ne (by omega), su_ne (by omega)]
theorem ychg_5 (Y : gS) (q k : Nat) (t b : Int) (t2 : Nat) (h : t2 < 4) : ychg Y q k t b 5 t2 = Y 5 t2 + (if Y 9 k = t2 then -Y 8 k else 0) + if t = t2 then b else 0 := by
  unfold ychg
  rw [su_ne (by omega), su_ne (by omega), su_ne (by omega), su_ne (by omega), su_ne (by omega), yadd_5 _ _ _ _ h, yadd_5 _ _ _ _ h, su_ne (by omega)]
theorem ychg_8 (Y : gS) (q k : Nat) (t b : Int) (i : Nat) : ychg Y q k t b 8 i = if i = k then b else Y 8 i := by
  unfold ychg
  rw [su_ne (by omega), su_ne (by omega), su_ne (by omega), su_f]
  by_cases e : i = k
  · rw [if_pos ⟨rfl, e⟩, if_pos e]
  · rw [if_neg (fun z => e z.2), if_neg e, su_ne (by omega), yadd_ne (by omega), yadd_ne (by omega), su_ne (by omega)]
theorem ychg_9 (Y : gS) (q k : Nat) (t b : Int) (i : Nat) : ychg Y q k t b 9 i = if i = k then t else Y 9 i := by
  unfold ychg
  rw [su_ne (by omega), su_ne (by omega), su_ne (by omega), su_ne (by omega), su_f]
  by_cases e : i = k
  · rw [if_pos ⟨rfl, e⟩, if_pos e]
  · rw [if_neg (fun z => e z.2), if_neg e, yadd_ne (by omega), yadd_ne (by omega), su_ne (by omega)]
theorem ychg_17 (Y : gS) (q k : Nat) (t b : Int) (i : Nat) : ychg Y q k t b 17 i = if i = q then Y 17 q + (b - Y 8 k) else Y 17 i := by
  unfold ychg
  rw [su_ne (by omega), su_ne (by omega), su_f]
  by_cases e : i = q
  · rw [if_pos ⟨rfl, e⟩, if_pos e]
  · rw [if_neg (fun z => e z.2), if_neg e, su_ne (by omega), su_ne (by omega), yadd_ne (by omega), yadd_ne (by omega), su_ne (by omega)]
theorem ychg_18 (Y : gS) (q k : Nat) (t b : Int) (i : Nat) : ychg Y q k t b 18 i = if i = q then Y 18 q + 1 else Y 18 i := by
  unfold ychg
  rw [su_f]
  by_cases e : i = q
  · rw [if_pos ⟨rfl, e⟩, if_pos e]
  · rw [if_neg (fun z => e z.2), if_neg e, su_ne (by omega), su_ne (by omega), su_ne (by omega), su_ne (by omega), yadd_ne (by omega), yadd_ne (by omega), su_ne (by omega)]
section QE
variable {S Y : gS} {s : Nat → Nat} {nm ns j : Nat}
theorem swr_sz (S : gS) (key j : Nat) (t b : Int) (i : Nat) : gsize (swr S key j t b) i = gsize S i + if (S 7 i).toNat ≤ key ∧ key < (S 7 (i + 1)).toNat then b - S 6 key else 0 := by
  unfold gsize
  show gsum (va_up (S 6) key b) (S 7 i).toNat ((S 7 (i + 1)).toNat - (S 7 i).toNat) = _
  rw [qs_upd]
  by_cases c : (S 7 i).toNat ≤ key ∧ key < (S 7 (i + 1)).toNat
  · rw [if_pos c, if_pos (by omega)]
  · rw [if_neg c, if_neg (by omega)]
theorem swr_cp (S : gS) (key j : Nat) (t b : Int) (i : Nat) : gcop (swr S key j t b) i = gcop S i + if S 9 i ≠ -1 ∧ (S 7 i).toNat ≤ key ∧ key < (S 10 i).toNat then b - S 6 key else 0 := by
  unfold gcop
  show (if S 9 i = -1 then 0 else gsum (va_up (S 6) key b) (S 7 i).toNat ((S 10 i).toNat - (S 7 i).toNat)) = _
  by_cases d : S 9 i = -1
  · rw [if_pos d, if_pos d, if_neg (fun z => z.1 d)]; rfl
  · rw [if_neg d, if_neg d, qs_upd]
    by_cases c : (S 7 i).toNat ≤ key ∧ key < (S 10 i).toNat
    · rw [if_pos (show (S 7 i).toNat ≤ key ∧ key < (S 7 i).toNat + ((S 10 i).toNat - (S 7 i).toNat) by omega), if_pos ⟨d, c⟩]
    · rw [if_neg (show ¬ ((S 7 i).toNat ≤ key ∧ key < (S 7 i).toNat + ((S 10 i).toNat - (S 7 i).toNat)) by omega), if_neg (fun z => c z.2)]
theorem swr_bof (S : gS) {key : Nat} (j : Nat) (t b : Int) (hk : key < 1000) (t2 : Int) : gbof (swr S key j t b) t2 = gbof S t2 - (if S 5 key = t2 then S 6 key else 0) + if t = t2 then b else 0 := by
  unfold gbof
  rw [qs_one (f := gbofF S t2) 0 key 1000 (fun i _ _ z => ?_) (by omega) (by omega)]
  · show _ - gbofF S t2 key + (if va_up (S 5) key t key = t2 then va_up (S 6) key b key else 0) = _
    rw [show va_up (S 5) key t key = t from if_pos rfl, show va_up (S 6) key b key = b from if_pos rfl]
    rfl
  · show (if va_up (S 5) key t i = t2 then va_up (S 6) key b i else 0) = gbofF S t2 i
    rw [show va_up (S 5) key t i = S 5 i from if_neg z, show va_up (S 6) key b i = S 6 i from if_neg z]
    rfl
/-- the shards' bytes, behind a change at a key of the shard j -/
theorem swr_held (h : qS S nm ns) {key : Nat} (t b : Int) (hj : j < ns) (k1 : S 7 j ≤ key) (k2 : key < S 7 (j + 1)) (m : Int) : gheld (swr S key j t b) m = gheld S m + (if S 8 j = m then b - S 6 key else 0) + if S 9 j = m ∧ S 9 j ≠ -1 ∧ key < S 10 j then b - S 6 key else 0 := by
  obtain ⟨h1, h2, h0, hs, t1, t2, t3⟩ := h
  have s3 := hs.2.2.1
  rw [gheld_n s3, gheld_n (S := swr S key j t b) s3]
  rw [qs_one (f := gheldF S m) 0 j ns (fun i _ hi z => ?_) (by omega) (by omega)]
  · have b1 := h1 j
    have b2 := h1 (j + 1)
    have f1 : gheldF S m j = (if S 8 j = m then gsize S j else 0) + (if S 9 j = m then gcop S j else 0) := rfl
    have f2 : gheldF (swr S key j t b) m j = (if S 8 j = m then gsize (swr S key j t b) j else 0) + (if S 9 j = m then gcop (swr S key j t b) j else 0) := rfl
    rw [swr_sz, swr_cp, if_pos (show (S 7 j).toNat ≤ key ∧ key < (S 7 (j + 1)).toNat by omega)] at f2
    omega
  · have b1 := h1 i
    have b2 := h1 (i + 1)
    have u : ¬ (S 7 i ≤ key ∧ key < S 7 (i + 1)) := fun q => z (qr_uniq hs (show i < ns by omega) hj q.1 q.2 k1 k2)
    have b3 := (hs.2.2.2.2.2.2.2.2 i (by omega)).2.2.2
    show (if S 8 i = m then gsize (swr S key j t b) i else 0) + (if S 9 i = m then gcop (swr S key j t b) i else 0) = _
    rw [swr_sz, swr_cp, if_neg (show ¬ ((S 7 i).toNat ≤ key ∧ key < (S 7 (i + 1)).toNat) by omega), if_neg (show ¬ (S 9 i ≠ -1 ∧ (S 7 i).toNat ≤ key ∧ key < (S 10 i).toNat) by omega), Int.add_zero, Int.add_zero]
    rfl
/-- a change, with what becomes of the copy -/
theorem qr_chg {key : Nat} {t b tc : Int} (h : qR S Y s nm ns) (hi : qI s) (hj : j < ns) (hk : key < 1000) (k1 : S 7 j ≤ key) (k2 : key < S 7 (j + 1)) (hn : 0 < nm) (h8 : S 0 8 < 600) (ht : 0 ≤ t ∧ t ≤ 3) (hb : 0 ≤ b ∧ b ≤ 100) (htc : tc = if b = 0 then -1 else t) :
    (¬ (S 9 j ≠ -1 ∧ key < S 10 j) → qR (swr S key j t b) (ychg Y (s j) key tc b) s nm ns) ∧
    (S 9 j ≠ -1 ∧ key < S 10 j → qR (swr S key j t b) (su (su (ychg Y (s j) key tc b) 4 (Y 13 (s j)).toNat (Y 4 (Y 13 (s j)).toNat + (b - S 6 key))) 16 (s j) (Y 16 (s j) + (b - S 6 key))) s nm ns) := by
  have hS := h.1
  obtain ⟨⟨h1, h2, ⟨h01, h07, h08⟩, hs, t1, t2, t3⟩, ⟨u1, u2, u3, u4, u5, u6, u7⟩, ⟨n1, ⟨n2, n3, n4⟩, n5, n6⟩, ⟨K1, K2, K3⟩, hZ, hG⟩ := h
  obtain ⟨⟨r1, r2⟩, ⟨r3, r4⟩, r5, r6, r7, r8⟩ := hZ.1 j hj
  have b1 := h1 j
  have b2 := h1 (j + 1)
  have b9 := hs.2.2.2.2.2.2.2.2 j hj
  have hns := hs.2.2.2.2.1
  have hnm := hs.2.1
  have e6 : ∀ i, swr S key j t b 6 i = if i = key then b else S 6 i := fun i => rfl
  have e5 : ∀ i, swr S key j t b 5 i = if i = key then t else S 5 i := fun i => rfl
  have pS : qS (swr S key j t b) nm ns := by
    refine ⟨h1, fun i => ?_, ⟨h01, h07, ?_⟩, hs, fun z => by omega, t2, t3⟩
    · have a := h2 i
      refine ⟨a.1, a.2.1, a.2.2.1, ?_, ?_⟩
      · rw [e5]; split <;> omega
      · rw [e6]; split <;> omega
    · show 0 ≤ S 0 8 + 1 ∧ S 0 8 + 1 ≤ 600; omega
  have pU : ∀ V : gS, (∀ i, V 0 i = if i = 13 then Y 0 13 + 1 else Y 0 i) → qU (swr S key j t b) V nm ns := fun V hV => by
    refine ⟨by rw [hV, if_neg (by omega)]; exact u1, by rw [hV, if_neg (by omega)]; exact u2, by rw [hV, if_neg (by omega)]; exact u3, by rw [hV, if_pos rfl]; show Y 0 13 + 1 = S 0 8 + 1; omega, by rw [hV, if_neg (by omega)]; exact u5, by rw [hV, if_neg (by omega)]; exact u6, by rw [hV, if_neg (by omega)]; exact u7⟩
  have pN : ∀ V : gS, V 1 = Y 1 → V 2 = Y 2 → V 3 = Y 3 → V 4 0 = 0 → qN (swr S key j t b) V nm := fun V v1 v2 v3 v4 => by
    refine ⟨by unfold gNu; rw [v1]; exact n1, ⟨by rw [v2]; exact n2, by rw [v3]; exact n3, v4⟩, by rw [v2, v3]; exact n5, by rw [v3]; exact n6⟩
  have pK : ∀ V : gS, (∀ t2, t2 < 4 → V 5 t2 = ychg Y (s j) key tc b 5 t2) → V 6 = Y 6 → V 7 = Y 7 → V 8 = ychg Y (s j) key tc b 8 → V 9 = ychg Y (s j) key tc b 9 → qK (swr S key j t b) V := fun V v5 v6 v7 v8 v9 => by
    refine ⟨fun t2 ht2 => ⟨?_, ?_, ?_⟩, fun k => ?_, fun k hk2 => ?_⟩
    · rw [v5 t2 ht2, ychg_5 _ _ _ _ _ _ ht2, swr_bof S j t b hk, (K1 t2 ht2).1, K2 key]
      have a := K3 key hk
      split at a <;> split at htc <;> omega
    · rw [v6]; exact (K1 t2 ht2).2.1
    · rw [v7]; exact (K1 t2 ht2).2.2
    · rw [v8, ychg_8, e6, K2]
    · rw [v9, ychg_9, e6, e5]
      by_cases e : k = key
      · rw [if_pos e, if_pos e, if_pos e, htc]
      · rw [if_neg e, if_neg e, if_neg e]; exact K3 k hk2
  have zsz : gsize (swr S key j t b) j = gsize S j + (b - S 6 key) := by rw [swr_sz, if_pos (by omega)]
  have pZ : ∀ V : gS, (∀ f, f ≠ 16 → 10 ≤ f → f ≤ 18 → V f = ychg Y (s j) key tc b f) → (∀ q, q ≠ s j → V 16 q = Y 16 q) → V 16 (s j) = gcop (swr S key j t b) j → qZ (swr S key j t b) V ns s := fun V hV v16 v16j => by
    have vv : ∀ f q, 10 ≤ f → f ≤ 18 → q ≠ s j → V f q = Y f q := fun f q f1 f2 hq => by
      by_cases f16 : f = 16
      · rw [f16]; exact v16 q hq
      · rw [hV f f16 f1 f2]
        by_cases f17 : f = 17
        · rw [f17, ychg_17, if_neg hq]
        · by_cases f18 : f = 18
          · rw [f18, ychg_18, if_neg hq]
          · rw [ychg_g _ _ _ _ _ (by omega)]
    have vf : ∀ f, 10 ≤ f → f ≤ 15 → V f (s j) = Y f (s j) := fun f f1 f2 => by rw [hV f (by omega) f1 (by omega), ychg_g _ _ _ _ _ (by omega)]
    refine ⟨fun i hi2 => ?_, fun i x y => ?_, fun q => ?_⟩
    · by_cases e : i = j
      · subst e
        refine ⟨⟨by rw [vf 10 (by omega) (by omega)]; exact r1, by rw [vf 11 (by omega) (by omega)]; exact r2⟩, ⟨by rw [vf 12 (by omega) (by omega)]; exact r3, by rw [vf 13 (by omega) (by omega)]; exact r4⟩, ?_, v16j, ?_, ?_⟩
        · rw [vf 14 (by omega) (by omega), vf 15 (by omega) (by omega)]; exact r5
        · rw [hV 17 (by omega) (by omega) (by omega), ychg_17, if_pos rfl, zsz, r7, K2]
        · rw [hV 18 (by omega) (by omega) (by omega), ychg_18, if_pos rfl, r8]
          show _ = su _ 12 i (S 12 i + 1) 12 i
          rw [su_eq]
      · have hq : s i ≠ s j := fun z => e (hi i j (by omega) (by omega) z)
        obtain ⟨⟨x1, x2⟩, ⟨x3, x4⟩, x5, x6, x7, x8⟩ := hZ.1 i hi2
        have b1 := h1 i
        have b2 := h1 (i + 1)
        have b3 := (hs.2.2.2.2.2.2.2.2 i hi2).2.2.2
        have u : ¬ (S 7 i ≤ key ∧ key < S 7 (i + 1)) := fun q => e (qr_uniq hs hi2 hj q.1 q.2 k1 k2)
        unfold qrow
        rw [vv 10 _ (by omega) (by omega) hq, vv 11 _ (by omega) (by omega) hq, vv 12 _ (by omega) (by omega) hq, vv 13 _ (by omega) (by omega) hq, vv 14 _ (by omega) (by omega) hq, vv 15 _ (by omega) (by omega) hq, vv 16 _ (by omega) (by omega) hq, vv 17 _ (by omega) (by omega) hq, vv 18 _ (by omega) (by omega) hq, swr_sz, swr_cp, if_neg (show ¬ ((S 7 i).toNat ≤ key ∧ key < (S 7 (i + 1)).toNat) by omega), if_neg (show ¬ (S 9 i ≠ -1 ∧ (S 7 i).toNat ≤ key ∧ key < (S 10 i).toNat) by omega), Int.add_zero, Int.add_zero]
        refine ⟨⟨x1, x2⟩, ⟨x3, x4⟩, x5, x6, x7, ?_⟩
        show _ = su _ 12 j _ 12 i
        rw [su_ne (Or.inr e)]; exact x8
    · have hq : s i ≠ s j := fun z => by have := hi i j (by omega) (by omega) z; omega
      rw [vv 13 _ (by omega) (by omega) hq, vv 16 _ (by omega) (by omega) hq]
      exact hZ.2.1 i x y
    · by_cases e : q = s j
      · rw [e, vf 14 (by omega) (by omega)]; exact hZ.2.2 _
      · rw [vv 14 _ (by omega) (by omega) e]; exact hZ.2.2 q
  have hz0 : (Y 12 (s j)).toNat ≠ 0 := by omega
  refine ⟨fun hc => ⟨pS, pU _ (fun i => ychg_0 _ _ _ _ _ i), pN _ (ychg_g _ _ _ _ _ (by omega)) (ychg_g _ _ _ _ _ (by omega)) (ychg_g _ _ _ _ _ (by omega)) (by rw [ychg_4, if_neg (by omega)]; exact n4), pK _ (fun _ _ => rfl) (ychg_g _ _ _ _ _ (by omega)) (ychg_g _ _ _ _ _ (by omega)) rfl rfl, pZ _ (fun _ _ _ _ => rfl) (fun q _ => by rw [ychg_g _ _ _ _ _ (by omega)]) ?_, fun m hm => ?_⟩, fun hc => ⟨pS, pU _ (fun i => by rw [su_ne (by omega), su_ne (by omega)]; exact ychg_0 _ _ _ _ _ i), pN _ (by rw [su_g (by omega), su_g (by omega)]; exact ychg_g _ _ _ _ _ (by omega)) (by rw [su_g (by omega), su_g (by omega)]; exact ychg_g _ _ _ _ _ (by omega)) (by rw [su_g (by omega), su_g (by omega)]; exact ychg_g _ _ _ _ _ (by omega)) ?_, pK _ (fun t2 _ => by rw [su_ne (by omega), su_ne (by omega)]) (by rw [su_g (by omega), su_g (by omega)]; exact ychg_g _ _ _ _ _ (by omega)) (by rw [su_g (by omega), su_g (by omega)]; exact ychg_g _ _ _ _ _ (by omega)) (by rw [su_g (by omega), su_g (by omega)]) (by rw [su_g (by omega), su_g (by omega)]), pZ _ (fun f x _ _ => by rw [su_g x, su_g (by omega)]) (fun q hq => by rw [su_ne (Or.inr hq), su_ne (by omega), ychg_g _ _ _ _ _ (by omega)]) ?_, fun m hm => ?_⟩⟩
  · rw [ychg_g _ _ _ _ _ (by omega), r6, swr_cp, if_neg (by omega), Int.add_zero]
  · rw [ychg_4, swr_held hS t b hj k1 k2, if_neg (show ¬ (S 9 j = (m : Int) ∧ S 9 j ≠ -1 ∧ (key : Int) < S 10 j) from fun z => hc z.2), K2]
    have g := hG m hm
    by_cases e : S 8 j = m
    · have e2 : (Y 12 (s j)).toNat = m + 1 := by omega
      rw [e2, if_pos rfl, if_pos e]; omega
    · rw [if_neg (by omega), if_neg e]; omega
  · rw [su_ne (by omega), su_ne (by omega), ychg_4, if_neg (by omega)]; exact n4
  · rw [su_eq, r6, swr_cp, if_pos (by omega)]
  · have g := hG m hm
    have t2j := t2 j hj hc.1
    rw [su_ne (by omega), su_f, swr_held hS t b hj k1 k2, ychg_4, K2]
    by_cases e : S 8 j = m
    · have e2 : (Y 12 (s j)).toNat = m + 1 := by omega
      rw [e2, if_neg (by omega), if_pos rfl, if_pos e, if_neg (by omega)]; omega
    · rw [if_neg e, if_neg (show ¬ m + 1 = (Y 12 (s j)).toNat by omega)]
      by_cases e3 : S 9 j = m
      · have e4 : (Y 13 (s j)).toNat = m + 1 := by omega
        rw [e4, if_pos ⟨rfl, rfl⟩, if_pos ⟨e3, hc⟩]; omega
      · rw [if_neg (by omega), if_neg (fun z => e3 z.1)]; omega
end QE
