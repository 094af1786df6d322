/-! THE LAW: the cases of its switch (laid by wip/whole/gen/l3.py) -/
section LS
variable {w : gW} {l : Launch} {p : Program} {e : Env} {s : State} {m : MethodId} {args : Array Value} {below : List Frame} {meth : Method} {c : Code} {Q : State → Prop} {L : Nat} {xs : Nat → Int32} {h : gH} {k u : Nat} {S Y : gS} {sr : Nat → Nat} {A : List gCE} {B : List gOE} {nm ns cn : Nat} {z5 z6 : Option Value}

set_option maxRecDepth 100000 in
set_option maxHeartbeats 4000000 in
theorem j_machine (hfl : l.stackTraces = false) (C : gE w yL_law cL_law 7 (some .boolean) p s m args meth c) (hX : va_X (wb w) L xs s (wH w)) (hL : L ≤ 2048) (H : qSt h k u S Y sr A B nm ns (cn : Int)) (hi : 4 * cn + 4 ≤ L) (K : qNx w m (eW p l e room_1 s m args below meth c Q) cn 1330) : gG w m 7 (eW p l e room_1 s m args below meth c Q) h k u [some (.ref 0), some (.ref 1), some (.ref 34), some (.ref 47), some (.int (iI ((4 * cn : Nat) : Int))), z5, z6] [] 136 := by
  have hcn : (cn : Int) ≤ 512 := by omega
  have H6 := H.2.2.2.2.2.1
  refine e_aload_n C 1 dL_law_136 rfl rfl ?_
  refine e_aload_n C 0 dL_law_137 rfl rfl ?_
  refine e_iload C dL_law_138 rfl ?_
  refine e_iconst C dL_law_140 ?_
  refine e_iadd C dL_law_141 ?_
  refine e_sld C hX (4 * cn + 1) (by omega) (by omega) (by omega) dL_law_142 ?_
  refine e_aload_n C 3 dL_law_143 rfl rfl ?_
  obtain ⟨mc, ms, post, hM, hk, hu, hp⟩ := law_call (F := Int32.toInt64) H hcn (qo_machine hfl H6 (xs (4 * cn + 1)).toInt (iI_r _)) (by decide) (by decide) (fun a b c d => w_machine a b c d)
  refine e_callW (n := 3) C [.ref 1, .int (iI (xs (4 * cn + 1)).toInt), .ref 47] [] (lq_machine).1 (lq_machine).2.1 (lq_machine).2.2.1 (lq_machine).2.2.2 ⟨by decide +kernel, by decide +kernel, by decide +kernel⟩ hM rfl rfl (Nat.le_of_ble_eq_true rfl) (Nat.le_of_ble_eq_true rfl) hk hu (Nat.le_of_ble_eq_true rfl) dL_law_144 (fun r h1 hp1 => ?_)
  obtain ⟨q, b, S2, Y2, s2, A2, B2, nm2, ns2, rfl, hq, g1, K6, e1, e47, H2⟩ := hp r h1 hp1
  have k34 : gK h1 34 = (6, 20) := g1.1 0 (by omega)
  have k47 : gK (gwr h1 S2) 47 = (9, 1) := H2.2.2.2.1
  show gG w m 7 _ h1 (k + mc) (u + ms) [some (.ref 0), some (.ref 1), some (.ref 34), some (.ref 47), some (.int (iI ((4 * cn : Nat) : Int))), z5, z6] [.int (iI q)] 147
  refine t_istore (lo' := [some (.ref 0), some (.ref 1), some (.ref 34), some (.ref 47), some (.int (iI ((4 * cn : Nat) : Int))), some (.int (iI q)), z6]) C dL_law_147 (by decide) rfl ?_
  refine e_aload_n C 2 dL_law_149 rfl rfl ?_
  refine e_aload_n C 0 dL_law_150 rfl rfl ?_
  refine e_iload C dL_law_151 rfl ?_
  refine e_iconst C dL_law_153 ?_
  refine e_iadd C dL_law_154 ?_
  refine e_sld C hX (4 * cn + 1) (by omega) (by omega) (by omega) dL_law_155 ?_
  refine e_callV C [.int (iI (xs (4 * cn + 1)).toInt)] [] (kL_82 rfl) K6 rfl rfl k34 (Nat.le_of_ble_eq_true rfl) (Nat.le_of_ble_eq_true rfl) hk hu (Nat.le_of_ble_eq_true rfl) dL_law_156 (fun r h2 z => ?_)
  obtain ⟨rfl, rfl⟩ := z
  show gG w m 7 _ (gwr h1 S2) (k + mc) (u + ms) [some (.ref 0), some (.ref 1), some (.ref 34), some (.ref 47), some (.int (iI ((4 * cn : Nat) : Int))), some (.int (iI q)), z6] [.int (iI b)] 159
  refine t_istore (lo' := [some (.ref 0), some (.ref 1), some (.ref 34), some (.ref 47), some (.int (iI ((4 * cn : Nat) : Int))), some (.int (iI q)), some (.int (iI b))]) C dL_law_159 (by decide) rfl ?_
  refine e_aload_n C 2 dL_law_161 rfl rfl ?_
  refine e_callV C [] [] (kL_83 rfl) (c6_thrown (h := h1) (S := S2) g1) rfl rfl k34 (Nat.le_of_ble_eq_true rfl) (Nat.le_of_ble_eq_true rfl) hk hu (Nat.le_of_ble_eq_true rfl) dL_law_162 (fun r h3 z => ?_)
  obtain ⟨rfl, rfl⟩ := z
  show gG w m 7 _ (gwr h1 S2) (k + mc) (u + ms) [some (.ref 0), some (.ref 1), some (.ref 34), some (.ref 47), some (.int (iI ((4 * cn : Nat) : Int))), some (.int (iI q)), some (.int (iI b))] [.int (iI (S2 0 0))] 165
  refine e_iload C dL_law_165 rfl ?_
  refine e_icmp_eq C 172 dL_law_167 (by decide) (by omega) (by omega) (fun _ => ?_) (fun z => absurd e1 z)
  refine e_iload C dL_law_172 rfl ?_
  refine e_if_ne C 189 dL_law_174 (by decide) (by omega) (fun c1 => ?_) (fun c1 => ?_)
  · refine e_goto C 1330 dL_law_189 (by decide) ?_
    exact K _ _ _ _ _ _ _ _ _ _ _ _ H2
  · refine e_aload_n C 3 dL_law_177 rfl rfl ?_
    refine e_iconst C dL_law_178 ?_
    refine e_lald C k47 dL_law_179 ?_
    rw [show gJ (gwr h1 S2) 47 = _ from e47 c1]
    refine e_iload C dL_law_180 rfl ?_
    refine e_i2l C dL_law_182 ?_
    refine e_lcmp C dL_law_183 ?_
    rw [lg_cmp_self]
    refine e_if_eq C 189 dL_law_184 (by decide) (by omega) (fun _ => ?_) (fun z => absurd rfl z)
    refine e_goto C 1330 dL_law_189 (by decide) ?_
    exact K _ _ _ _ _ _ _ _ _ _ _ _ H2

set_option maxRecDepth 100000 in
set_option maxHeartbeats 4000000 in
theorem j_down (hfl : l.stackTraces = false) (C : gE w yL_law cL_law 7 (some .boolean) p s m args meth c) (hX : va_X (wb w) L xs s (wH w)) (hL : L ≤ 2048) (H : qSt h k u S Y sr A B nm ns (cn : Int)) (hi : 4 * cn + 4 ≤ L) (K : qNx w m (eW p l e room_1 s m args below meth c Q) cn 1330) : gG w m 7 (eW p l e room_1 s m args below meth c Q) h k u [some (.ref 0), some (.ref 1), some (.ref 34), some (.ref 47), some (.int (iI ((4 * cn : Nat) : Int))), z5, z6] [] 192 := by
  have hcn : (cn : Int) ≤ 512 := by omega
  have H6 := H.2.2.2.2.2.1
  refine e_aload_n C 1 dL_law_192 rfl rfl ?_
  refine e_aload_n C 0 dL_law_193 rfl rfl ?_
  refine e_iload C dL_law_194 rfl ?_
  refine e_iconst C dL_law_196 ?_
  refine e_iadd C dL_law_197 ?_
  refine e_sld C hX (4 * cn + 1) (by omega) (by omega) (by omega) dL_law_198 ?_
  refine e_aload_n C 0 dL_law_199 rfl rfl ?_
  refine e_iload C dL_law_200 rfl ?_
  refine e_iconst C dL_law_202 ?_
  refine e_iadd C dL_law_203 ?_
  refine e_sld C hX (4 * cn + 2) (by omega) (by omega) (by omega) dL_law_204 ?_
  refine e_bool C (iI_r _) 212 213 dL_law_205 (by decide) dL_law_208 dL_law_209 (by decide) dL_law_212 rfl ?_
  refine e_aload_n C 3 dL_law_213 rfl rfl ?_
  obtain ⟨mc, ms, post, hM, hk, hu, hp⟩ := law_call (F := fun x => if x.toInt = 0 then 0 else 1) H hcn (qo_down hfl H6 (xs (4 * cn + 1)).toInt (iI_r _) (if (xs (4 * cn + 2)).toInt = 0 then (0 : Int) else 1) (by split <;> simp)) (by decide) (by decide) (fun a b c d => w_down a b c d)
  refine e_callW (n := 4) C [.ref 1, .int (iI (xs (4 * cn + 1)).toInt), .int (iI (if (xs (4 * cn + 2)).toInt = 0 then (0 : Int) else 1)), .ref 47] [] (lq_down).1 (lq_down).2.1 (lq_down).2.2.1 (lq_down).2.2.2 ⟨by decide +kernel, by decide +kernel, by decide +kernel⟩ hM rfl rfl (Nat.le_of_ble_eq_true rfl) (Nat.le_of_ble_eq_true rfl) hk hu (Nat.le_of_ble_eq_true rfl) dL_law_214 (fun r h1 hp1 => ?_)
  obtain ⟨q, b, S2, Y2, s2, A2, B2, nm2, ns2, rfl, hq, g1, K6, e1, e47, H2⟩ := hp r h1 hp1
  have k34 : gK h1 34 = (6, 20) := g1.1 0 (by omega)
  have k47 : gK (gwr h1 S2) 47 = (9, 1) := H2.2.2.2.1
  show gG w m 7 _ h1 (k + mc) (u + ms) [some (.ref 0), some (.ref 1), some (.ref 34), some (.ref 47), some (.int (iI ((4 * cn : Nat) : Int))), z5, z6] [.int (iI q)] 217
  refine t_istore (lo' := [some (.ref 0), some (.ref 1), some (.ref 34), some (.ref 47), some (.int (iI ((4 * cn : Nat) : Int))), some (.int (iI q)), z6]) C dL_law_217 (by decide) rfl ?_
  refine e_aload_n C 2 dL_law_219 rfl rfl ?_
  refine e_aload_n C 0 dL_law_220 rfl rfl ?_
  refine e_iload C dL_law_221 rfl ?_
  refine e_iconst C dL_law_223 ?_
  refine e_iadd C dL_law_224 ?_
  refine e_sld C hX (4 * cn + 1) (by omega) (by omega) (by omega) dL_law_225 ?_
  refine e_aload_n C 0 dL_law_226 rfl rfl ?_
  refine e_iload C dL_law_227 rfl ?_
  refine e_iconst C dL_law_229 ?_
  refine e_iadd C dL_law_230 ?_
  refine e_sld C hX (4 * cn + 2) (by omega) (by omega) (by omega) dL_law_231 ?_
  refine e_bool C (iI_r _) 239 240 dL_law_232 (by decide) dL_law_235 dL_law_236 (by decide) dL_law_239 rfl ?_
  refine e_callV C [.int (iI (xs (4 * cn + 1)).toInt), .int (iI (if (xs (4 * cn + 2)).toInt = 0 then (0 : Int) else 1))] [] (kL_90 rfl) K6 rfl rfl k34 (Nat.le_of_ble_eq_true rfl) (Nat.le_of_ble_eq_true rfl) hk hu (Nat.le_of_ble_eq_true rfl) dL_law_240 (fun r h2 z => ?_)
  obtain ⟨rfl, rfl⟩ := z
  show gG w m 7 _ (gwr h1 S2) (k + mc) (u + ms) [some (.ref 0), some (.ref 1), some (.ref 34), some (.ref 47), some (.int (iI ((4 * cn : Nat) : Int))), some (.int (iI q)), z6] [.int (iI b)] 243
  refine t_istore (lo' := [some (.ref 0), some (.ref 1), some (.ref 34), some (.ref 47), some (.int (iI ((4 * cn : Nat) : Int))), some (.int (iI q)), some (.int (iI b))]) C dL_law_243 (by decide) rfl ?_
  refine e_aload_n C 2 dL_law_245 rfl rfl ?_
  refine e_callV C [] [] (kL_83 rfl) (c6_thrown (h := h1) (S := S2) g1) rfl rfl k34 (Nat.le_of_ble_eq_true rfl) (Nat.le_of_ble_eq_true rfl) hk hu (Nat.le_of_ble_eq_true rfl) dL_law_246 (fun r h3 z => ?_)
  obtain ⟨rfl, rfl⟩ := z
  show gG w m 7 _ (gwr h1 S2) (k + mc) (u + ms) [some (.ref 0), some (.ref 1), some (.ref 34), some (.ref 47), some (.int (iI ((4 * cn : Nat) : Int))), some (.int (iI q)), some (.int (iI b))] [.int (iI (S2 0 0))] 249
  refine e_iload C dL_law_249 rfl ?_
  refine e_icmp_eq C 256 dL_law_251 (by decide) (by omega) (by omega) (fun _ => ?_) (fun z => absurd e1 z)
  refine e_iload C dL_law_256 rfl ?_
  refine e_if_ne C 280 dL_law_258 (by decide) (by omega) (fun c1 => ?_) (fun c1 => ?_)
  · refine e_goto C 1330 dL_law_280 (by decide) ?_
    exact K _ _ _ _ _ _ _ _ _ _ _ _ H2
  · refine e_aload_n C 3 dL_law_261 rfl rfl ?_
    refine e_iconst C dL_law_262 ?_
    refine e_lald C k47 dL_law_263 ?_
    rw [show gJ (gwr h1 S2) 47 = _ from e47 c1]
    refine e_iload C dL_law_264 rfl ?_
    rw [show (.int (iI b) : Value) = .int (iI (iI b).toInt) by rw [iI_of]]
    refine e_if_eq C 273 dL_law_266 (by decide) (iI_r _) (fun c2 => ?_) (fun c2 => ?_)
    · rw [if_pos c2]
      refine e_lconst C 0 dL_law_273 rfl ?_
      refine e_lcmp C dL_law_274 ?_
      rw [lg_cmp_self]
      refine e_if_eq C 280 dL_law_275 (by decide) (by omega) (fun _ => ?_) (fun z => absurd rfl z)
      refine e_goto C 1330 dL_law_280 (by decide) ?_
      exact K _ _ _ _ _ _ _ _ _ _ _ _ H2
    · rw [if_neg c2]
      refine e_lconst C 1 dL_law_269 rfl ?_
      refine e_goto C 274 dL_law_270 (by decide) ?_
      refine e_lcmp C dL_law_274 ?_
      rw [lg_cmp_self]
      refine e_if_eq C 280 dL_law_275 (by decide) (by omega) (fun _ => ?_) (fun z => absurd rfl z)
      refine e_goto C 1330 dL_law_280 (by decide) ?_
      exact K _ _ _ _ _ _ _ _ _ _ _ _ H2

set_option maxRecDepth 100000 in
set_option maxHeartbeats 4000000 in
theorem j_quota (hfl : l.stackTraces = false) (C : gE w yL_law cL_law 7 (some .boolean) p s m args meth c) (hX : va_X (wb w) L xs s (wH w)) (hL : L ≤ 2048) (H : qSt h k u S Y sr A B nm ns (cn : Int)) (hi : 4 * cn + 4 ≤ L) (K : qNx w m (eW p l e room_1 s m args below meth c Q) cn 1330) : gG w m 7 (eW p l e room_1 s m args below meth c Q) h k u [some (.ref 0), some (.ref 1), some (.ref 34), some (.ref 47), some (.int (iI ((4 * cn : Nat) : Int))), z5, z6] [] 283 := by
  have hcn : (cn : Int) ≤ 512 := by omega
  have H6 := H.2.2.2.2.2.1
  refine e_aload_n C 1 dL_law_283 rfl rfl ?_
  refine e_aload_n C 0 dL_law_284 rfl rfl ?_
  refine e_iload C dL_law_285 rfl ?_
  refine e_iconst C dL_law_287 ?_
  refine e_iadd C dL_law_288 ?_
  refine e_sld C hX (4 * cn + 1) (by omega) (by omega) (by omega) dL_law_289 ?_
  refine e_aload_n C 0 dL_law_290 rfl rfl ?_
  refine e_iload C dL_law_291 rfl ?_
  refine e_iconst C dL_law_293 ?_
  refine e_iadd C dL_law_294 ?_
  refine e_sld C hX (4 * cn + 2) (by omega) (by omega) (by omega) dL_law_295 ?_
  refine e_aload_n C 3 dL_law_296 rfl rfl ?_
  obtain ⟨mc, ms, post, hM, hk, hu, hp⟩ := law_call (F := Int32.toInt64) H hcn (qo_quota hfl H6 (xs (4 * cn + 1)).toInt (iI_r _) (xs (4 * cn + 2)).toInt (iI_r _)) (by decide) (by decide) (fun a b c d => w_quota a b c d)
  refine e_callW (n := 4) C [.ref 1, .int (iI (xs (4 * cn + 1)).toInt), .int (iI (xs (4 * cn + 2)).toInt), .ref 47] [] (lq_quota).1 (lq_quota).2.1 (lq_quota).2.2.1 (lq_quota).2.2.2 ⟨by decide +kernel, by decide +kernel, by decide +kernel⟩ hM rfl rfl (Nat.le_of_ble_eq_true rfl) (Nat.le_of_ble_eq_true rfl) hk hu (Nat.le_of_ble_eq_true rfl) dL_law_297 (fun r h1 hp1 => ?_)
  obtain ⟨q, b, S2, Y2, s2, A2, B2, nm2, ns2, rfl, hq, g1, K6, e1, e47, H2⟩ := hp r h1 hp1
  have k34 : gK h1 34 = (6, 20) := g1.1 0 (by omega)
  have k47 : gK (gwr h1 S2) 47 = (9, 1) := H2.2.2.2.1
  show gG w m 7 _ h1 (k + mc) (u + ms) [some (.ref 0), some (.ref 1), some (.ref 34), some (.ref 47), some (.int (iI ((4 * cn : Nat) : Int))), z5, z6] [.int (iI q)] 300
  refine t_istore (lo' := [some (.ref 0), some (.ref 1), some (.ref 34), some (.ref 47), some (.int (iI ((4 * cn : Nat) : Int))), some (.int (iI q)), z6]) C dL_law_300 (by decide) rfl ?_
  refine e_aload_n C 2 dL_law_302 rfl rfl ?_
  refine e_aload_n C 0 dL_law_303 rfl rfl ?_
  refine e_iload C dL_law_304 rfl ?_
  refine e_iconst C dL_law_306 ?_
  refine e_iadd C dL_law_307 ?_
  refine e_sld C hX (4 * cn + 1) (by omega) (by omega) (by omega) dL_law_308 ?_
  refine e_aload_n C 0 dL_law_309 rfl rfl ?_
  refine e_iload C dL_law_310 rfl ?_
  refine e_iconst C dL_law_312 ?_
  refine e_iadd C dL_law_313 ?_
  refine e_sld C hX (4 * cn + 2) (by omega) (by omega) (by omega) dL_law_314 ?_
  refine e_callV C [.int (iI (xs (4 * cn + 1)).toInt), .int (iI (xs (4 * cn + 2)).toInt)] [] (kL_94 rfl) K6 rfl rfl k34 (Nat.le_of_ble_eq_true rfl) (Nat.le_of_ble_eq_true rfl) hk hu (Nat.le_of_ble_eq_true rfl) dL_law_315 (fun r h2 z => ?_)
  obtain ⟨rfl, rfl⟩ := z
  show gG w m 7 _ (gwr h1 S2) (k + mc) (u + ms) [some (.ref 0), some (.ref 1), some (.ref 34), some (.ref 47), some (.int (iI ((4 * cn : Nat) : Int))), some (.int (iI q)), z6] [.int (iI b)] 318
  refine t_istore (lo' := [some (.ref 0), some (.ref 1), some (.ref 34), some (.ref 47), some (.int (iI ((4 * cn : Nat) : Int))), some (.int (iI q)), some (.int (iI b))]) C dL_law_318 (by decide) rfl ?_
  refine e_aload_n C 2 dL_law_320 rfl rfl ?_
  refine e_callV C [] [] (kL_83 rfl) (c6_thrown (h := h1) (S := S2) g1) rfl rfl k34 (Nat.le_of_ble_eq_true rfl) (Nat.le_of_ble_eq_true rfl) hk hu (Nat.le_of_ble_eq_true rfl) dL_law_321 (fun r h3 z => ?_)
  obtain ⟨rfl, rfl⟩ := z
  show gG w m 7 _ (gwr h1 S2) (k + mc) (u + ms) [some (.ref 0), some (.ref 1), some (.ref 34), some (.ref 47), some (.int (iI ((4 * cn : Nat) : Int))), some (.int (iI q)), some (.int (iI b))] [.int (iI (S2 0 0))] 324
  refine e_iload C dL_law_324 rfl ?_
  refine e_icmp_eq C 331 dL_law_326 (by decide) (by omega) (by omega) (fun _ => ?_) (fun z => absurd e1 z)
  refine e_iload C dL_law_331 rfl ?_
  refine e_if_ne C 348 dL_law_333 (by decide) (by omega) (fun c1 => ?_) (fun c1 => ?_)
  · refine e_goto C 1330 dL_law_348 (by decide) ?_
    exact K _ _ _ _ _ _ _ _ _ _ _ _ H2
  · refine e_aload_n C 3 dL_law_336 rfl rfl ?_
    refine e_iconst C dL_law_337 ?_
    refine e_lald C k47 dL_law_338 ?_
    rw [show gJ (gwr h1 S2) 47 = _ from e47 c1]
    refine e_iload C dL_law_339 rfl ?_
    refine e_i2l C dL_law_341 ?_
    refine e_lcmp C dL_law_342 ?_
    rw [lg_cmp_self]
    refine e_if_eq C 348 dL_law_343 (by decide) (by omega) (fun _ => ?_) (fun z => absurd rfl z)
    refine e_goto C 1330 dL_law_348 (by decide) ?_
    exact K _ _ _ _ _ _ _ _ _ _ _ _ H2

set_option maxRecDepth 100000 in
set_option maxHeartbeats 4000000 in
theorem j_limit (hfl : l.stackTraces = false) (C : gE w yL_law cL_law 7 (some .boolean) p s m args meth c) (hX : va_X (wb w) L xs s (wH w)) (hL : L ≤ 2048) (H : qSt h k u S Y sr A B nm ns (cn : Int)) (hi : 4 * cn + 4 ≤ L) (K : qNx w m (eW p l e room_1 s m args below meth c Q) cn 1330) : gG w m 7 (eW p l e room_1 s m args below meth c Q) h k u [some (.ref 0), some (.ref 1), some (.ref 34), some (.ref 47), some (.int (iI ((4 * cn : Nat) : Int))), z5, z6] [] 351 := by
  have hcn : (cn : Int) ≤ 512 := by omega
  have H6 := H.2.2.2.2.2.1
  refine e_aload_n C 1 dL_law_351 rfl rfl ?_
  refine e_aload_n C 0 dL_law_352 rfl rfl ?_
  refine e_iload C dL_law_353 rfl ?_
  refine e_iconst C dL_law_355 ?_
  refine e_iadd C dL_law_356 ?_
  refine e_sld C hX (4 * cn + 1) (by omega) (by omega) (by omega) dL_law_357 ?_
  refine e_aload_n C 3 dL_law_358 rfl rfl ?_
  obtain ⟨mc, ms, post, hM, hk, hu, hp⟩ := law_call (F := Int32.toInt64) H hcn (qo_limit hfl H6 (xs (4 * cn + 1)).toInt (iI_r _)) (by decide) (by decide) (fun a b c d => w_limit a b c d)
  refine e_callW (n := 3) C [.ref 1, .int (iI (xs (4 * cn + 1)).toInt), .ref 47] [] (lq_limit).1 (lq_limit).2.1 (lq_limit).2.2.1 (lq_limit).2.2.2 ⟨by decide +kernel, by decide +kernel, by decide +kernel⟩ hM rfl rfl (Nat.le_of_ble_eq_true rfl) (Nat.le_of_ble_eq_true rfl) hk hu (Nat.le_of_ble_eq_true rfl) dL_law_359 (fun r h1 hp1 => ?_)
  obtain ⟨q, b, S2, Y2, s2, A2, B2, nm2, ns2, rfl, hq, g1, K6, e1, e47, H2⟩ := hp r h1 hp1
  have k34 : gK h1 34 = (6, 20) := g1.1 0 (by omega)
  have k47 : gK (gwr h1 S2) 47 = (9, 1) := H2.2.2.2.1
  show gG w m 7 _ h1 (k + mc) (u + ms) [some (.ref 0), some (.ref 1), some (.ref 34), some (.ref 47), some (.int (iI ((4 * cn : Nat) : Int))), z5, z6] [.int (iI q)] 362
  refine t_istore (lo' := [some (.ref 0), some (.ref 1), some (.ref 34), some (.ref 47), some (.int (iI ((4 * cn : Nat) : Int))), some (.int (iI q)), z6]) C dL_law_362 (by decide) rfl ?_
  refine e_aload_n C 2 dL_law_364 rfl rfl ?_
  refine e_aload_n C 0 dL_law_365 rfl rfl ?_
  refine e_iload C dL_law_366 rfl ?_
  refine e_iconst C dL_law_368 ?_
  refine e_iadd C dL_law_369 ?_
  refine e_sld C hX (4 * cn + 1) (by omega) (by omega) (by omega) dL_law_370 ?_
  refine e_callV C [.int (iI (xs (4 * cn + 1)).toInt)] [] (kL_97 rfl) K6 rfl rfl k34 (Nat.le_of_ble_eq_true rfl) (Nat.le_of_ble_eq_true rfl) hk hu (Nat.le_of_ble_eq_true rfl) dL_law_371 (fun r h2 z => ?_)
  obtain ⟨rfl, rfl⟩ := z
  show gG w m 7 _ (gwr h1 S2) (k + mc) (u + ms) [some (.ref 0), some (.ref 1), some (.ref 34), some (.ref 47), some (.int (iI ((4 * cn : Nat) : Int))), some (.int (iI q)), z6] [.int (iI b)] 374
  refine t_istore (lo' := [some (.ref 0), some (.ref 1), some (.ref 34), some (.ref 47), some (.int (iI ((4 * cn : Nat) : Int))), some (.int (iI q)), some (.int (iI b))]) C dL_law_374 (by decide) rfl ?_
  refine e_aload_n C 2 dL_law_376 rfl rfl ?_
  refine e_callV C [] [] (kL_83 rfl) (c6_thrown (h := h1) (S := S2) g1) rfl rfl k34 (Nat.le_of_ble_eq_true rfl) (Nat.le_of_ble_eq_true rfl) hk hu (Nat.le_of_ble_eq_true rfl) dL_law_377 (fun r h3 z => ?_)
  obtain ⟨rfl, rfl⟩ := z
  show gG w m 7 _ (gwr h1 S2) (k + mc) (u + ms) [some (.ref 0), some (.ref 1), some (.ref 34), some (.ref 47), some (.int (iI ((4 * cn : Nat) : Int))), some (.int (iI q)), some (.int (iI b))] [.int (iI (S2 0 0))] 380
  refine e_iload C dL_law_380 rfl ?_
  refine e_icmp_eq C 387 dL_law_382 (by decide) (by omega) (by omega) (fun _ => ?_) (fun z => absurd e1 z)
  refine e_iload C dL_law_387 rfl ?_
  refine e_if_ne C 404 dL_law_389 (by decide) (by omega) (fun c1 => ?_) (fun c1 => ?_)
  · refine e_goto C 1330 dL_law_404 (by decide) ?_
    exact K _ _ _ _ _ _ _ _ _ _ _ _ H2
  · refine e_aload_n C 3 dL_law_392 rfl rfl ?_
    refine e_iconst C dL_law_393 ?_
    refine e_lald C k47 dL_law_394 ?_
    rw [show gJ (gwr h1 S2) 47 = _ from e47 c1]
    refine e_iload C dL_law_395 rfl ?_
    refine e_i2l C dL_law_397 ?_
    refine e_lcmp C dL_law_398 ?_
    rw [lg_cmp_self]
    refine e_if_eq C 404 dL_law_399 (by decide) (by omega) (fun _ => ?_) (fun z => absurd rfl z)
    refine e_goto C 1330 dL_law_404 (by decide) ?_
    exact K _ _ _ _ _ _ _ _ _ _ _ _ H2

set_option maxRecDepth 100000 in
set_option maxHeartbeats 4000000 in
theorem j_write (hfl : l.stackTraces = false) (C : gE w yL_law cL_law 7 (some .boolean) p s m args meth c) (hX : va_X (wb w) L xs s (wH w)) (hL : L ≤ 2048) (H : qSt h k u S Y sr A B nm ns (cn : Int)) (hi : 4 * cn + 4 ≤ L) (K : qNx w m (eW p l e room_1 s m args below meth c Q) cn 1330) : gG w m 7 (eW p l e room_1 s m args below meth c Q) h k u [some (.ref 0), some (.ref 1), some (.ref 34), some (.ref 47), some (.int (iI ((4 * cn : Nat) : Int))), z5, z6] [] 407 := by
  have hcn : (cn : Int) ≤ 512 := by omega
  have H6 := H.2.2.2.2.2.1
  refine e_aload_n C 1 dL_law_407 rfl rfl ?_
  refine e_aload_n C 0 dL_law_408 rfl rfl ?_
  refine e_iload C dL_law_409 rfl ?_
  refine e_iconst C dL_law_411 ?_
  refine e_iadd C dL_law_412 ?_
  refine e_sld C hX (4 * cn + 1) (by omega) (by omega) (by omega) dL_law_413 ?_
  refine e_aload_n C 0 dL_law_414 rfl rfl ?_
  refine e_iload C dL_law_415 rfl ?_
  refine e_iconst C dL_law_417 ?_
  refine e_iadd C dL_law_418 ?_
  refine e_sld C hX (4 * cn + 2) (by omega) (by omega) (by omega) dL_law_419 ?_
  refine e_aload_n C 0 dL_law_420 rfl rfl ?_
  refine e_iload C dL_law_421 rfl ?_
  refine e_iconst C dL_law_423 ?_
  refine e_iadd C dL_law_424 ?_
  refine e_sld C hX (4 * cn + 3) (by omega) (by omega) (by omega) dL_law_425 ?_
  refine e_aload_n C 3 dL_law_426 rfl rfl ?_
  obtain ⟨mc, ms, post, hM, hk, hu, hp⟩ := law_call (F := Int32.toInt64) H hcn (qo_write hfl H6 (xs (4 * cn + 1)).toInt (iI_r _) (xs (4 * cn + 2)).toInt (iI_r _) (xs (4 * cn + 3)).toInt (iI_r _)) (by decide) (by decide) (fun a b c d => w_write a b c d)
  refine e_callW (n := 5) C [.ref 1, .int (iI (xs (4 * cn + 1)).toInt), .int (iI (xs (4 * cn + 2)).toInt), .int (iI (xs (4 * cn + 3)).toInt), .ref 47] [] (lq_write).1 (lq_write).2.1 (lq_write).2.2.1 (lq_write).2.2.2 ⟨by decide +kernel, by decide +kernel, by decide +kernel⟩ hM rfl rfl (Nat.le_of_ble_eq_true rfl) (Nat.le_of_ble_eq_true rfl) hk hu (Nat.le_of_ble_eq_true rfl) dL_law_427 (fun r h1 hp1 => ?_)
  obtain ⟨q, b, S2, Y2, s2, A2, B2, nm2, ns2, rfl, hq, g1, K6, e1, e47, H2⟩ := hp r h1 hp1
  have k34 : gK h1 34 = (6, 20) := g1.1 0 (by omega)
  have k47 : gK (gwr h1 S2) 47 = (9, 1) := H2.2.2.2.1
  show gG w m 7 _ h1 (k + mc) (u + ms) [some (.ref 0), some (.ref 1), some (.ref 34), some (.ref 47), some (.int (iI ((4 * cn : Nat) : Int))), z5, z6] [.int (iI q)] 430
  refine t_istore (lo' := [some (.ref 0), some (.ref 1), some (.ref 34), some (.ref 47), some (.int (iI ((4 * cn : Nat) : Int))), some (.int (iI q)), z6]) C dL_law_430 (by decide) rfl ?_
  refine e_aload_n C 2 dL_law_432 rfl rfl ?_
  refine e_aload_n C 0 dL_law_433 rfl rfl ?_
  refine e_iload C dL_law_434 rfl ?_
  refine e_iconst C dL_law_436 ?_
  refine e_iadd C dL_law_437 ?_
  refine e_sld C hX (4 * cn + 1) (by omega) (by omega) (by omega) dL_law_438 ?_
  refine e_aload_n C 0 dL_law_439 rfl rfl ?_
  refine e_iload C dL_law_440 rfl ?_
  refine e_iconst C dL_law_442 ?_
  refine e_iadd C dL_law_443 ?_
  refine e_sld C hX (4 * cn + 2) (by omega) (by omega) (by omega) dL_law_444 ?_
  refine e_aload_n C 0 dL_law_445 rfl rfl ?_
  refine e_iload C dL_law_446 rfl ?_
  refine e_iconst C dL_law_448 ?_
  refine e_iadd C dL_law_449 ?_
  refine e_sld C hX (4 * cn + 3) (by omega) (by omega) (by omega) dL_law_450 ?_
  refine e_callV C [.int (iI (xs (4 * cn + 1)).toInt), .int (iI (xs (4 * cn + 2)).toInt), .int (iI (xs (4 * cn + 3)).toInt)] [] (kL_101 rfl) K6 rfl rfl k34 (Nat.le_of_ble_eq_true rfl) (Nat.le_of_ble_eq_true rfl) hk hu (Nat.le_of_ble_eq_true rfl) dL_law_451 (fun r h2 z => ?_)
  obtain ⟨rfl, rfl⟩ := z
  show gG w m 7 _ (gwr h1 S2) (k + mc) (u + ms) [some (.ref 0), some (.ref 1), some (.ref 34), some (.ref 47), some (.int (iI ((4 * cn : Nat) : Int))), some (.int (iI q)), z6] [.int (iI b)] 454
  refine t_istore (lo' := [some (.ref 0), some (.ref 1), some (.ref 34), some (.ref 47), some (.int (iI ((4 * cn : Nat) : Int))), some (.int (iI q)), some (.int (iI b))]) C dL_law_454 (by decide) rfl ?_
  refine e_aload_n C 2 dL_law_456 rfl rfl ?_
  refine e_callV C [] [] (kL_83 rfl) (c6_thrown (h := h1) (S := S2) g1) rfl rfl k34 (Nat.le_of_ble_eq_true rfl) (Nat.le_of_ble_eq_true rfl) hk hu (Nat.le_of_ble_eq_true rfl) dL_law_457 (fun r h3 z => ?_)
  obtain ⟨rfl, rfl⟩ := z
  show gG w m 7 _ (gwr h1 S2) (k + mc) (u + ms) [some (.ref 0), some (.ref 1), some (.ref 34), some (.ref 47), some (.int (iI ((4 * cn : Nat) : Int))), some (.int (iI q)), some (.int (iI b))] [.int (iI (S2 0 0))] 460
  refine e_iload C dL_law_460 rfl ?_
  refine e_icmp_eq C 467 dL_law_462 (by decide) (by omega) (by omega) (fun _ => ?_) (fun z => absurd e1 z)
  refine e_iload C dL_law_467 rfl ?_
  refine e_if_ne C 484 dL_law_469 (by decide) (by omega) (fun c1 => ?_) (fun c1 => ?_)
  · refine e_goto C 1330 dL_law_484 (by decide) ?_
    exact K _ _ _ _ _ _ _ _ _ _ _ _ H2
  · refine e_aload_n C 3 dL_law_472 rfl rfl ?_
    refine e_iconst C dL_law_473 ?_
    refine e_lald C k47 dL_law_474 ?_
    rw [show gJ (gwr h1 S2) 47 = _ from e47 c1]
    refine e_iload C dL_law_475 rfl ?_
    refine e_i2l C dL_law_477 ?_
    refine e_lcmp C dL_law_478 ?_
    rw [lg_cmp_self]
    refine e_if_eq C 484 dL_law_479 (by decide) (by omega) (fun _ => ?_) (fun z => absurd rfl z)
    refine e_goto C 1330 dL_law_484 (by decide) ?_
    exact K _ _ _ _ _ _ _ _ _ _ _ _ H2

set_option maxRecDepth 100000 in
set_option maxHeartbeats 4000000 in
theorem j_take (hfl : l.stackTraces = false) (C : gE w yL_law cL_law 7 (some .boolean) p s m args meth c) (hX : va_X (wb w) L xs s (wH w)) (hL : L ≤ 2048) (H : qSt h k u S Y sr A B nm ns (cn : Int)) (hi : 4 * cn + 4 ≤ L) (K : qNx w m (eW p l e room_1 s m args below meth c Q) cn 1330) : gG w m 7 (eW p l e room_1 s m args below meth c Q) h k u [some (.ref 0), some (.ref 1), some (.ref 34), some (.ref 47), some (.int (iI ((4 * cn : Nat) : Int))), z5, z6] [] 487 := by
  have hcn : (cn : Int) ≤ 512 := by omega
  have H6 := H.2.2.2.2.2.1
  refine e_aload_n C 1 dL_law_487 rfl rfl ?_
  refine e_aload_n C 0 dL_law_488 rfl rfl ?_
  refine e_iload C dL_law_489 rfl ?_
  refine e_iconst C dL_law_491 ?_
  refine e_iadd C dL_law_492 ?_
  refine e_sld C hX (4 * cn + 1) (by omega) (by omega) (by omega) dL_law_493 ?_
  refine e_aload_n C 3 dL_law_494 rfl rfl ?_
  obtain ⟨mc, ms, post, hM, hk, hu, hp⟩ := law_call (F := Int32.toInt64) H hcn (qo_take hfl H6 (xs (4 * cn + 1)).toInt (iI_r _)) (by decide) (by decide) (fun a b c d => w_take a b c d)
  refine e_callW (n := 3) C [.ref 1, .int (iI (xs (4 * cn + 1)).toInt), .ref 47] [] (lq_take).1 (lq_take).2.1 (lq_take).2.2.1 (lq_take).2.2.2 ⟨by decide +kernel, by decide +kernel, by decide +kernel⟩ hM rfl rfl (Nat.le_of_ble_eq_true rfl) (Nat.le_of_ble_eq_true rfl) hk hu (Nat.le_of_ble_eq_true rfl) dL_law_495 (fun r h1 hp1 => ?_)
  obtain ⟨q, b, S2, Y2, s2, A2, B2, nm2, ns2, rfl, hq, g1, K6, e1, e47, H2⟩ := hp r h1 hp1
  have k34 : gK h1 34 = (6, 20) := g1.1 0 (by omega)
  have k47 : gK (gwr h1 S2) 47 = (9, 1) := H2.2.2.2.1
  show gG w m 7 _ h1 (k + mc) (u + ms) [some (.ref 0), some (.ref 1), some (.ref 34), some (.ref 47), some (.int (iI ((4 * cn : Nat) : Int))), z5, z6] [.int (iI q)] 498
  refine t_istore (lo' := [some (.ref 0), some (.ref 1), some (.ref 34), some (.ref 47), some (.int (iI ((4 * cn : Nat) : Int))), some (.int (iI q)), z6]) C dL_law_498 (by decide) rfl ?_
  refine e_aload_n C 2 dL_law_500 rfl rfl ?_
  refine e_aload_n C 0 dL_law_501 rfl rfl ?_
  refine e_iload C dL_law_502 rfl ?_
  refine e_iconst C dL_law_504 ?_
  refine e_iadd C dL_law_505 ?_
  refine e_sld C hX (4 * cn + 1) (by omega) (by omega) (by omega) dL_law_506 ?_
  refine e_callV C [.int (iI (xs (4 * cn + 1)).toInt)] [] (kL_104 rfl) K6 rfl rfl k34 (Nat.le_of_ble_eq_true rfl) (Nat.le_of_ble_eq_true rfl) hk hu (Nat.le_of_ble_eq_true rfl) dL_law_507 (fun r h2 z => ?_)
  obtain ⟨rfl, rfl⟩ := z
  show gG w m 7 _ (gwr h1 S2) (k + mc) (u + ms) [some (.ref 0), some (.ref 1), some (.ref 34), some (.ref 47), some (.int (iI ((4 * cn : Nat) : Int))), some (.int (iI q)), z6] [.int (iI b)] 510
  refine t_istore (lo' := [some (.ref 0), some (.ref 1), some (.ref 34), some (.ref 47), some (.int (iI ((4 * cn : Nat) : Int))), some (.int (iI q)), some (.int (iI b))]) C dL_law_510 (by decide) rfl ?_
  refine e_aload_n C 2 dL_law_512 rfl rfl ?_
  refine e_callV C [] [] (kL_83 rfl) (c6_thrown (h := h1) (S := S2) g1) rfl rfl k34 (Nat.le_of_ble_eq_true rfl) (Nat.le_of_ble_eq_true rfl) hk hu (Nat.le_of_ble_eq_true rfl) dL_law_513 (fun r h3 z => ?_)
  obtain ⟨rfl, rfl⟩ := z
  show gG w m 7 _ (gwr h1 S2) (k + mc) (u + ms) [some (.ref 0), some (.ref 1), some (.ref 34), some (.ref 47), some (.int (iI ((4 * cn : Nat) : Int))), some (.int (iI q)), some (.int (iI b))] [.int (iI (S2 0 0))] 516
  refine e_iload C dL_law_516 rfl ?_
  refine e_icmp_eq C 523 dL_law_518 (by decide) (by omega) (by omega) (fun _ => ?_) (fun z => absurd e1 z)
  refine e_iload C dL_law_523 rfl ?_
  refine e_if_ne C 540 dL_law_525 (by decide) (by omega) (fun c1 => ?_) (fun c1 => ?_)
  · refine e_goto C 1330 dL_law_540 (by decide) ?_
    exact K _ _ _ _ _ _ _ _ _ _ _ _ H2
  · refine e_aload_n C 3 dL_law_528 rfl rfl ?_
    refine e_iconst C dL_law_529 ?_
    refine e_lald C k47 dL_law_530 ?_
    rw [show gJ (gwr h1 S2) 47 = _ from e47 c1]
    refine e_iload C dL_law_531 rfl ?_
    refine e_i2l C dL_law_533 ?_
    refine e_lcmp C dL_law_534 ?_
    rw [lg_cmp_self]
    refine e_if_eq C 540 dL_law_535 (by decide) (by omega) (fun _ => ?_) (fun z => absurd rfl z)
    refine e_goto C 1330 dL_law_540 (by decide) ?_
    exact K _ _ _ _ _ _ _ _ _ _ _ _ H2

set_option maxRecDepth 100000 in
set_option maxHeartbeats 4000000 in
theorem j_read (hfl : l.stackTraces = false) (C : gE w yL_law cL_law 7 (some .boolean) p s m args meth c) (hX : va_X (wb w) L xs s (wH w)) (hL : L ≤ 2048) (H : qSt h k u S Y sr A B nm ns (cn : Int)) (hi : 4 * cn + 4 ≤ L) (K : qNx w m (eW p l e room_1 s m args below meth c Q) cn 1330) : gG w m 7 (eW p l e room_1 s m args below meth c Q) h k u [some (.ref 0), some (.ref 1), some (.ref 34), some (.ref 47), some (.int (iI ((4 * cn : Nat) : Int))), z5, z6] [] 543 := by
  have hcn : (cn : Int) ≤ 512 := by omega
  have H6 := H.2.2.2.2.2.1
  refine e_aload_n C 1 dL_law_543 rfl rfl ?_
  refine e_aload_n C 0 dL_law_544 rfl rfl ?_
  refine e_iload C dL_law_545 rfl ?_
  refine e_iconst C dL_law_547 ?_
  refine e_iadd C dL_law_548 ?_
  refine e_sld C hX (4 * cn + 1) (by omega) (by omega) (by omega) dL_law_549 ?_
  refine e_aload_n C 3 dL_law_550 rfl rfl ?_
  obtain ⟨mc, ms, post, hM, hk, hu, hp⟩ := law_call (F := Int32.toInt64) H hcn (qo_read hfl H6 (xs (4 * cn + 1)).toInt (iI_r _)) (by decide) (by decide) (fun a b c d => w_read a b c d)
  refine e_callW (n := 3) C [.ref 1, .int (iI (xs (4 * cn + 1)).toInt), .ref 47] [] (lq_read).1 (lq_read).2.1 (lq_read).2.2.1 (lq_read).2.2.2 ⟨by decide +kernel, by decide +kernel, by decide +kernel⟩ hM rfl rfl (Nat.le_of_ble_eq_true rfl) (Nat.le_of_ble_eq_true rfl) hk hu (Nat.le_of_ble_eq_true rfl) dL_law_551 (fun r h1 hp1 => ?_)
  obtain ⟨q, b, S2, Y2, s2, A2, B2, nm2, ns2, rfl, hq, g1, K6, e1, e47, H2⟩ := hp r h1 hp1
  have k34 : gK h1 34 = (6, 20) := g1.1 0 (by omega)
  have k47 : gK (gwr h1 S2) 47 = (9, 1) := H2.2.2.2.1
  show gG w m 7 _ h1 (k + mc) (u + ms) [some (.ref 0), some (.ref 1), some (.ref 34), some (.ref 47), some (.int (iI ((4 * cn : Nat) : Int))), z5, z6] [.int (iI q)] 554
  refine t_istore (lo' := [some (.ref 0), some (.ref 1), some (.ref 34), some (.ref 47), some (.int (iI ((4 * cn : Nat) : Int))), some (.int (iI q)), z6]) C dL_law_554 (by decide) rfl ?_
  refine e_aload_n C 2 dL_law_556 rfl rfl ?_
  refine e_aload_n C 0 dL_law_557 rfl rfl ?_
  refine e_iload C dL_law_558 rfl ?_
  refine e_iconst C dL_law_560 ?_
  refine e_iadd C dL_law_561 ?_
  refine e_sld C hX (4 * cn + 1) (by omega) (by omega) (by omega) dL_law_562 ?_
  refine e_callV C [.int (iI (xs (4 * cn + 1)).toInt)] [] (kL_107 rfl) K6 rfl rfl k34 (Nat.le_of_ble_eq_true rfl) (Nat.le_of_ble_eq_true rfl) hk hu (Nat.le_of_ble_eq_true rfl) dL_law_563 (fun r h2 z => ?_)
  obtain ⟨rfl, rfl⟩ := z
  show gG w m 7 _ (gwr h1 S2) (k + mc) (u + ms) [some (.ref 0), some (.ref 1), some (.ref 34), some (.ref 47), some (.int (iI ((4 * cn : Nat) : Int))), some (.int (iI q)), z6] [.int (iI b)] 566
  refine t_istore (lo' := [some (.ref 0), some (.ref 1), some (.ref 34), some (.ref 47), some (.int (iI ((4 * cn : Nat) : Int))), some (.int (iI q)), some (.int (iI b))]) C dL_law_566 (by decide) rfl ?_
  refine e_aload_n C 2 dL_law_568 rfl rfl ?_
  refine e_callV C [] [] (kL_83 rfl) (c6_thrown (h := h1) (S := S2) g1) rfl rfl k34 (Nat.le_of_ble_eq_true rfl) (Nat.le_of_ble_eq_true rfl) hk hu (Nat.le_of_ble_eq_true rfl) dL_law_569 (fun r h3 z => ?_)
  obtain ⟨rfl, rfl⟩ := z
  show gG w m 7 _ (gwr h1 S2) (k + mc) (u + ms) [some (.ref 0), some (.ref 1), some (.ref 34), some (.ref 47), some (.int (iI ((4 * cn : Nat) : Int))), some (.int (iI q)), some (.int (iI b))] [.int (iI (S2 0 0))] 572
  refine e_iload C dL_law_572 rfl ?_
  refine e_icmp_eq C 579 dL_law_574 (by decide) (by omega) (by omega) (fun _ => ?_) (fun z => absurd e1 z)
  refine e_iload C dL_law_579 rfl ?_
  refine e_if_ne C 596 dL_law_581 (by decide) (by omega) (fun c1 => ?_) (fun c1 => ?_)
  · refine e_goto C 1330 dL_law_596 (by decide) ?_
    exact K _ _ _ _ _ _ _ _ _ _ _ _ H2
  · refine e_aload_n C 3 dL_law_584 rfl rfl ?_
    refine e_iconst C dL_law_585 ?_
    refine e_lald C k47 dL_law_586 ?_
    rw [show gJ (gwr h1 S2) 47 = _ from e47 c1]
    refine e_iload C dL_law_587 rfl ?_
    refine e_i2l C dL_law_589 ?_
    refine e_lcmp C dL_law_590 ?_
    rw [lg_cmp_self]
    refine e_if_eq C 596 dL_law_591 (by decide) (by omega) (fun _ => ?_) (fun z => absurd rfl z)
    refine e_goto C 1330 dL_law_596 (by decide) ?_
    exact K _ _ _ _ _ _ _ _ _ _ _ _ H2

set_option maxRecDepth 100000 in
set_option maxHeartbeats 4000000 in
theorem j_split (hfl : l.stackTraces = false) (C : gE w yL_law cL_law 7 (some .boolean) p s m args meth c) (hX : va_X (wb w) L xs s (wH w)) (hL : L ≤ 2048) (H : qSt h k u S Y sr A B nm ns (cn : Int)) (hi : 4 * cn + 4 ≤ L) (K : qNx w m (eW p l e room_1 s m args below meth c Q) cn 1330) : gG w m 7 (eW p l e room_1 s m args below meth c Q) h k u [some (.ref 0), some (.ref 1), some (.ref 34), some (.ref 47), some (.int (iI ((4 * cn : Nat) : Int))), z5, z6] [] 599 := by
  have hcn : (cn : Int) ≤ 512 := by omega
  have H6 := H.2.2.2.2.2.1
  refine e_aload_n C 1 dL_law_599 rfl rfl ?_
  refine e_aload_n C 0 dL_law_600 rfl rfl ?_
  refine e_iload C dL_law_601 rfl ?_
  refine e_iconst C dL_law_603 ?_
  refine e_iadd C dL_law_604 ?_
  refine e_sld C hX (4 * cn + 1) (by omega) (by omega) (by omega) dL_law_605 ?_
  refine e_aload_n C 3 dL_law_606 rfl rfl ?_
  obtain ⟨mc, ms, post, hM, hk, hu, hp⟩ := law_call (F := Int32.toInt64) H hcn (qo_split hfl H6 hcn (xs (4 * cn + 1)).toInt (iI_r _)) (by decide) (by decide) (fun a b c d => w_split a b c d)
  refine e_callW (n := 3) C [.ref 1, .int (iI (xs (4 * cn + 1)).toInt), .ref 47] [] (lq_split).1 (lq_split).2.1 (lq_split).2.2.1 (lq_split).2.2.2 ⟨by decide +kernel, by decide +kernel, by decide +kernel⟩ hM rfl rfl (Nat.le_of_ble_eq_true rfl) (Nat.le_of_ble_eq_true rfl) hk hu (Nat.le_of_ble_eq_true rfl) dL_law_607 (fun r h1 hp1 => ?_)
  obtain ⟨q, b, S2, Y2, s2, A2, B2, nm2, ns2, rfl, hq, g1, K6, e1, e47, H2⟩ := hp r h1 hp1
  have k34 : gK h1 34 = (6, 20) := g1.1 0 (by omega)
  have k47 : gK (gwr h1 S2) 47 = (9, 1) := H2.2.2.2.1
  show gG w m 7 _ h1 (k + mc) (u + ms) [some (.ref 0), some (.ref 1), some (.ref 34), some (.ref 47), some (.int (iI ((4 * cn : Nat) : Int))), z5, z6] [.int (iI q)] 610
  refine t_istore (lo' := [some (.ref 0), some (.ref 1), some (.ref 34), some (.ref 47), some (.int (iI ((4 * cn : Nat) : Int))), some (.int (iI q)), z6]) C dL_law_610 (by decide) rfl ?_
  refine e_aload_n C 2 dL_law_612 rfl rfl ?_
  refine e_aload_n C 0 dL_law_613 rfl rfl ?_
  refine e_iload C dL_law_614 rfl ?_
  refine e_iconst C dL_law_616 ?_
  refine e_iadd C dL_law_617 ?_
  refine e_sld C hX (4 * cn + 1) (by omega) (by omega) (by omega) dL_law_618 ?_
  refine e_callV C [.int (iI (xs (4 * cn + 1)).toInt)] [] (kL_110 rfl) K6 rfl rfl k34 (Nat.le_of_ble_eq_true rfl) (Nat.le_of_ble_eq_true rfl) hk hu (Nat.le_of_ble_eq_true rfl) dL_law_619 (fun r h2 z => ?_)
  obtain ⟨rfl, rfl⟩ := z
  show gG w m 7 _ (gwr h1 S2) (k + mc) (u + ms) [some (.ref 0), some (.ref 1), some (.ref 34), some (.ref 47), some (.int (iI ((4 * cn : Nat) : Int))), some (.int (iI q)), z6] [.int (iI b)] 622
  refine t_istore (lo' := [some (.ref 0), some (.ref 1), some (.ref 34), some (.ref 47), some (.int (iI ((4 * cn : Nat) : Int))), some (.int (iI q)), some (.int (iI b))]) C dL_law_622 (by decide) rfl ?_
  refine e_aload_n C 2 dL_law_624 rfl rfl ?_
  refine e_callV C [] [] (kL_83 rfl) (c6_thrown (h := h1) (S := S2) g1) rfl rfl k34 (Nat.le_of_ble_eq_true rfl) (Nat.le_of_ble_eq_true rfl) hk hu (Nat.le_of_ble_eq_true rfl) dL_law_625 (fun r h3 z => ?_)
  obtain ⟨rfl, rfl⟩ := z
  show gG w m 7 _ (gwr h1 S2) (k + mc) (u + ms) [some (.ref 0), some (.ref 1), some (.ref 34), some (.ref 47), some (.int (iI ((4 * cn : Nat) : Int))), some (.int (iI q)), some (.int (iI b))] [.int (iI (S2 0 0))] 628
  refine e_iload C dL_law_628 rfl ?_
  refine e_icmp_eq C 635 dL_law_630 (by decide) (by omega) (by omega) (fun _ => ?_) (fun z => absurd e1 z)
  refine e_iload C dL_law_635 rfl ?_
  refine e_if_ne C 652 dL_law_637 (by decide) (by omega) (fun c1 => ?_) (fun c1 => ?_)
  · refine e_goto C 1330 dL_law_652 (by decide) ?_
    exact K _ _ _ _ _ _ _ _ _ _ _ _ H2
  · refine e_aload_n C 3 dL_law_640 rfl rfl ?_
    refine e_iconst C dL_law_641 ?_
    refine e_lald C k47 dL_law_642 ?_
    rw [show gJ (gwr h1 S2) 47 = _ from e47 c1]
    refine e_iload C dL_law_643 rfl ?_
    refine e_i2l C dL_law_645 ?_
    refine e_lcmp C dL_law_646 ?_
    rw [lg_cmp_self]
    refine e_if_eq C 652 dL_law_647 (by decide) (by omega) (fun _ => ?_) (fun z => absurd rfl z)
    refine e_goto C 1330 dL_law_652 (by decide) ?_
    exact K _ _ _ _ _ _ _ _ _ _ _ _ H2

set_option maxRecDepth 100000 in
set_option maxHeartbeats 4000000 in
theorem j_join (hfl : l.stackTraces = false) (C : gE w yL_law cL_law 7 (some .boolean) p s m args meth c) (hX : va_X (wb w) L xs s (wH w)) (hL : L ≤ 2048) (H : qSt h k u S Y sr A B nm ns (cn : Int)) (hi : 4 * cn + 4 ≤ L) (K : qNx w m (eW p l e room_1 s m args below meth c Q) cn 1330) : gG w m 7 (eW p l e room_1 s m args below meth c Q) h k u [some (.ref 0), some (.ref 1), some (.ref 34), some (.ref 47), some (.int (iI ((4 * cn : Nat) : Int))), z5, z6] [] 655 := by
  have hcn : (cn : Int) ≤ 512 := by omega
  have H6 := H.2.2.2.2.2.1
  refine e_aload_n C 1 dL_law_655 rfl rfl ?_
  refine e_aload_n C 0 dL_law_656 rfl rfl ?_
  refine e_iload C dL_law_657 rfl ?_
  refine e_iconst C dL_law_659 ?_
  refine e_iadd C dL_law_660 ?_
  refine e_sld C hX (4 * cn + 1) (by omega) (by omega) (by omega) dL_law_661 ?_
  refine e_aload_n C 3 dL_law_662 rfl rfl ?_
  obtain ⟨mc, ms, post, hM, hk, hu, hp⟩ := law_call (F := Int32.toInt64) H hcn (qo_join hfl H6 (xs (4 * cn + 1)).toInt (iI_r _)) (by decide) (by decide) (fun a b c d => w_join a b c d)
  refine e_callW (n := 3) C [.ref 1, .int (iI (xs (4 * cn + 1)).toInt), .ref 47] [] (lq_join).1 (lq_join).2.1 (lq_join).2.2.1 (lq_join).2.2.2 ⟨by decide +kernel, by decide +kernel, by decide +kernel⟩ hM rfl rfl (Nat.le_of_ble_eq_true rfl) (Nat.le_of_ble_eq_true rfl) hk hu (Nat.le_of_ble_eq_true rfl) dL_law_663 (fun r h1 hp1 => ?_)
  obtain ⟨q, b, S2, Y2, s2, A2, B2, nm2, ns2, rfl, hq, g1, K6, e1, e47, H2⟩ := hp r h1 hp1
  have k34 : gK h1 34 = (6, 20) := g1.1 0 (by omega)
  have k47 : gK (gwr h1 S2) 47 = (9, 1) := H2.2.2.2.1
  show gG w m 7 _ h1 (k + mc) (u + ms) [some (.ref 0), some (.ref 1), some (.ref 34), some (.ref 47), some (.int (iI ((4 * cn : Nat) : Int))), z5, z6] [.int (iI q)] 666
  refine t_istore (lo' := [some (.ref 0), some (.ref 1), some (.ref 34), some (.ref 47), some (.int (iI ((4 * cn : Nat) : Int))), some (.int (iI q)), z6]) C dL_law_666 (by decide) rfl ?_
  refine e_aload_n C 2 dL_law_668 rfl rfl ?_
  refine e_aload_n C 0 dL_law_669 rfl rfl ?_
  refine e_iload C dL_law_670 rfl ?_
  refine e_iconst C dL_law_672 ?_
  refine e_iadd C dL_law_673 ?_
  refine e_sld C hX (4 * cn + 1) (by omega) (by omega) (by omega) dL_law_674 ?_
  refine e_callV C [.int (iI (xs (4 * cn + 1)).toInt)] [] (kL_113 rfl) K6 rfl rfl k34 (Nat.le_of_ble_eq_true rfl) (Nat.le_of_ble_eq_true rfl) hk hu (Nat.le_of_ble_eq_true rfl) dL_law_675 (fun r h2 z => ?_)
  obtain ⟨rfl, rfl⟩ := z
  show gG w m 7 _ (gwr h1 S2) (k + mc) (u + ms) [some (.ref 0), some (.ref 1), some (.ref 34), some (.ref 47), some (.int (iI ((4 * cn : Nat) : Int))), some (.int (iI q)), z6] [.int (iI b)] 678
  refine t_istore (lo' := [some (.ref 0), some (.ref 1), some (.ref 34), some (.ref 47), some (.int (iI ((4 * cn : Nat) : Int))), some (.int (iI q)), some (.int (iI b))]) C dL_law_678 (by decide) rfl ?_
  refine e_aload_n C 2 dL_law_680 rfl rfl ?_
  refine e_callV C [] [] (kL_83 rfl) (c6_thrown (h := h1) (S := S2) g1) rfl rfl k34 (Nat.le_of_ble_eq_true rfl) (Nat.le_of_ble_eq_true rfl) hk hu (Nat.le_of_ble_eq_true rfl) dL_law_681 (fun r h3 z => ?_)
  obtain ⟨rfl, rfl⟩ := z
  show gG w m 7 _ (gwr h1 S2) (k + mc) (u + ms) [some (.ref 0), some (.ref 1), some (.ref 34), some (.ref 47), some (.int (iI ((4 * cn : Nat) : Int))), some (.int (iI q)), some (.int (iI b))] [.int (iI (S2 0 0))] 684
  refine e_iload C dL_law_684 rfl ?_
  refine e_icmp_eq C 691 dL_law_686 (by decide) (by omega) (by omega) (fun _ => ?_) (fun z => absurd e1 z)
  refine e_iload C dL_law_691 rfl ?_
  refine e_if_ne C 708 dL_law_693 (by decide) (by omega) (fun c1 => ?_) (fun c1 => ?_)
  · refine e_goto C 1330 dL_law_708 (by decide) ?_
    exact K _ _ _ _ _ _ _ _ _ _ _ _ H2
  · refine e_aload_n C 3 dL_law_696 rfl rfl ?_
    refine e_iconst C dL_law_697 ?_
    refine e_lald C k47 dL_law_698 ?_
    rw [show gJ (gwr h1 S2) 47 = _ from e47 c1]
    refine e_iload C dL_law_699 rfl ?_
    refine e_i2l C dL_law_701 ?_
    refine e_lcmp C dL_law_702 ?_
    rw [lg_cmp_self]
    refine e_if_eq C 708 dL_law_703 (by decide) (by omega) (fun _ => ?_) (fun z => absurd rfl z)
    refine e_goto C 1330 dL_law_708 (by decide) ?_
    exact K _ _ _ _ _ _ _ _ _ _ _ _ H2

set_option maxRecDepth 100000 in
set_option maxHeartbeats 4000000 in
theorem j_move (hfl : l.stackTraces = false) (C : gE w yL_law cL_law 7 (some .boolean) p s m args meth c) (hX : va_X (wb w) L xs s (wH w)) (hL : L ≤ 2048) (H : qSt h k u S Y sr A B nm ns (cn : Int)) (hi : 4 * cn + 4 ≤ L) (K : qNx w m (eW p l e room_1 s m args below meth c Q) cn 1330) : gG w m 7 (eW p l e room_1 s m args below meth c Q) h k u [some (.ref 0), some (.ref 1), some (.ref 34), some (.ref 47), some (.int (iI ((4 * cn : Nat) : Int))), z5, z6] [] 711 := by
  have hcn : (cn : Int) ≤ 512 := by omega
  have H6 := H.2.2.2.2.2.1
  refine e_aload_n C 1 dL_law_711 rfl rfl ?_
  refine e_aload_n C 0 dL_law_712 rfl rfl ?_
  refine e_iload C dL_law_713 rfl ?_
  refine e_iconst C dL_law_715 ?_
  refine e_iadd C dL_law_716 ?_
  refine e_sld C hX (4 * cn + 1) (by omega) (by omega) (by omega) dL_law_717 ?_
  refine e_aload_n C 0 dL_law_718 rfl rfl ?_
  refine e_iload C dL_law_719 rfl ?_
  refine e_iconst C dL_law_721 ?_
  refine e_iadd C dL_law_722 ?_
  refine e_sld C hX (4 * cn + 2) (by omega) (by omega) (by omega) dL_law_723 ?_
  refine e_aload_n C 3 dL_law_724 rfl rfl ?_
  obtain ⟨mc, ms, post, hM, hk, hu, hp⟩ := law_call (F := Int32.toInt64) H hcn (qo_move hfl H6 (xs (4 * cn + 1)).toInt (iI_r _) (xs (4 * cn + 2)).toInt (iI_r _)) (by decide) (by decide) (fun a b c d => w_move a b c d)
  refine e_callW (n := 4) C [.ref 1, .int (iI (xs (4 * cn + 1)).toInt), .int (iI (xs (4 * cn + 2)).toInt), .ref 47] [] (lq_move).1 (lq_move).2.1 (lq_move).2.2.1 (lq_move).2.2.2 ⟨by decide +kernel, by decide +kernel, by decide +kernel⟩ hM rfl rfl (Nat.le_of_ble_eq_true rfl) (Nat.le_of_ble_eq_true rfl) hk hu (Nat.le_of_ble_eq_true rfl) dL_law_725 (fun r h1 hp1 => ?_)
  obtain ⟨q, b, S2, Y2, s2, A2, B2, nm2, ns2, rfl, hq, g1, K6, e1, e47, H2⟩ := hp r h1 hp1
  have k34 : gK h1 34 = (6, 20) := g1.1 0 (by omega)
  have k47 : gK (gwr h1 S2) 47 = (9, 1) := H2.2.2.2.1
  show gG w m 7 _ h1 (k + mc) (u + ms) [some (.ref 0), some (.ref 1), some (.ref 34), some (.ref 47), some (.int (iI ((4 * cn : Nat) : Int))), z5, z6] [.int (iI q)] 728
  refine t_istore (lo' := [some (.ref 0), some (.ref 1), some (.ref 34), some (.ref 47), some (.int (iI ((4 * cn : Nat) : Int))), some (.int (iI q)), z6]) C dL_law_728 (by decide) rfl ?_
  refine e_aload_n C 2 dL_law_730 rfl rfl ?_
  refine e_aload_n C 0 dL_law_731 rfl rfl ?_
  refine e_iload C dL_law_732 rfl ?_
  refine e_iconst C dL_law_734 ?_
  refine e_iadd C dL_law_735 ?_
  refine e_sld C hX (4 * cn + 1) (by omega) (by omega) (by omega) dL_law_736 ?_
  refine e_aload_n C 0 dL_law_737 rfl rfl ?_
  refine e_iload C dL_law_738 rfl ?_
  refine e_iconst C dL_law_740 ?_
  refine e_iadd C dL_law_741 ?_
  refine e_sld C hX (4 * cn + 2) (by omega) (by omega) (by omega) dL_law_742 ?_
  refine e_callV C [.int (iI (xs (4 * cn + 1)).toInt), .int (iI (xs (4 * cn + 2)).toInt)] [] (kL_116 rfl) K6 rfl rfl k34 (Nat.le_of_ble_eq_true rfl) (Nat.le_of_ble_eq_true rfl) hk hu (Nat.le_of_ble_eq_true rfl) dL_law_743 (fun r h2 z => ?_)
  obtain ⟨rfl, rfl⟩ := z
  show gG w m 7 _ (gwr h1 S2) (k + mc) (u + ms) [some (.ref 0), some (.ref 1), some (.ref 34), some (.ref 47), some (.int (iI ((4 * cn : Nat) : Int))), some (.int (iI q)), z6] [.int (iI b)] 746
  refine t_istore (lo' := [some (.ref 0), some (.ref 1), some (.ref 34), some (.ref 47), some (.int (iI ((4 * cn : Nat) : Int))), some (.int (iI q)), some (.int (iI b))]) C dL_law_746 (by decide) rfl ?_
  refine e_aload_n C 2 dL_law_748 rfl rfl ?_
  refine e_callV C [] [] (kL_83 rfl) (c6_thrown (h := h1) (S := S2) g1) rfl rfl k34 (Nat.le_of_ble_eq_true rfl) (Nat.le_of_ble_eq_true rfl) hk hu (Nat.le_of_ble_eq_true rfl) dL_law_749 (fun r h3 z => ?_)
  obtain ⟨rfl, rfl⟩ := z
  show gG w m 7 _ (gwr h1 S2) (k + mc) (u + ms) [some (.ref 0), some (.ref 1), some (.ref 34), some (.ref 47), some (.int (iI ((4 * cn : Nat) : Int))), some (.int (iI q)), some (.int (iI b))] [.int (iI (S2 0 0))] 752
  refine e_iload C dL_law_752 rfl ?_
  refine e_icmp_eq C 759 dL_law_754 (by decide) (by omega) (by omega) (fun _ => ?_) (fun z => absurd e1 z)
  refine e_iload C dL_law_759 rfl ?_
  refine e_if_ne C 776 dL_law_761 (by decide) (by omega) (fun c1 => ?_) (fun c1 => ?_)
  · refine e_goto C 1330 dL_law_776 (by decide) ?_
    exact K _ _ _ _ _ _ _ _ _ _ _ _ H2
  · refine e_aload_n C 3 dL_law_764 rfl rfl ?_
    refine e_iconst C dL_law_765 ?_
    refine e_lald C k47 dL_law_766 ?_
    rw [show gJ (gwr h1 S2) 47 = _ from e47 c1]
    refine e_iload C dL_law_767 rfl ?_
    refine e_i2l C dL_law_769 ?_
    refine e_lcmp C dL_law_770 ?_
    rw [lg_cmp_self]
    refine e_if_eq C 776 dL_law_771 (by decide) (by omega) (fun _ => ?_) (fun z => absurd rfl z)
    refine e_goto C 1330 dL_law_776 (by decide) ?_
    exact K _ _ _ _ _ _ _ _ _ _ _ _ H2

set_option maxRecDepth 100000 in
set_option maxHeartbeats 4000000 in
theorem j_callOff (hfl : l.stackTraces = false) (C : gE w yL_law cL_law 7 (some .boolean) p s m args meth c) (hX : va_X (wb w) L xs s (wH w)) (hL : L ≤ 2048) (H : qSt h k u S Y sr A B nm ns (cn : Int)) (hi : 4 * cn + 4 ≤ L) (K : qNx w m (eW p l e room_1 s m args below meth c Q) cn 1330) : gG w m 7 (eW p l e room_1 s m args below meth c Q) h k u [some (.ref 0), some (.ref 1), some (.ref 34), some (.ref 47), some (.int (iI ((4 * cn : Nat) : Int))), z5, z6] [] 779 := by
  have hcn : (cn : Int) ≤ 512 := by omega
  have H6 := H.2.2.2.2.2.1
  refine e_aload_n C 1 dL_law_779 rfl rfl ?_
  refine e_aload_n C 0 dL_law_780 rfl rfl ?_
  refine e_iload C dL_law_781 rfl ?_
  refine e_iconst C dL_law_783 ?_
  refine e_iadd C dL_law_784 ?_
  refine e_sld C hX (4 * cn + 1) (by omega) (by omega) (by omega) dL_law_785 ?_
  refine e_aload_n C 3 dL_law_786 rfl rfl ?_
  obtain ⟨mc, ms, post, hM, hk, hu, hp⟩ := law_call (F := Int32.toInt64) H hcn (qo_callOff hfl H6 (xs (4 * cn + 1)).toInt (iI_r _)) (by decide) (by decide) (fun a b c d => w_callOff a b c d)
  refine e_callW (n := 3) C [.ref 1, .int (iI (xs (4 * cn + 1)).toInt), .ref 47] [] (lq_callOff).1 (lq_callOff).2.1 (lq_callOff).2.2.1 (lq_callOff).2.2.2 ⟨by decide +kernel, by decide +kernel, by decide +kernel⟩ hM rfl rfl (Nat.le_of_ble_eq_true rfl) (Nat.le_of_ble_eq_true rfl) hk hu (Nat.le_of_ble_eq_true rfl) dL_law_787 (fun r h1 hp1 => ?_)
  obtain ⟨q, b, S2, Y2, s2, A2, B2, nm2, ns2, rfl, hq, g1, K6, e1, e47, H2⟩ := hp r h1 hp1
  have k34 : gK h1 34 = (6, 20) := g1.1 0 (by omega)
  have k47 : gK (gwr h1 S2) 47 = (9, 1) := H2.2.2.2.1
  show gG w m 7 _ h1 (k + mc) (u + ms) [some (.ref 0), some (.ref 1), some (.ref 34), some (.ref 47), some (.int (iI ((4 * cn : Nat) : Int))), z5, z6] [.int (iI q)] 790
  refine t_istore (lo' := [some (.ref 0), some (.ref 1), some (.ref 34), some (.ref 47), some (.int (iI ((4 * cn : Nat) : Int))), some (.int (iI q)), z6]) C dL_law_790 (by decide) rfl ?_
  refine e_aload_n C 2 dL_law_792 rfl rfl ?_
  refine e_aload_n C 0 dL_law_793 rfl rfl ?_
  refine e_iload C dL_law_794 rfl ?_
  refine e_iconst C dL_law_796 ?_
  refine e_iadd C dL_law_797 ?_
  refine e_sld C hX (4 * cn + 1) (by omega) (by omega) (by omega) dL_law_798 ?_
  refine e_callV C [.int (iI (xs (4 * cn + 1)).toInt)] [] (kL_119 rfl) K6 rfl rfl k34 (Nat.le_of_ble_eq_true rfl) (Nat.le_of_ble_eq_true rfl) hk hu (Nat.le_of_ble_eq_true rfl) dL_law_799 (fun r h2 z => ?_)
  obtain ⟨rfl, rfl⟩ := z
  show gG w m 7 _ (gwr h1 S2) (k + mc) (u + ms) [some (.ref 0), some (.ref 1), some (.ref 34), some (.ref 47), some (.int (iI ((4 * cn : Nat) : Int))), some (.int (iI q)), z6] [.int (iI b)] 802
  refine t_istore (lo' := [some (.ref 0), some (.ref 1), some (.ref 34), some (.ref 47), some (.int (iI ((4 * cn : Nat) : Int))), some (.int (iI q)), some (.int (iI b))]) C dL_law_802 (by decide) rfl ?_
  refine e_aload_n C 2 dL_law_804 rfl rfl ?_
  refine e_callV C [] [] (kL_83 rfl) (c6_thrown (h := h1) (S := S2) g1) rfl rfl k34 (Nat.le_of_ble_eq_true rfl) (Nat.le_of_ble_eq_true rfl) hk hu (Nat.le_of_ble_eq_true rfl) dL_law_805 (fun r h3 z => ?_)
  obtain ⟨rfl, rfl⟩ := z
  show gG w m 7 _ (gwr h1 S2) (k + mc) (u + ms) [some (.ref 0), some (.ref 1), some (.ref 34), some (.ref 47), some (.int (iI ((4 * cn : Nat) : Int))), some (.int (iI q)), some (.int (iI b))] [.int (iI (S2 0 0))] 808
  refine e_iload C dL_law_808 rfl ?_
  refine e_icmp_eq C 815 dL_law_810 (by decide) (by omega) (by omega) (fun _ => ?_) (fun z => absurd e1 z)
  refine e_iload C dL_law_815 rfl ?_
  refine e_if_ne C 832 dL_law_817 (by decide) (by omega) (fun c1 => ?_) (fun c1 => ?_)
  · refine e_goto C 1330 dL_law_832 (by decide) ?_
    exact K _ _ _ _ _ _ _ _ _ _ _ _ H2
  · refine e_aload_n C 3 dL_law_820 rfl rfl ?_
    refine e_iconst C dL_law_821 ?_
    refine e_lald C k47 dL_law_822 ?_
    rw [show gJ (gwr h1 S2) 47 = _ from e47 c1]
    refine e_iload C dL_law_823 rfl ?_
    refine e_i2l C dL_law_825 ?_
    refine e_lcmp C dL_law_826 ?_
    rw [lg_cmp_self]
    refine e_if_eq C 832 dL_law_827 (by decide) (by omega) (fun _ => ?_) (fun z => absurd rfl z)
    refine e_goto C 1330 dL_law_832 (by decide) ?_
    exact K _ _ _ _ _ _ _ _ _ _ _ _ H2

set_option maxRecDepth 100000 in
set_option maxHeartbeats 4000000 in
theorem j_pass (hfl : l.stackTraces = false) (C : gE w yL_law cL_law 7 (some .boolean) p s m args meth c) (hX : va_X (wb w) L xs s (wH w)) (hL : L ≤ 2048) (H : qSt h k u S Y sr A B nm ns (cn : Int)) (hi : 4 * cn + 4 ≤ L) (K : qNx w m (eW p l e room_1 s m args below meth c Q) cn 1330) : gG w m 7 (eW p l e room_1 s m args below meth c Q) h k u [some (.ref 0), some (.ref 1), some (.ref 34), some (.ref 47), some (.int (iI ((4 * cn : Nat) : Int))), z5, z6] [] 835 := by
  have hcn : (cn : Int) ≤ 512 := by omega
  have H6 := H.2.2.2.2.2.1
  refine e_aload_n C 1 dL_law_835 rfl rfl ?_
  refine e_aload_n C 0 dL_law_836 rfl rfl ?_
  refine e_iload C dL_law_837 rfl ?_
  refine e_iconst C dL_law_839 ?_
  refine e_iadd C dL_law_840 ?_
  refine e_sld C hX (4 * cn + 1) (by omega) (by omega) (by omega) dL_law_841 ?_
  refine e_aload_n C 3 dL_law_842 rfl rfl ?_
  obtain ⟨mc, ms, post, hM, hk, hu, hp⟩ := law_call (F := Int32.toInt64) H hcn (qo_pass hfl H6 hcn (xs (4 * cn + 1)).toInt (iI_r _)) (by decide) (by decide) (fun a b c d => w_pass a b c d)
  refine e_callW (n := 3) C [.ref 1, .int (iI (xs (4 * cn + 1)).toInt), .ref 47] [] (lq_pass).1 (lq_pass).2.1 (lq_pass).2.2.1 (lq_pass).2.2.2 ⟨by decide +kernel, by decide +kernel, by decide +kernel⟩ hM rfl rfl (Nat.le_of_ble_eq_true rfl) (Nat.le_of_ble_eq_true rfl) hk hu (Nat.le_of_ble_eq_true rfl) dL_law_843 (fun r h1 hp1 => ?_)
  obtain ⟨q, b, S2, Y2, s2, A2, B2, nm2, ns2, rfl, hq, g1, K6, e1, e47, H2⟩ := hp r h1 hp1
  have k34 : gK h1 34 = (6, 20) := g1.1 0 (by omega)
  have k47 : gK (gwr h1 S2) 47 = (9, 1) := H2.2.2.2.1
  show gG w m 7 _ h1 (k + mc) (u + ms) [some (.ref 0), some (.ref 1), some (.ref 34), some (.ref 47), some (.int (iI ((4 * cn : Nat) : Int))), z5, z6] [.int (iI q)] 846
  refine t_istore (lo' := [some (.ref 0), some (.ref 1), some (.ref 34), some (.ref 47), some (.int (iI ((4 * cn : Nat) : Int))), some (.int (iI q)), z6]) C dL_law_846 (by decide) rfl ?_
  refine e_aload_n C 2 dL_law_848 rfl rfl ?_
  refine e_aload_n C 0 dL_law_849 rfl rfl ?_
  refine e_iload C dL_law_850 rfl ?_
  refine e_iconst C dL_law_852 ?_
  refine e_iadd C dL_law_853 ?_
  refine e_sld C hX (4 * cn + 1) (by omega) (by omega) (by omega) dL_law_854 ?_
  refine e_callV C [.int (iI (xs (4 * cn + 1)).toInt)] [] (kL_122 rfl) K6 rfl rfl k34 (Nat.le_of_ble_eq_true rfl) (Nat.le_of_ble_eq_true rfl) hk hu (Nat.le_of_ble_eq_true rfl) dL_law_855 (fun r h2 z => ?_)
  obtain ⟨rfl, rfl⟩ := z
  show gG w m 7 _ (gwr h1 S2) (k + mc) (u + ms) [some (.ref 0), some (.ref 1), some (.ref 34), some (.ref 47), some (.int (iI ((4 * cn : Nat) : Int))), some (.int (iI q)), z6] [.int (iI b)] 858
  refine t_istore (lo' := [some (.ref 0), some (.ref 1), some (.ref 34), some (.ref 47), some (.int (iI ((4 * cn : Nat) : Int))), some (.int (iI q)), some (.int (iI b))]) C dL_law_858 (by decide) rfl ?_
  refine e_aload_n C 2 dL_law_860 rfl rfl ?_
  refine e_callV C [] [] (kL_83 rfl) (c6_thrown (h := h1) (S := S2) g1) rfl rfl k34 (Nat.le_of_ble_eq_true rfl) (Nat.le_of_ble_eq_true rfl) hk hu (Nat.le_of_ble_eq_true rfl) dL_law_861 (fun r h3 z => ?_)
  obtain ⟨rfl, rfl⟩ := z
  show gG w m 7 _ (gwr h1 S2) (k + mc) (u + ms) [some (.ref 0), some (.ref 1), some (.ref 34), some (.ref 47), some (.int (iI ((4 * cn : Nat) : Int))), some (.int (iI q)), some (.int (iI b))] [.int (iI (S2 0 0))] 864
  refine e_iload C dL_law_864 rfl ?_
  refine e_icmp_eq C 871 dL_law_866 (by decide) (by omega) (by omega) (fun _ => ?_) (fun z => absurd e1 z)
  refine e_iload C dL_law_871 rfl ?_
  refine e_if_ne C 888 dL_law_873 (by decide) (by omega) (fun c1 => ?_) (fun c1 => ?_)
  · refine e_goto C 1330 dL_law_888 (by decide) ?_
    exact K _ _ _ _ _ _ _ _ _ _ _ _ H2
  · refine e_aload_n C 3 dL_law_876 rfl rfl ?_
    refine e_iconst C dL_law_877 ?_
    refine e_lald C k47 dL_law_878 ?_
    rw [show gJ (gwr h1 S2) 47 = _ from e47 c1]
    refine e_iload C dL_law_879 rfl ?_
    refine e_i2l C dL_law_881 ?_
    refine e_lcmp C dL_law_882 ?_
    rw [lg_cmp_self]
    refine e_if_eq C 888 dL_law_883 (by decide) (by omega) (fun _ => ?_) (fun z => absurd rfl z)
    refine e_goto C 1330 dL_law_888 (by decide) ?_
    exact K _ _ _ _ _ _ _ _ _ _ _ _ H2

set_option maxRecDepth 100000 in
set_option maxHeartbeats 4000000 in
theorem j_hour (hfl : l.stackTraces = false) (C : gE w yL_law cL_law 7 (some .boolean) p s m args meth c) (hX : va_X (wb w) L xs s (wH w)) (hL : L ≤ 2048) (H : qSt h k u S Y sr A B nm ns (cn : Int)) (hi : 4 * cn + 4 ≤ L) (K : qNx w m (eW p l e room_1 s m args below meth c Q) cn 1330) : gG w m 7 (eW p l e room_1 s m args below meth c Q) h k u [some (.ref 0), some (.ref 1), some (.ref 34), some (.ref 47), some (.int (iI ((4 * cn : Nat) : Int))), z5, z6] [] 891 := by
  obtain ⟨u1, u2, u3, u4, u5, u6, u7⟩ := H.2.2.2.2.2.1.1.2.1
  have k1 : gK h 1 = (5, 15) := H.1.2.1.1
  have hkk : k ≤ 601024 := by have := H.2.2.2.2.2.2.1; have := H.2.2.2.2.2.1.1.1.2.2.1.1; omega
  have huu : u ≤ 7293034 := by have := H.2.2.2.2.2.2.2; have := H.2.2.2.2.2.1.1.1.2.2.1.1; omega
  have hst := H.2.2.2.2.2.1.1.1.2.2.2.1.2.2.1
  refine e_aload_n C 1 dL_law_891 rfl rfl ?_
  refine e_callV C [] [] (kL_123 rfl) (gCt.of (p5_hour h H.1)) rfl rfl k1 (Nat.le_of_ble_eq_true rfl) (Nat.le_of_ble_eq_true rfl) hkk huu (Nat.le_of_ble_eq_true rfl) dL_law_892 (fun r h1 z => ?_)
  obtain ⟨rfl, hR, hF⟩ := z
  obtain ⟨g1, g2, H2⟩ := H.ask hR hF
  have k34 : gK h1 34 = (6, 20) := g1.1 0 (by omega)
  show gG w m 7 _ h1 k u [some (.ref 0), some (.ref 1), some (.ref 34), some (.ref 47), some (.int (iI ((4 * cn : Nat) : Int))), z5, z6] [.int (iI (Y 0 8))] 895
  refine e_aload_n C 2 dL_law_895 rfl rfl ?_
  have K6 := c6_hour (w := w) (l := l) (h := h1) (S := S) g1
  unfold gMm at K6
  rw [g2] at K6
  refine e_callV C [] [.int (iI (Y 0 8))] (kL_126 rfl) K6 rfl rfl k34 (Nat.le_of_ble_eq_true rfl) (Nat.le_of_ble_eq_true rfl) hkk huu (Nat.le_of_ble_eq_true rfl) dL_law_896 (fun r h2 z => ?_)
  obtain ⟨rfl, rfl⟩ := z
  show gG w m 7 _ (gwr h1 (su S 0 0 0)) k u [some (.ref 0), some (.ref 1), some (.ref 34), some (.ref 47), some (.int (iI ((4 * cn : Nat) : Int))), z5, z6] [.int (iI (S 0 1)), .int (iI (Y 0 8))] 899
  rw [(show Y 0 8 = S 0 1 by first | omega | (split <;> omega)), ← iI_of (iI (S 0 1))]
  refine e_icmp_eq C 1330 dL_law_899 (by decide) (iI_r _) (iI_r _) (fun _ => ?_) (fun z => absurd rfl z)
  exact K _ _ _ _ _ _ _ _ _ _ _ _ H2

set_option maxRecDepth 100000 in
set_option maxHeartbeats 4000000 in
theorem j_shards (hfl : l.stackTraces = false) (C : gE w yL_law cL_law 7 (some .boolean) p s m args meth c) (hX : va_X (wb w) L xs s (wH w)) (hL : L ≤ 2048) (H : qSt h k u S Y sr A B nm ns (cn : Int)) (hi : 4 * cn + 4 ≤ L) (K : qNx w m (eW p l e room_1 s m args below meth c Q) cn 1330) : gG w m 7 (eW p l e room_1 s m args below meth c Q) h k u [some (.ref 0), some (.ref 1), some (.ref 34), some (.ref 47), some (.int (iI ((4 * cn : Nat) : Int))), z5, z6] [] 904 := by
  obtain ⟨u1, u2, u3, u4, u5, u6, u7⟩ := H.2.2.2.2.2.1.1.2.1
  have k1 : gK h 1 = (5, 15) := H.1.2.1.1
  have hkk : k ≤ 601024 := by have := H.2.2.2.2.2.2.1; have := H.2.2.2.2.2.1.1.1.2.2.1.1; omega
  have huu : u ≤ 7293034 := by have := H.2.2.2.2.2.2.2; have := H.2.2.2.2.2.1.1.1.2.2.1.1; omega
  have hst := H.2.2.2.2.2.1.1.1.2.2.2.1.2.2.1
  refine e_aload_n C 1 dL_law_904 rfl rfl ?_
  refine e_callV C [] [] (kL_127 rfl) (gCt.of (p5_shards h H.1)) rfl rfl k1 (Nat.le_of_ble_eq_true rfl) (Nat.le_of_ble_eq_true rfl) hkk huu (Nat.le_of_ble_eq_true rfl) dL_law_905 (fun r h1 z => ?_)
  obtain ⟨rfl, hR, hF⟩ := z
  obtain ⟨g1, g2, H2⟩ := H.ask hR hF
  have k34 : gK h1 34 = (6, 20) := g1.1 0 (by omega)
  show gG w m 7 _ h1 k u [some (.ref 0), some (.ref 1), some (.ref 34), some (.ref 47), some (.int (iI ((4 * cn : Nat) : Int))), z5, z6] [.int (iI (Y 0 7))] 908
  refine e_aload_n C 2 dL_law_908 rfl rfl ?_
  have K6 := c6_shards (w := w) (l := l) (h := h1) (S := S) g1
  unfold gMm at K6
  rw [g2] at K6
  refine e_callV C [] [.int (iI (Y 0 7))] (kL_130 rfl) K6 rfl rfl k34 (Nat.le_of_ble_eq_true rfl) (Nat.le_of_ble_eq_true rfl) hkk huu (Nat.le_of_ble_eq_true rfl) dL_law_909 (fun r h2 z => ?_)
  obtain ⟨rfl, rfl⟩ := z
  show gG w m 7 _ (gwr h1 (su S 0 0 0)) k u [some (.ref 0), some (.ref 1), some (.ref 34), some (.ref 47), some (.int (iI ((4 * cn : Nat) : Int))), z5, z6] [.int (iI (S 0 13)), .int (iI (Y 0 7))] 912
  rw [(show Y 0 7 = S 0 13 by first | omega | (split <;> omega)), ← iI_of (iI (S 0 13))]
  refine e_icmp_eq C 1330 dL_law_912 (by decide) (iI_r _) (iI_r _) (fun _ => ?_) (fun z => absurd rfl z)
  exact K _ _ _ _ _ _ _ _ _ _ _ _ H2

set_option maxRecDepth 100000 in
set_option maxHeartbeats 4000000 in
theorem j_shardOf (hfl : l.stackTraces = false) (C : gE w yL_law cL_law 7 (some .boolean) p s m args meth c) (hX : va_X (wb w) L xs s (wH w)) (hL : L ≤ 2048) (H : qSt h k u S Y sr A B nm ns (cn : Int)) (hi : 4 * cn + 4 ≤ L) (K : qNx w m (eW p l e room_1 s m args below meth c Q) cn 1330) : gG w m 7 (eW p l e room_1 s m args below meth c Q) h k u [some (.ref 0), some (.ref 1), some (.ref 34), some (.ref 47), some (.int (iI ((4 * cn : Nat) : Int))), z5, z6] [] 917 := by
  have hcn : (cn : Int) ≤ 512 := by omega
  have H6 := H.2.2.2.2.2.1
  refine e_aload_n C 1 dL_law_917 rfl rfl ?_
  refine e_aload_n C 0 dL_law_918 rfl rfl ?_
  refine e_iload C dL_law_919 rfl ?_
  refine e_iconst C dL_law_921 ?_
  refine e_iadd C dL_law_922 ?_
  refine e_sld C hX (4 * cn + 1) (by omega) (by omega) (by omega) dL_law_923 ?_
  refine e_aload_n C 3 dL_law_924 rfl rfl ?_
  obtain ⟨mc, ms, post, hM, hk, hu, hp⟩ := law_call (F := Int32.toInt64) H hcn (qo_shardOf hfl H6 (xs (4 * cn + 1)).toInt (iI_r _)) (by decide) (by decide) (fun a b c d => w_shardOf a b c d)
  refine e_callW (n := 3) C [.ref 1, .int (iI (xs (4 * cn + 1)).toInt), .ref 47] [] (lq_shardOf).1 (lq_shardOf).2.1 (lq_shardOf).2.2.1 (lq_shardOf).2.2.2 ⟨by decide +kernel, by decide +kernel, by decide +kernel⟩ hM rfl rfl (Nat.le_of_ble_eq_true rfl) (Nat.le_of_ble_eq_true rfl) hk hu (Nat.le_of_ble_eq_true rfl) dL_law_925 (fun r h1 hp1 => ?_)
  obtain ⟨q, b, S2, Y2, s2, A2, B2, nm2, ns2, rfl, hq, g1, K6, e1, e47, H2⟩ := hp r h1 hp1
  have k34 : gK h1 34 = (6, 20) := g1.1 0 (by omega)
  have k47 : gK (gwr h1 S2) 47 = (9, 1) := H2.2.2.2.1
  show gG w m 7 _ h1 (k + mc) (u + ms) [some (.ref 0), some (.ref 1), some (.ref 34), some (.ref 47), some (.int (iI ((4 * cn : Nat) : Int))), z5, z6] [.int (iI q)] 928
  refine t_istore (lo' := [some (.ref 0), some (.ref 1), some (.ref 34), some (.ref 47), some (.int (iI ((4 * cn : Nat) : Int))), some (.int (iI q)), z6]) C dL_law_928 (by decide) rfl ?_
  refine e_aload_n C 2 dL_law_930 rfl rfl ?_
  refine e_aload_n C 0 dL_law_931 rfl rfl ?_
  refine e_iload C dL_law_932 rfl ?_
  refine e_iconst C dL_law_934 ?_
  refine e_iadd C dL_law_935 ?_
  refine e_sld C hX (4 * cn + 1) (by omega) (by omega) (by omega) dL_law_936 ?_
  refine e_callV C [.int (iI (xs (4 * cn + 1)).toInt)] [] (kL_133 rfl) K6 rfl rfl k34 (Nat.le_of_ble_eq_true rfl) (Nat.le_of_ble_eq_true rfl) hk hu (Nat.le_of_ble_eq_true rfl) dL_law_937 (fun r h2 z => ?_)
  obtain ⟨rfl, rfl⟩ := z
  show gG w m 7 _ (gwr h1 S2) (k + mc) (u + ms) [some (.ref 0), some (.ref 1), some (.ref 34), some (.ref 47), some (.int (iI ((4 * cn : Nat) : Int))), some (.int (iI q)), z6] [.int (iI b)] 940
  refine t_istore (lo' := [some (.ref 0), some (.ref 1), some (.ref 34), some (.ref 47), some (.int (iI ((4 * cn : Nat) : Int))), some (.int (iI q)), some (.int (iI b))]) C dL_law_940 (by decide) rfl ?_
  refine e_aload_n C 2 dL_law_942 rfl rfl ?_
  refine e_callV C [] [] (kL_83 rfl) (c6_thrown (h := h1) (S := S2) g1) rfl rfl k34 (Nat.le_of_ble_eq_true rfl) (Nat.le_of_ble_eq_true rfl) hk hu (Nat.le_of_ble_eq_true rfl) dL_law_943 (fun r h3 z => ?_)
  obtain ⟨rfl, rfl⟩ := z
  show gG w m 7 _ (gwr h1 S2) (k + mc) (u + ms) [some (.ref 0), some (.ref 1), some (.ref 34), some (.ref 47), some (.int (iI ((4 * cn : Nat) : Int))), some (.int (iI q)), some (.int (iI b))] [.int (iI (S2 0 0))] 946
  refine e_iload C dL_law_946 rfl ?_
  refine e_icmp_eq C 953 dL_law_948 (by decide) (by omega) (by omega) (fun _ => ?_) (fun z => absurd e1 z)
  refine e_iload C dL_law_953 rfl ?_
  refine e_if_ne C 970 dL_law_955 (by decide) (by omega) (fun c1 => ?_) (fun c1 => ?_)
  · refine e_goto C 1330 dL_law_970 (by decide) ?_
    exact K _ _ _ _ _ _ _ _ _ _ _ _ H2
  · refine e_aload_n C 3 dL_law_958 rfl rfl ?_
    refine e_iconst C dL_law_959 ?_
    refine e_lald C k47 dL_law_960 ?_
    rw [show gJ (gwr h1 S2) 47 = _ from e47 c1]
    refine e_iload C dL_law_961 rfl ?_
    refine e_i2l C dL_law_963 ?_
    refine e_lcmp C dL_law_964 ?_
    rw [lg_cmp_self]
    refine e_if_eq C 970 dL_law_965 (by decide) (by omega) (fun _ => ?_) (fun z => absurd rfl z)
    refine e_goto C 1330 dL_law_970 (by decide) ?_
    exact K _ _ _ _ _ _ _ _ _ _ _ _ H2

set_option maxRecDepth 100000 in
set_option maxHeartbeats 4000000 in
theorem j_shard (hfl : l.stackTraces = false) (C : gE w yL_law cL_law 7 (some .boolean) p s m args meth c) (hX : va_X (wb w) L xs s (wH w)) (hL : L ≤ 2048) (H : qSt h k u S Y sr A B nm ns (cn : Int)) (hi : 4 * cn + 4 ≤ L) (K : qNx w m (eW p l e room_1 s m args below meth c Q) cn 1330) : gG w m 7 (eW p l e room_1 s m args below meth c Q) h k u [some (.ref 0), some (.ref 1), some (.ref 34), some (.ref 47), some (.int (iI ((4 * cn : Nat) : Int))), z5, z6] [] 973 := by
  have hcn : (cn : Int) ≤ 512 := by omega
  have H6 := H.2.2.2.2.2.1
  refine e_aload_n C 1 dL_law_973 rfl rfl ?_
  refine e_aload_n C 0 dL_law_974 rfl rfl ?_
  refine e_iload C dL_law_975 rfl ?_
  refine e_iconst C dL_law_977 ?_
  refine e_iadd C dL_law_978 ?_
  refine e_sld C hX (4 * cn + 1) (by omega) (by omega) (by omega) dL_law_979 ?_
  refine e_aload_n C 0 dL_law_980 rfl rfl ?_
  refine e_iload C dL_law_981 rfl ?_
  refine e_iconst C dL_law_983 ?_
  refine e_iadd C dL_law_984 ?_
  refine e_sld C hX (4 * cn + 2) (by omega) (by omega) (by omega) dL_law_985 ?_
  refine e_aload_n C 3 dL_law_986 rfl rfl ?_
  obtain ⟨mc, ms, post, hM, hk, hu, hp⟩ := law_call (F := Int32.toInt64) H hcn (qo_shard hfl H6 (xs (4 * cn + 1)).toInt (iI_r _) (xs (4 * cn + 2)).toInt (iI_r _)) (by decide) (by decide) (fun a b c d => w_shard a b c d)
  refine e_callW (n := 4) C [.ref 1, .int (iI (xs (4 * cn + 1)).toInt), .int (iI (xs (4 * cn + 2)).toInt), .ref 47] [] (lq_shard).1 (lq_shard).2.1 (lq_shard).2.2.1 (lq_shard).2.2.2 ⟨by decide +kernel, by decide +kernel, by decide +kernel⟩ hM rfl rfl (Nat.le_of_ble_eq_true rfl) (Nat.le_of_ble_eq_true rfl) hk hu (Nat.le_of_ble_eq_true rfl) dL_law_987 (fun r h1 hp1 => ?_)
  obtain ⟨q, b, S2, Y2, s2, A2, B2, nm2, ns2, rfl, hq, g1, K6, e1, e47, H2⟩ := hp r h1 hp1
  have k34 : gK h1 34 = (6, 20) := g1.1 0 (by omega)
  have k47 : gK (gwr h1 S2) 47 = (9, 1) := H2.2.2.2.1
  show gG w m 7 _ h1 (k + mc) (u + ms) [some (.ref 0), some (.ref 1), some (.ref 34), some (.ref 47), some (.int (iI ((4 * cn : Nat) : Int))), z5, z6] [.int (iI q)] 990
  refine t_istore (lo' := [some (.ref 0), some (.ref 1), some (.ref 34), some (.ref 47), some (.int (iI ((4 * cn : Nat) : Int))), some (.int (iI q)), z6]) C dL_law_990 (by decide) rfl ?_
  refine e_aload_n C 2 dL_law_992 rfl rfl ?_
  refine e_aload_n C 0 dL_law_993 rfl rfl ?_
  refine e_iload C dL_law_994 rfl ?_
  refine e_iconst C dL_law_996 ?_
  refine e_iadd C dL_law_997 ?_
  refine e_sld C hX (4 * cn + 1) (by omega) (by omega) (by omega) dL_law_998 ?_
  refine e_aload_n C 0 dL_law_999 rfl rfl ?_
  refine e_iload C dL_law_1000 rfl ?_
  refine e_iconst C dL_law_1002 ?_
  refine e_iadd C dL_law_1003 ?_
  refine e_sld C hX (4 * cn + 2) (by omega) (by omega) (by omega) dL_law_1004 ?_
  refine e_callV C [.int (iI (xs (4 * cn + 1)).toInt), .int (iI (xs (4 * cn + 2)).toInt)] [] (kL_136 rfl) K6 rfl rfl k34 (Nat.le_of_ble_eq_true rfl) (Nat.le_of_ble_eq_true rfl) hk hu (Nat.le_of_ble_eq_true rfl) dL_law_1005 (fun r h2 z => ?_)
  obtain ⟨rfl, rfl⟩ := z
  show gG w m 7 _ (gwr h1 S2) (k + mc) (u + ms) [some (.ref 0), some (.ref 1), some (.ref 34), some (.ref 47), some (.int (iI ((4 * cn : Nat) : Int))), some (.int (iI q)), z6] [.int (iI b)] 1008
  refine t_istore (lo' := [some (.ref 0), some (.ref 1), some (.ref 34), some (.ref 47), some (.int (iI ((4 * cn : Nat) : Int))), some (.int (iI q)), some (.int (iI b))]) C dL_law_1008 (by decide) rfl ?_
  refine e_aload_n C 2 dL_law_1010 rfl rfl ?_
  refine e_callV C [] [] (kL_83 rfl) (c6_thrown (h := h1) (S := S2) g1) rfl rfl k34 (Nat.le_of_ble_eq_true rfl) (Nat.le_of_ble_eq_true rfl) hk hu (Nat.le_of_ble_eq_true rfl) dL_law_1011 (fun r h3 z => ?_)
  obtain ⟨rfl, rfl⟩ := z
  show gG w m 7 _ (gwr h1 S2) (k + mc) (u + ms) [some (.ref 0), some (.ref 1), some (.ref 34), some (.ref 47), some (.int (iI ((4 * cn : Nat) : Int))), some (.int (iI q)), some (.int (iI b))] [.int (iI (S2 0 0))] 1014
  refine e_iload C dL_law_1014 rfl ?_
  refine e_icmp_eq C 1021 dL_law_1016 (by decide) (by omega) (by omega) (fun _ => ?_) (fun z => absurd e1 z)
  refine e_iload C dL_law_1021 rfl ?_
  refine e_if_ne C 1038 dL_law_1023 (by decide) (by omega) (fun c1 => ?_) (fun c1 => ?_)
  · refine e_goto C 1330 dL_law_1038 (by decide) ?_
    exact K _ _ _ _ _ _ _ _ _ _ _ _ H2
  · refine e_aload_n C 3 dL_law_1026 rfl rfl ?_
    refine e_iconst C dL_law_1027 ?_
    refine e_lald C k47 dL_law_1028 ?_
    rw [show gJ (gwr h1 S2) 47 = _ from e47 c1]
    refine e_iload C dL_law_1029 rfl ?_
    refine e_i2l C dL_law_1031 ?_
    refine e_lcmp C dL_law_1032 ?_
    rw [lg_cmp_self]
    refine e_if_eq C 1038 dL_law_1033 (by decide) (by omega) (fun _ => ?_) (fun z => absurd rfl z)
    refine e_goto C 1330 dL_law_1038 (by decide) ?_
    exact K _ _ _ _ _ _ _ _ _ _ _ _ H2

set_option maxRecDepth 100000 in
set_option maxHeartbeats 4000000 in
theorem j_machineOf (hfl : l.stackTraces = false) (C : gE w yL_law cL_law 7 (some .boolean) p s m args meth c) (hX : va_X (wb w) L xs s (wH w)) (hL : L ≤ 2048) (H : qSt h k u S Y sr A B nm ns (cn : Int)) (hi : 4 * cn + 4 ≤ L) (K : qNx w m (eW p l e room_1 s m args below meth c Q) cn 1330) : gG w m 7 (eW p l e room_1 s m args below meth c Q) h k u [some (.ref 0), some (.ref 1), some (.ref 34), some (.ref 47), some (.int (iI ((4 * cn : Nat) : Int))), z5, z6] [] 1041 := by
  have hcn : (cn : Int) ≤ 512 := by omega
  have H6 := H.2.2.2.2.2.1
  refine e_aload_n C 1 dL_law_1041 rfl rfl ?_
  refine e_aload_n C 0 dL_law_1042 rfl rfl ?_
  refine e_iload C dL_law_1043 rfl ?_
  refine e_iconst C dL_law_1045 ?_
  refine e_iadd C dL_law_1046 ?_
  refine e_sld C hX (4 * cn + 1) (by omega) (by omega) (by omega) dL_law_1047 ?_
  refine e_aload_n C 0 dL_law_1048 rfl rfl ?_
  refine e_iload C dL_law_1049 rfl ?_
  refine e_iconst C dL_law_1051 ?_
  refine e_iadd C dL_law_1052 ?_
  refine e_sld C hX (4 * cn + 2) (by omega) (by omega) (by omega) dL_law_1053 ?_
  refine e_aload_n C 3 dL_law_1054 rfl rfl ?_
  obtain ⟨mc, ms, post, hM, hk, hu, hp⟩ := law_call (F := Int32.toInt64) H hcn (qo_machineOf hfl H6 (xs (4 * cn + 1)).toInt (iI_r _) (xs (4 * cn + 2)).toInt (iI_r _)) (by decide) (by decide) (fun a b c d => w_machineOf a b c d)
  refine e_callW (n := 4) C [.ref 1, .int (iI (xs (4 * cn + 1)).toInt), .int (iI (xs (4 * cn + 2)).toInt), .ref 47] [] (lq_machineOf).1 (lq_machineOf).2.1 (lq_machineOf).2.2.1 (lq_machineOf).2.2.2 ⟨by decide +kernel, by decide +kernel, by decide +kernel⟩ hM rfl rfl (Nat.le_of_ble_eq_true rfl) (Nat.le_of_ble_eq_true rfl) hk hu (Nat.le_of_ble_eq_true rfl) dL_law_1055 (fun r h1 hp1 => ?_)
  obtain ⟨q, b, S2, Y2, s2, A2, B2, nm2, ns2, rfl, hq, g1, K6, e1, e47, H2⟩ := hp r h1 hp1
  have k34 : gK h1 34 = (6, 20) := g1.1 0 (by omega)
  have k47 : gK (gwr h1 S2) 47 = (9, 1) := H2.2.2.2.1
  show gG w m 7 _ h1 (k + mc) (u + ms) [some (.ref 0), some (.ref 1), some (.ref 34), some (.ref 47), some (.int (iI ((4 * cn : Nat) : Int))), z5, z6] [.int (iI q)] 1058
  refine t_istore (lo' := [some (.ref 0), some (.ref 1), some (.ref 34), some (.ref 47), some (.int (iI ((4 * cn : Nat) : Int))), some (.int (iI q)), z6]) C dL_law_1058 (by decide) rfl ?_
  refine e_aload_n C 2 dL_law_1060 rfl rfl ?_
  refine e_aload_n C 0 dL_law_1061 rfl rfl ?_
  refine e_iload C dL_law_1062 rfl ?_
  refine e_iconst C dL_law_1064 ?_
  refine e_iadd C dL_law_1065 ?_
  refine e_sld C hX (4 * cn + 1) (by omega) (by omega) (by omega) dL_law_1066 ?_
  refine e_aload_n C 0 dL_law_1067 rfl rfl ?_
  refine e_iload C dL_law_1068 rfl ?_
  refine e_iconst C dL_law_1070 ?_
  refine e_iadd C dL_law_1071 ?_
  refine e_sld C hX (4 * cn + 2) (by omega) (by omega) (by omega) dL_law_1072 ?_
  refine e_callV C [.int (iI (xs (4 * cn + 1)).toInt), .int (iI (xs (4 * cn + 2)).toInt)] [] (kL_139 rfl) K6 rfl rfl k34 (Nat.le_of_ble_eq_true rfl) (Nat.le_of_ble_eq_true rfl) hk hu (Nat.le_of_ble_eq_true rfl) dL_law_1073 (fun r h2 z => ?_)
  obtain ⟨rfl, rfl⟩ := z
  show gG w m 7 _ (gwr h1 S2) (k + mc) (u + ms) [some (.ref 0), some (.ref 1), some (.ref 34), some (.ref 47), some (.int (iI ((4 * cn : Nat) : Int))), some (.int (iI q)), z6] [.int (iI b)] 1076
  refine t_istore (lo' := [some (.ref 0), some (.ref 1), some (.ref 34), some (.ref 47), some (.int (iI ((4 * cn : Nat) : Int))), some (.int (iI q)), some (.int (iI b))]) C dL_law_1076 (by decide) rfl ?_
  refine e_aload_n C 2 dL_law_1078 rfl rfl ?_
  refine e_callV C [] [] (kL_83 rfl) (c6_thrown (h := h1) (S := S2) g1) rfl rfl k34 (Nat.le_of_ble_eq_true rfl) (Nat.le_of_ble_eq_true rfl) hk hu (Nat.le_of_ble_eq_true rfl) dL_law_1079 (fun r h3 z => ?_)
  obtain ⟨rfl, rfl⟩ := z
  show gG w m 7 _ (gwr h1 S2) (k + mc) (u + ms) [some (.ref 0), some (.ref 1), some (.ref 34), some (.ref 47), some (.int (iI ((4 * cn : Nat) : Int))), some (.int (iI q)), some (.int (iI b))] [.int (iI (S2 0 0))] 1082
  refine e_iload C dL_law_1082 rfl ?_
  refine e_icmp_eq C 1089 dL_law_1084 (by decide) (by omega) (by omega) (fun _ => ?_) (fun z => absurd e1 z)
  refine e_iload C dL_law_1089 rfl ?_
  refine e_if_ne C 1106 dL_law_1091 (by decide) (by omega) (fun c1 => ?_) (fun c1 => ?_)
  · refine e_goto C 1330 dL_law_1106 (by decide) ?_
    exact K _ _ _ _ _ _ _ _ _ _ _ _ H2
  · refine e_aload_n C 3 dL_law_1094 rfl rfl ?_
    refine e_iconst C dL_law_1095 ?_
    refine e_lald C k47 dL_law_1096 ?_
    rw [show gJ (gwr h1 S2) 47 = _ from e47 c1]
    refine e_iload C dL_law_1097 rfl ?_
    refine e_i2l C dL_law_1099 ?_
    refine e_lcmp C dL_law_1100 ?_
    rw [lg_cmp_self]
    refine e_if_eq C 1106 dL_law_1101 (by decide) (by omega) (fun _ => ?_) (fun z => absurd rfl z)
    refine e_goto C 1330 dL_law_1106 (by decide) ?_
    exact K _ _ _ _ _ _ _ _ _ _ _ _ H2

set_option maxRecDepth 100000 in
set_option maxHeartbeats 4000000 in
theorem j_tenant (hfl : l.stackTraces = false) (C : gE w yL_law cL_law 7 (some .boolean) p s m args meth c) (hX : va_X (wb w) L xs s (wH w)) (hL : L ≤ 2048) (H : qSt h k u S Y sr A B nm ns (cn : Int)) (hi : 4 * cn + 4 ≤ L) (K : qNx w m (eW p l e room_1 s m args below meth c Q) cn 1330) : gG w m 7 (eW p l e room_1 s m args below meth c Q) h k u [some (.ref 0), some (.ref 1), some (.ref 34), some (.ref 47), some (.int (iI ((4 * cn : Nat) : Int))), z5, z6] [] 1109 := by
  have hcn : (cn : Int) ≤ 512 := by omega
  have H6 := H.2.2.2.2.2.1
  refine e_aload_n C 1 dL_law_1109 rfl rfl ?_
  refine e_aload_n C 0 dL_law_1110 rfl rfl ?_
  refine e_iload C dL_law_1111 rfl ?_
  refine e_iconst C dL_law_1113 ?_
  refine e_iadd C dL_law_1114 ?_
  refine e_sld C hX (4 * cn + 1) (by omega) (by omega) (by omega) dL_law_1115 ?_
  refine e_aload_n C 0 dL_law_1116 rfl rfl ?_
  refine e_iload C dL_law_1117 rfl ?_
  refine e_iconst C dL_law_1119 ?_
  refine e_iadd C dL_law_1120 ?_
  refine e_sld C hX (4 * cn + 2) (by omega) (by omega) (by omega) dL_law_1121 ?_
  refine e_aload_n C 3 dL_law_1122 rfl rfl ?_
  obtain ⟨mc, ms, post, hM, hk, hu, hp⟩ := law_call (F := Int32.toInt64) H hcn (qo_tenant hfl H6 (xs (4 * cn + 1)).toInt (iI_r _) (xs (4 * cn + 2)).toInt (iI_r _)) (by decide) (by decide) (fun a b c d => w_tenant a b c d)
  refine e_callW (n := 4) C [.ref 1, .int (iI (xs (4 * cn + 1)).toInt), .int (iI (xs (4 * cn + 2)).toInt), .ref 47] [] (lq_tenant).1 (lq_tenant).2.1 (lq_tenant).2.2.1 (lq_tenant).2.2.2 ⟨by decide +kernel, by decide +kernel, by decide +kernel⟩ hM rfl rfl (Nat.le_of_ble_eq_true rfl) (Nat.le_of_ble_eq_true rfl) hk hu (Nat.le_of_ble_eq_true rfl) dL_law_1123 (fun r h1 hp1 => ?_)
  obtain ⟨q, b, S2, Y2, s2, A2, B2, nm2, ns2, rfl, hq, g1, K6, e1, e47, H2⟩ := hp r h1 hp1
  have k34 : gK h1 34 = (6, 20) := g1.1 0 (by omega)
  have k47 : gK (gwr h1 S2) 47 = (9, 1) := H2.2.2.2.1
  show gG w m 7 _ h1 (k + mc) (u + ms) [some (.ref 0), some (.ref 1), some (.ref 34), some (.ref 47), some (.int (iI ((4 * cn : Nat) : Int))), z5, z6] [.int (iI q)] 1126
  refine t_istore (lo' := [some (.ref 0), some (.ref 1), some (.ref 34), some (.ref 47), some (.int (iI ((4 * cn : Nat) : Int))), some (.int (iI q)), z6]) C dL_law_1126 (by decide) rfl ?_
  refine e_aload_n C 2 dL_law_1128 rfl rfl ?_
  refine e_aload_n C 0 dL_law_1129 rfl rfl ?_
  refine e_iload C dL_law_1130 rfl ?_
  refine e_iconst C dL_law_1132 ?_
  refine e_iadd C dL_law_1133 ?_
  refine e_sld C hX (4 * cn + 1) (by omega) (by omega) (by omega) dL_law_1134 ?_
  refine e_aload_n C 0 dL_law_1135 rfl rfl ?_
  refine e_iload C dL_law_1136 rfl ?_
  refine e_iconst C dL_law_1138 ?_
  refine e_iadd C dL_law_1139 ?_
  refine e_sld C hX (4 * cn + 2) (by omega) (by omega) (by omega) dL_law_1140 ?_
  refine e_callV C [.int (iI (xs (4 * cn + 1)).toInt), .int (iI (xs (4 * cn + 2)).toInt)] [] (kL_142 rfl) K6 rfl rfl k34 (Nat.le_of_ble_eq_true rfl) (Nat.le_of_ble_eq_true rfl) hk hu (Nat.le_of_ble_eq_true rfl) dL_law_1141 (fun r h2 z => ?_)
  obtain ⟨rfl, rfl⟩ := z
  show gG w m 7 _ (gwr h1 S2) (k + mc) (u + ms) [some (.ref 0), some (.ref 1), some (.ref 34), some (.ref 47), some (.int (iI ((4 * cn : Nat) : Int))), some (.int (iI q)), z6] [.int (iI b)] 1144
  refine t_istore (lo' := [some (.ref 0), some (.ref 1), some (.ref 34), some (.ref 47), some (.int (iI ((4 * cn : Nat) : Int))), some (.int (iI q)), some (.int (iI b))]) C dL_law_1144 (by decide) rfl ?_
  refine e_aload_n C 2 dL_law_1146 rfl rfl ?_
  refine e_callV C [] [] (kL_83 rfl) (c6_thrown (h := h1) (S := S2) g1) rfl rfl k34 (Nat.le_of_ble_eq_true rfl) (Nat.le_of_ble_eq_true rfl) hk hu (Nat.le_of_ble_eq_true rfl) dL_law_1147 (fun r h3 z => ?_)
  obtain ⟨rfl, rfl⟩ := z
  show gG w m 7 _ (gwr h1 S2) (k + mc) (u + ms) [some (.ref 0), some (.ref 1), some (.ref 34), some (.ref 47), some (.int (iI ((4 * cn : Nat) : Int))), some (.int (iI q)), some (.int (iI b))] [.int (iI (S2 0 0))] 1150
  refine e_iload C dL_law_1150 rfl ?_
  refine e_icmp_eq C 1157 dL_law_1152 (by decide) (by omega) (by omega) (fun _ => ?_) (fun z => absurd e1 z)
  refine e_iload C dL_law_1157 rfl ?_
  refine e_if_ne C 1174 dL_law_1159 (by decide) (by omega) (fun c1 => ?_) (fun c1 => ?_)
  · refine e_goto C 1330 dL_law_1174 (by decide) ?_
    exact K _ _ _ _ _ _ _ _ _ _ _ _ H2
  · refine e_aload_n C 3 dL_law_1162 rfl rfl ?_
    refine e_iconst C dL_law_1163 ?_
    refine e_lald C k47 dL_law_1164 ?_
    rw [show gJ (gwr h1 S2) 47 = _ from e47 c1]
    refine e_iload C dL_law_1165 rfl ?_
    refine e_i2l C dL_law_1167 ?_
    refine e_lcmp C dL_law_1168 ?_
    rw [lg_cmp_self]
    refine e_if_eq C 1174 dL_law_1169 (by decide) (by omega) (fun _ => ?_) (fun z => absurd rfl z)
    refine e_goto C 1330 dL_law_1174 (by decide) ?_
    exact K _ _ _ _ _ _ _ _ _ _ _ _ H2

set_option maxRecDepth 100000 in
set_option maxHeartbeats 4000000 in
theorem j_billAnew (hfl : l.stackTraces = false) (C : gE w yL_law cL_law 7 (some .boolean) p s m args meth c) (hX : va_X (wb w) L xs s (wH w)) (hL : L ≤ 2048) (H : qSt h k u S Y sr A B nm ns (cn : Int)) (hi : 4 * cn + 4 ≤ L) (K : qNx w m (eW p l e room_1 s m args below meth c Q) cn 1330) : gG w m 7 (eW p l e room_1 s m args below meth c Q) h k u [some (.ref 0), some (.ref 1), some (.ref 34), some (.ref 47), some (.int (iI ((4 * cn : Nat) : Int))), z5, z6] [] 1177 := by
  have hcn : (cn : Int) ≤ 512 := by omega
  have H6 := H.2.2.2.2.2.1
  refine e_aload_n C 1 dL_law_1177 rfl rfl ?_
  refine e_aload_n C 0 dL_law_1178 rfl rfl ?_
  refine e_iload C dL_law_1179 rfl ?_
  refine e_iconst C dL_law_1181 ?_
  refine e_iadd C dL_law_1182 ?_
  refine e_sld C hX (4 * cn + 1) (by omega) (by omega) (by omega) dL_law_1183 ?_
  refine e_aload_n C 3 dL_law_1184 rfl rfl ?_
  obtain ⟨mc, ms, post, hM, hk, hu, hp⟩ := law_call (F := Int32.toInt64) H hcn (qo_billAnew hfl H6 (xs (4 * cn + 1)).toInt (iI_r _)) (by decide) (by decide) (fun a b c d => w_billAnew a b c d)
  refine e_callW (n := 3) C [.ref 1, .int (iI (xs (4 * cn + 1)).toInt), .ref 47] [] (lq_billAnew).1 (lq_billAnew).2.1 (lq_billAnew).2.2.1 (lq_billAnew).2.2.2 ⟨by decide +kernel, by decide +kernel, by decide +kernel⟩ hM rfl rfl (Nat.le_of_ble_eq_true rfl) (Nat.le_of_ble_eq_true rfl) hk hu (Nat.le_of_ble_eq_true rfl) dL_law_1185 (fun r h1 hp1 => ?_)
  obtain ⟨q, b, S2, Y2, s2, A2, B2, nm2, ns2, rfl, hq, g1, K6, e1, e47, H2⟩ := hp r h1 hp1
  have k34 : gK h1 34 = (6, 20) := g1.1 0 (by omega)
  have k47 : gK (gwr h1 S2) 47 = (9, 1) := H2.2.2.2.1
  show gG w m 7 _ h1 (k + mc) (u + ms) [some (.ref 0), some (.ref 1), some (.ref 34), some (.ref 47), some (.int (iI ((4 * cn : Nat) : Int))), z5, z6] [.int (iI q)] 1188
  refine t_istore (lo' := [some (.ref 0), some (.ref 1), some (.ref 34), some (.ref 47), some (.int (iI ((4 * cn : Nat) : Int))), some (.int (iI q)), z6]) C dL_law_1188 (by decide) rfl ?_
  refine e_aload_n C 2 dL_law_1190 rfl rfl ?_
  refine e_aload_n C 0 dL_law_1191 rfl rfl ?_
  refine e_iload C dL_law_1192 rfl ?_
  refine e_iconst C dL_law_1194 ?_
  refine e_iadd C dL_law_1195 ?_
  refine e_sld C hX (4 * cn + 1) (by omega) (by omega) (by omega) dL_law_1196 ?_
  refine e_callV C [.int (iI (xs (4 * cn + 1)).toInt)] [] (kL_145 rfl) K6 rfl rfl k34 (Nat.le_of_ble_eq_true rfl) (Nat.le_of_ble_eq_true rfl) hk hu (Nat.le_of_ble_eq_true rfl) dL_law_1197 (fun r h2 z => ?_)
  obtain ⟨rfl, rfl⟩ := z
  show gG w m 7 _ (gwr h1 S2) (k + mc) (u + ms) [some (.ref 0), some (.ref 1), some (.ref 34), some (.ref 47), some (.int (iI ((4 * cn : Nat) : Int))), some (.int (iI q)), z6] [.int (iI b)] 1200
  refine t_istore (lo' := [some (.ref 0), some (.ref 1), some (.ref 34), some (.ref 47), some (.int (iI ((4 * cn : Nat) : Int))), some (.int (iI q)), some (.int (iI b))]) C dL_law_1200 (by decide) rfl ?_
  refine e_aload_n C 2 dL_law_1202 rfl rfl ?_
  refine e_callV C [] [] (kL_83 rfl) (c6_thrown (h := h1) (S := S2) g1) rfl rfl k34 (Nat.le_of_ble_eq_true rfl) (Nat.le_of_ble_eq_true rfl) hk hu (Nat.le_of_ble_eq_true rfl) dL_law_1203 (fun r h3 z => ?_)
  obtain ⟨rfl, rfl⟩ := z
  show gG w m 7 _ (gwr h1 S2) (k + mc) (u + ms) [some (.ref 0), some (.ref 1), some (.ref 34), some (.ref 47), some (.int (iI ((4 * cn : Nat) : Int))), some (.int (iI q)), some (.int (iI b))] [.int (iI (S2 0 0))] 1206
  refine e_iload C dL_law_1206 rfl ?_
  refine e_icmp_eq C 1213 dL_law_1208 (by decide) (by omega) (by omega) (fun _ => ?_) (fun z => absurd e1 z)
  refine e_iload C dL_law_1213 rfl ?_
  refine e_if_ne C 1230 dL_law_1215 (by decide) (by omega) (fun c1 => ?_) (fun c1 => ?_)
  · refine e_goto C 1330 dL_law_1230 (by decide) ?_
    exact K _ _ _ _ _ _ _ _ _ _ _ _ H2
  · refine e_aload_n C 3 dL_law_1218 rfl rfl ?_
    refine e_iconst C dL_law_1219 ?_
    refine e_lald C k47 dL_law_1220 ?_
    rw [show gJ (gwr h1 S2) 47 = _ from e47 c1]
    refine e_iload C dL_law_1221 rfl ?_
    refine e_i2l C dL_law_1223 ?_
    refine e_lcmp C dL_law_1224 ?_
    rw [lg_cmp_self]
    refine e_if_eq C 1230 dL_law_1225 (by decide) (by omega) (fun _ => ?_) (fun z => absurd rfl z)
    refine e_goto C 1330 dL_law_1230 (by decide) ?_
    exact K _ _ _ _ _ _ _ _ _ _ _ _ H2

set_option maxRecDepth 100000 in
set_option maxHeartbeats 4000000 in
theorem j_whereAnew (hfl : l.stackTraces = false) (C : gE w yL_law cL_law 7 (some .boolean) p s m args meth c) (hX : va_X (wb w) L xs s (wH w)) (hL : L ≤ 2048) (H : qSt h k u S Y sr A B nm ns (cn : Int)) (hi : 4 * cn + 4 ≤ L) (K : qNx w m (eW p l e room_1 s m args below meth c Q) cn 1330) : gG w m 7 (eW p l e room_1 s m args below meth c Q) h k u [some (.ref 0), some (.ref 1), some (.ref 34), some (.ref 47), some (.int (iI ((4 * cn : Nat) : Int))), z5, z6] [] 1233 := by
  have hcn : (cn : Int) ≤ 512 := by omega
  have H6 := H.2.2.2.2.2.1
  refine e_aload_n C 1 dL_law_1233 rfl rfl ?_
  refine e_aload_n C 0 dL_law_1234 rfl rfl ?_
  refine e_iload C dL_law_1235 rfl ?_
  refine e_iconst C dL_law_1237 ?_
  refine e_iadd C dL_law_1238 ?_
  refine e_sld C hX (4 * cn + 1) (by omega) (by omega) (by omega) dL_law_1239 ?_
  refine e_aload_n C 3 dL_law_1240 rfl rfl ?_
  obtain ⟨mc, ms, post, hM, hk, hu, hp⟩ := law_call (F := Int32.toInt64) H hcn (qo_whereAnew hfl H6 (xs (4 * cn + 1)).toInt (iI_r _)) (by decide) (by decide) (fun a b c d => w_whereAnew a b c d)
  refine e_callW (n := 3) C [.ref 1, .int (iI (xs (4 * cn + 1)).toInt), .ref 47] [] (lq_whereAnew).1 (lq_whereAnew).2.1 (lq_whereAnew).2.2.1 (lq_whereAnew).2.2.2 ⟨by decide +kernel, by decide +kernel, by decide +kernel⟩ hM rfl rfl (Nat.le_of_ble_eq_true rfl) (Nat.le_of_ble_eq_true rfl) hk hu (Nat.le_of_ble_eq_true rfl) dL_law_1241 (fun r h1 hp1 => ?_)
  obtain ⟨q, b, S2, Y2, s2, A2, B2, nm2, ns2, rfl, hq, g1, K6, e1, e47, H2⟩ := hp r h1 hp1
  have k34 : gK h1 34 = (6, 20) := g1.1 0 (by omega)
  have k47 : gK (gwr h1 S2) 47 = (9, 1) := H2.2.2.2.1
  show gG w m 7 _ h1 (k + mc) (u + ms) [some (.ref 0), some (.ref 1), some (.ref 34), some (.ref 47), some (.int (iI ((4 * cn : Nat) : Int))), z5, z6] [.int (iI q)] 1244
  refine t_istore (lo' := [some (.ref 0), some (.ref 1), some (.ref 34), some (.ref 47), some (.int (iI ((4 * cn : Nat) : Int))), some (.int (iI q)), z6]) C dL_law_1244 (by decide) rfl ?_
  refine e_aload_n C 2 dL_law_1246 rfl rfl ?_
  refine e_aload_n C 0 dL_law_1247 rfl rfl ?_
  refine e_iload C dL_law_1248 rfl ?_
  refine e_iconst C dL_law_1250 ?_
  refine e_iadd C dL_law_1251 ?_
  refine e_sld C hX (4 * cn + 1) (by omega) (by omega) (by omega) dL_law_1252 ?_
  refine e_callV C [.int (iI (xs (4 * cn + 1)).toInt)] [] (kL_148 rfl) K6 rfl rfl k34 (Nat.le_of_ble_eq_true rfl) (Nat.le_of_ble_eq_true rfl) hk hu (Nat.le_of_ble_eq_true rfl) dL_law_1253 (fun r h2 z => ?_)
  obtain ⟨rfl, rfl⟩ := z
  show gG w m 7 _ (gwr h1 S2) (k + mc) (u + ms) [some (.ref 0), some (.ref 1), some (.ref 34), some (.ref 47), some (.int (iI ((4 * cn : Nat) : Int))), some (.int (iI q)), z6] [.int (iI b)] 1256
  refine t_istore (lo' := [some (.ref 0), some (.ref 1), some (.ref 34), some (.ref 47), some (.int (iI ((4 * cn : Nat) : Int))), some (.int (iI q)), some (.int (iI b))]) C dL_law_1256 (by decide) rfl ?_
  refine e_aload_n C 2 dL_law_1258 rfl rfl ?_
  refine e_callV C [] [] (kL_83 rfl) (c6_thrown (h := h1) (S := S2) g1) rfl rfl k34 (Nat.le_of_ble_eq_true rfl) (Nat.le_of_ble_eq_true rfl) hk hu (Nat.le_of_ble_eq_true rfl) dL_law_1259 (fun r h3 z => ?_)
  obtain ⟨rfl, rfl⟩ := z
  show gG w m 7 _ (gwr h1 S2) (k + mc) (u + ms) [some (.ref 0), some (.ref 1), some (.ref 34), some (.ref 47), some (.int (iI ((4 * cn : Nat) : Int))), some (.int (iI q)), some (.int (iI b))] [.int (iI (S2 0 0))] 1262
  refine e_iload C dL_law_1262 rfl ?_
  refine e_icmp_eq C 1269 dL_law_1264 (by decide) (by omega) (by omega) (fun _ => ?_) (fun z => absurd e1 z)
  refine e_iload C dL_law_1269 rfl ?_
  refine e_if_ne C 1286 dL_law_1271 (by decide) (by omega) (fun c1 => ?_) (fun c1 => ?_)
  · refine e_goto C 1330 dL_law_1286 (by decide) ?_
    exact K _ _ _ _ _ _ _ _ _ _ _ _ H2
  · refine e_aload_n C 3 dL_law_1274 rfl rfl ?_
    refine e_iconst C dL_law_1275 ?_
    refine e_lald C k47 dL_law_1276 ?_
    rw [show gJ (gwr h1 S2) 47 = _ from e47 c1]
    refine e_iload C dL_law_1277 rfl ?_
    refine e_i2l C dL_law_1279 ?_
    refine e_lcmp C dL_law_1280 ?_
    rw [lg_cmp_self]
    refine e_if_eq C 1286 dL_law_1281 (by decide) (by omega) (fun _ => ?_) (fun z => absurd rfl z)
    refine e_goto C 1330 dL_law_1286 (by decide) ?_
    exact K _ _ _ _ _ _ _ _ _ _ _ _ H2

set_option maxRecDepth 100000 in
set_option maxHeartbeats 4000000 in
theorem j_moves (hfl : l.stackTraces = false) (C : gE w yL_law cL_law 7 (some .boolean) p s m args meth c) (hX : va_X (wb w) L xs s (wH w)) (hL : L ≤ 2048) (H : qSt h k u S Y sr A B nm ns (cn : Int)) (hi : 4 * cn + 4 ≤ L) (K : qNx w m (eW p l e room_1 s m args below meth c Q) cn 1330) : gG w m 7 (eW p l e room_1 s m args below meth c Q) h k u [some (.ref 0), some (.ref 1), some (.ref 34), some (.ref 47), some (.int (iI ((4 * cn : Nat) : Int))), z5, z6] [] 1289 := by
  obtain ⟨u1, u2, u3, u4, u5, u6, u7⟩ := H.2.2.2.2.2.1.1.2.1
  have k1 : gK h 1 = (5, 15) := H.1.2.1.1
  have hkk : k ≤ 601024 := by have := H.2.2.2.2.2.2.1; have := H.2.2.2.2.2.1.1.1.2.2.1.1; omega
  have huu : u ≤ 7293034 := by have := H.2.2.2.2.2.2.2; have := H.2.2.2.2.2.1.1.1.2.2.1.1; omega
  have hst := H.2.2.2.2.2.1.1.1.2.2.2.1.2.2.1
  refine e_aload_n C 1 dL_law_1289 rfl rfl ?_
  refine e_aload_n C 0 dL_law_1290 rfl rfl ?_
  refine e_iload C dL_law_1291 rfl ?_
  refine e_iconst C dL_law_1293 ?_
  refine e_iadd C dL_law_1294 ?_
  refine e_sld C hX (4 * cn + 1) (by omega) (by omega) (by omega) dL_law_1295 ?_
  refine e_bool C (iI_r _) 1303 1304 dL_law_1296 (by decide) dL_law_1299 dL_law_1300 (by decide) dL_law_1303 rfl ?_
  have hb : (if (xs (4 * cn + 1)).toInt = 0 then 0 else 1 : Int) = 0 ∨ (if (xs (4 * cn + 1)).toInt = 0 then 0 else 1 : Int) = 1 := by split <;> simp
  refine e_callV C [.int (iI (if (xs (4 * cn + 1)).toInt = 0 then (0 : Int) else 1))] [] (kL_149 rfl) (gCt.of (p5_moves _ hb h H.1)) rfl rfl k1 (Nat.le_of_ble_eq_true rfl) (Nat.le_of_ble_eq_true rfl) hkk huu (Nat.le_of_ble_eq_true rfl) dL_law_1304 (fun r h1 z => ?_)
  obtain ⟨rfl, hR, hF⟩ := z
  obtain ⟨g1, g2, H2⟩ := H.ask hR hF
  have k34 : gK h1 34 = (6, 20) := g1.1 0 (by omega)
  show gG w m 7 _ h1 k u [some (.ref 0), some (.ref 1), some (.ref 34), some (.ref 47), some (.int (iI ((4 * cn : Nat) : Int))), z5, z6] [.int (iI ((if (if (xs (4 * cn + 1)).toInt = 0 then (0 : Int) else 1) = 0 then Y 0 11 else Y 0 10)))] 1307
  refine e_aload_n C 2 dL_law_1307 rfl rfl ?_
  refine e_aload_n C 0 dL_law_1308 rfl rfl ?_
  refine e_iload C dL_law_1309 rfl ?_
  refine e_iconst C dL_law_1311 ?_
  refine e_iadd C dL_law_1312 ?_
  refine e_sld C hX (4 * cn + 1) (by omega) (by omega) (by omega) dL_law_1313 ?_
  refine e_bool C (iI_r _) 1321 1322 dL_law_1314 (by decide) dL_law_1317 dL_law_1318 (by decide) dL_law_1321 rfl ?_
  have K6 := c6_moves (w := w) (l := l) (h := h1) (S := S) g1 _ hb
  unfold gMm at K6
  rw [g2] at K6
  refine e_callV C [.int (iI (if (xs (4 * cn + 1)).toInt = 0 then (0 : Int) else 1))] [.int (iI ((if (if (xs (4 * cn + 1)).toInt = 0 then (0 : Int) else 1) = 0 then Y 0 11 else Y 0 10)))] (kL_153 rfl) K6 rfl rfl k34 (Nat.le_of_ble_eq_true rfl) (Nat.le_of_ble_eq_true rfl) hkk huu (Nat.le_of_ble_eq_true rfl) dL_law_1322 (fun r h2 z => ?_)
  obtain ⟨rfl, rfl⟩ := z
  show gG w m 7 _ (gwr h1 (su S 0 0 0)) k u [some (.ref 0), some (.ref 1), some (.ref 34), some (.ref 47), some (.int (iI ((4 * cn : Nat) : Int))), z5, z6] [.int (iI ((if (if (xs (4 * cn + 1)).toInt = 0 then (0 : Int) else 1) = 0 then S 0 10 else S 0 9))), .int (iI ((if (if (xs (4 * cn + 1)).toInt = 0 then (0 : Int) else 1) = 0 then Y 0 11 else Y 0 10)))] 1325
  rw [(show (if (if (xs (4 * cn + 1)).toInt = 0 then (0 : Int) else 1) = 0 then Y 0 11 else Y 0 10) = (if (if (xs (4 * cn + 1)).toInt = 0 then (0 : Int) else 1) = 0 then S 0 10 else S 0 9) by first | omega | (split <;> omega)), ← iI_of (iI ((if (if (xs (4 * cn + 1)).toInt = 0 then (0 : Int) else 1) = 0 then S 0 10 else S 0 9)))]
  refine e_icmp_eq C 1330 dL_law_1325 (by decide) (iI_r _) (iI_r _) (fun _ => ?_) (fun z => absurd rfl z)
  exact K _ _ _ _ _ _ _ _ _ _ _ _ H2
end LS
