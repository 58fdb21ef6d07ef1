/-! THE LAW'S CASES, group 0 -/
section LWK0
variable {p : Program} {l : Launch} {e : Env} {s : State} {m : MethodId} {below : List Frame} {meth : Method} {c : Code} {H : Heap} {locs : List Loc} {cells slots : Nat} {Q : State → Prop}
variable {ls : Array Slot} {b L i : Nat} {xs : Nat → Int32} {D : va_G} {cs : Nat → ClassId} {cO : ClassId} {adx adm adK adV : Nat → Nat} {o sa : Nat} {X M : ha_St} {f : Nat → Int64}
theorem lw_k0 (F : lwF p s m meth c b L xs D cs cO adx adm adK adV o sa) (G : lwM s D cs cO adx adm o X M f H locs) (hI : Inv X M) (hL : L ≤ 3072) (hi : i + 6 ≤ L) (hsz : ls.size = 8) (h0 : ls[0]? = some (.val (.ref b))) (h1 : ls[1]? = some (.val (.ref (adx 0)))) (h2 : ls[2]? = some (.val (.ref (adm 0)))) (h4 : ls[4]? = some (.val (.int (nI i)))) (hr : cells ≤ 601024 ∧ slots ≤ 7293034)
    (kk : ∀ (X1 M1 : ha_St) (H1 : Heap) (locs1 : List Loc), Inv X1 M1 → lwM s D cs cO adx adm o X1 M1 f H1 locs1 → W p l e room_1 s m #[Value.ref b] below meth c H1 locs1 cells slots Q (F0 m 1006 ls [])) : W p l e room_1 s m #[Value.ref b] below meth c H locs cells slots Q (F0 m 168 ls []) := by
  obtain ⟨⟨z1, X1⟩, ⟨z2, M1⟩, hx, hm, hz, hI1⟩ := e_feed hI (xs (i + 1)) (xs (i + 2)) (xs (i + 3)) (xs (i + 4)) (xs (i + 5))
  have hz : z1 = z2 := hz
  subst hz
  refine lv_aload_n F.ex F.hb dL_law_168 rfl h1 ?_
  refine lw_arg F G.S hL h0 h4 (k := 1) (by omega) (by decide) dL_law_169 dL_law_170 dL_law_172 dL_law_173 dL_law_174 ?_
  refine lw_arg F G.S hL h0 h4 (k := 2) (by omega) (by decide) dL_law_175 dL_law_176 dL_law_178 dL_law_179 dL_law_180 ?_
  refine lw_arg F G.S hL h0 h4 (k := 3) (by omega) (by decide) dL_law_181 dL_law_182 dL_law_184 dL_law_185 dL_law_186 ?_
  refine lw_arg F G.S hL h0 h4 (k := 4) (by omega) (by decide) dL_law_187 dL_law_188 dL_law_190 dL_law_191 dL_law_192 ?_
  refine lw_arg F G.S hL h0 h4 (k := 5) (by omega) (by decide) dL_law_193 dL_law_194 dL_law_196 dL_law_197 dL_law_198 ?_
  refine lw_callX (As := [.int (xs (i + 1)), .int (xs (i + 2)), .int (xs (i + 3)), .int (xs (i + 4)), .int (xs (i + 5))]) (rest := []) (z := z1) (X1 := X1) F G (c_X11_feed (p0 := 0) (out := (z1, X1)) xo_Zok xo_hN (fun U h => h) rfl hx) (cwV (R := room_1) 5 F.ts gL_law_X11_feed (rm := ({ frames := 1, cells := 0, slots := 0, locals := 22 } : Room)) (mc := 0) (ms := 0) rfl rfl rfl (by decide +kernel) ⟨Nat.le_of_ble_eq_true rfl, Nat.le_of_ble_eq_true rfl⟩) rfl hsz rfl (Nat.le_of_ble_eq_true rfl) dL_law_199 hr (fun H1 locs1 G1 => ?_)
  refine lv_aload_n F.ex F.hb dL_law_202 rfl h2 ?_
  refine lw_arg F G1.S hL h0 h4 (k := 1) (by omega) (by decide) dL_law_203 dL_law_204 dL_law_206 dL_law_207 dL_law_208 ?_
  refine lw_arg F G1.S hL h0 h4 (k := 2) (by omega) (by decide) dL_law_209 dL_law_210 dL_law_212 dL_law_213 dL_law_214 ?_
  refine lw_arg F G1.S hL h0 h4 (k := 3) (by omega) (by decide) dL_law_215 dL_law_216 dL_law_218 dL_law_219 dL_law_220 ?_
  refine lw_arg F G1.S hL h0 h4 (k := 4) (by omega) (by decide) dL_law_221 dL_law_222 dL_law_224 dL_law_225 dL_law_226 ?_
  refine lw_arg F G1.S hL h0 h4 (k := 5) (by omega) (by decide) dL_law_227 dL_law_228 dL_law_230 dL_law_231 dL_law_232 ?_
  refine lw_callM (As := [.int (xs (i + 1)), .int (xs (i + 2)), .int (xs (i + 3)), .int (xs (i + 4)), .int (xs (i + 5))]) (rest := [.int z1]) (z := z1) (M1 := M1) F G1 (c_X12_feed (p0 := 0) (out := (z1, M1)) tr_Zok mo_hN rfl hm) (cwV (R := room_1) 5 F.ts gL_law_X12_feed (rm := ({ frames := 1, cells := 0, slots := 0, locals := 22 } : Room)) (mc := 0) (ms := 0) rfl rfl rfl (by decide +kernel) ⟨Nat.le_of_ble_eq_true rfl, Nat.le_of_ble_eq_true rfl⟩) rfl hsz rfl (Nat.le_of_ble_eq_true rfl) dL_law_233 hr (fun H2 locs2 G2 => ?_)
  exact lv_icmp_eq (tgt := 1006) F.ex F.hb dL_law_236 (by decide) (fun _ => kk X1 M1 H2 locs2 hI1 G2) (fun h => absurd rfl h)
theorem lw_k1 (F : lwF p s m meth c b L xs D cs cO adx adm adK adV o sa) (G : lwM s D cs cO adx adm o X M f H locs) (hI : Inv X M) (hL : L ≤ 3072) (hi : i + 6 ≤ L) (hsz : ls.size = 8) (h0 : ls[0]? = some (.val (.ref b))) (h1 : ls[1]? = some (.val (.ref (adx 0)))) (h2 : ls[2]? = some (.val (.ref (adm 0)))) (h4 : ls[4]? = some (.val (.int (nI i)))) (hr : cells ≤ 601024 ∧ slots ≤ 7293034)
    (kk : ∀ (X1 M1 : ha_St) (H1 : Heap) (locs1 : List Loc), Inv X1 M1 → lwM s D cs cO adx adm o X1 M1 f H1 locs1 → W p l e room_1 s m #[Value.ref b] below meth c H1 locs1 cells slots Q (F0 m 1006 ls [])) : W p l e room_1 s m #[Value.ref b] below meth c H locs cells slots Q (F0 m 241 ls []) := by
  obtain ⟨⟨z1, X1⟩, ⟨z2, M1⟩, hx, hm, hz, hI1⟩ := e_end hI (xs (i + 1))
  have hz : z1 = z2 := hz
  subst hz
  refine lv_aload_n F.ex F.hb dL_law_241 rfl h1 ?_
  refine lw_arg F G.S hL h0 h4 (k := 1) (by omega) (by decide) dL_law_242 dL_law_243 dL_law_245 dL_law_246 dL_law_247 ?_
  refine lw_callX (As := [.int (xs (i + 1))]) (rest := []) (z := z1) (X1 := X1) F G (c_X11_end (p0 := 0) (out := (z1, X1)) xo_Zok xo_hN (fun U h => h) rfl hx) (cwV (R := room_1) 1 F.ts gL_law_X11_end (rm := ({ frames := 0, cells := 0, slots := 0, locals := 0 } : Room)) (mc := 0) (ms := 0) rfl rfl rfl (by decide +kernel) ⟨Nat.le_of_ble_eq_true rfl, Nat.le_of_ble_eq_true rfl⟩) rfl hsz rfl (Nat.le_of_ble_eq_true rfl) dL_law_248 hr (fun H1 locs1 G1 => ?_)
  refine lv_aload_n F.ex F.hb dL_law_251 rfl h2 ?_
  refine lw_arg F G1.S hL h0 h4 (k := 1) (by omega) (by decide) dL_law_252 dL_law_253 dL_law_255 dL_law_256 dL_law_257 ?_
  refine lw_callM (As := [.int (xs (i + 1))]) (rest := [.int z1]) (z := z1) (M1 := M1) F G1 (c_X12_end (p0 := 0) (out := (z1, M1)) tr_Zok mo_hN rfl hm) (cwV (R := room_1) 1 F.ts gL_law_X12_end (rm := ({ frames := 0, cells := 0, slots := 0, locals := 0 } : Room)) (mc := 0) (ms := 0) rfl rfl rfl (by decide +kernel) ⟨Nat.le_of_ble_eq_true rfl, Nat.le_of_ble_eq_true rfl⟩) rfl hsz rfl (Nat.le_of_ble_eq_true rfl) dL_law_258 hr (fun H2 locs2 G2 => ?_)
  exact lv_icmp_eq (tgt := 1006) F.ex F.hb dL_law_261 (by decide) (fun _ => kk X1 M1 H2 locs2 hI1 G2) (fun h => absurd rfl h)
theorem lw_k2 (F : lwF p s m meth c b L xs D cs cO adx adm adK adV o sa) (G : lwM s D cs cO adx adm o X M f H locs) (hI : Inv X M) (hL : L ≤ 3072) (hi : i + 6 ≤ L) (hsz : ls.size = 8) (h0 : ls[0]? = some (.val (.ref b))) (h1 : ls[1]? = some (.val (.ref (adx 0)))) (h2 : ls[2]? = some (.val (.ref (adm 0)))) (h4 : ls[4]? = some (.val (.int (nI i)))) (hr : cells ≤ 601024 ∧ slots ≤ 7293034)
    (kk : ∀ (X1 M1 : ha_St) (H1 : Heap) (locs1 : List Loc), Inv X1 M1 → lwM s D cs cO adx adm o X1 M1 f H1 locs1 → W p l e room_1 s m #[Value.ref b] below meth c H1 locs1 cells slots Q (F0 m 1006 ls [])) : W p l e room_1 s m #[Value.ref b] below meth c H locs cells slots Q (F0 m 266 ls []) := by
  obtain ⟨⟨z1, X1⟩, ⟨z2, M1⟩, hx, hm, hz, hI1⟩ := e_next hI (xs (i + 1))
  have hz : z1 = z2 := hz
  subst hz
  refine lv_aload_n F.ex F.hb dL_law_266 rfl h1 ?_
  refine lw_arg F G.S hL h0 h4 (k := 1) (by omega) (by decide) dL_law_267 dL_law_268 dL_law_270 dL_law_271 dL_law_272 ?_
  refine lw_callX (As := [.int (xs (i + 1))]) (rest := []) (z := z1) (X1 := X1) F G (c_X11_next (p0 := 0) (out := (z1, X1)) xo_Zok xo_hN (fun U h => h) rfl hx) (cwV (R := room_1) 1 F.ts gL_law_X11_next (rm := ({ frames := 0, cells := 0, slots := 0, locals := 0 } : Room)) (mc := 0) (ms := 0) rfl rfl rfl (by decide +kernel) ⟨Nat.le_of_ble_eq_true rfl, Nat.le_of_ble_eq_true rfl⟩) rfl hsz rfl (Nat.le_of_ble_eq_true rfl) dL_law_273 hr (fun H1 locs1 G1 => ?_)
  refine lv_aload_n F.ex F.hb dL_law_276 rfl h2 ?_
  refine lw_arg F G1.S hL h0 h4 (k := 1) (by omega) (by decide) dL_law_277 dL_law_278 dL_law_280 dL_law_281 dL_law_282 ?_
  refine lw_callM (As := [.int (xs (i + 1))]) (rest := [.int z1]) (z := z1) (M1 := M1) F G1 (c_X12_next (p0 := 0) (out := (z1, M1)) tr_Zok mo_hN rfl hm) (cwV (R := room_1) 1 F.ts gL_law_X12_next (rm := ({ frames := 1, cells := 0, slots := 0, locals := 22 } : Room)) (mc := 0) (ms := 0) rfl rfl rfl (by decide +kernel) ⟨Nat.le_of_ble_eq_true rfl, Nat.le_of_ble_eq_true rfl⟩) rfl hsz rfl (Nat.le_of_ble_eq_true rfl) dL_law_283 hr (fun H2 locs2 G2 => ?_)
  exact lv_icmp_eq (tgt := 1006) F.ex F.hb dL_law_286 (by decide) (fun _ => kk X1 M1 H2 locs2 hI1 G2) (fun h => absurd rfl h)
theorem lw_k3 (F : lwF p s m meth c b L xs D cs cO adx adm adK adV o sa) (G : lwM s D cs cO adx adm o X M f H locs) (hI : Inv X M) (hL : L ≤ 3072) (hi : i + 6 ≤ L) (hsz : ls.size = 8) (h0 : ls[0]? = some (.val (.ref b))) (h1 : ls[1]? = some (.val (.ref (adx 0)))) (h2 : ls[2]? = some (.val (.ref (adm 0)))) (h4 : ls[4]? = some (.val (.int (nI i)))) (hr : cells ≤ 601024 ∧ slots ≤ 7293034)
    (kk : ∀ (X1 M1 : ha_St) (H1 : Heap) (locs1 : List Loc), Inv X1 M1 → lwM s D cs cO adx adm o X1 M1 f H1 locs1 → W p l e room_1 s m #[Value.ref b] below meth c H1 locs1 cells slots Q (F0 m 1006 ls [])) : W p l e room_1 s m #[Value.ref b] below meth c H locs cells slots Q (F0 m 291 ls []) := by
  obtain ⟨⟨z1, X1⟩, ⟨z2, M1⟩, hx, hm, hz, hI1⟩ := e_towers hI (xs (i + 1))
  have hz : z1 = z2 := hz
  subst hz
  refine lv_aload_n F.ex F.hb dL_law_291 rfl h1 ?_
  refine lw_arg F G.S hL h0 h4 (k := 1) (by omega) (by decide) dL_law_292 dL_law_293 dL_law_295 dL_law_296 dL_law_297 ?_
  refine lw_callX (As := [.int (xs (i + 1))]) (rest := []) (z := z1) (X1 := X1) F G (c_X11_towers (p0 := 0) (out := (z1, X1)) xo_Zok xo_hN (fun U h => h) rfl hx) (cwV (R := room_1) 1 F.ts gL_law_X11_towers (rm := ({ frames := 0, cells := 0, slots := 0, locals := 0 } : Room)) (mc := 0) (ms := 0) rfl rfl rfl (by decide +kernel) ⟨Nat.le_of_ble_eq_true rfl, Nat.le_of_ble_eq_true rfl⟩) rfl hsz rfl (Nat.le_of_ble_eq_true rfl) dL_law_298 hr (fun H1 locs1 G1 => ?_)
  refine lv_aload_n F.ex F.hb dL_law_301 rfl h2 ?_
  refine lw_arg F G1.S hL h0 h4 (k := 1) (by omega) (by decide) dL_law_302 dL_law_303 dL_law_305 dL_law_306 dL_law_307 ?_
  refine lw_callM (As := [.int (xs (i + 1))]) (rest := [.int z1]) (z := z1) (M1 := M1) F G1 (c_X12_towers (p0 := 0) (out := (z1, M1)) tr_Zok mo_hN rfl hm) (cwV (R := room_1) 1 F.ts gL_law_X12_towers (rm := ({ frames := 1, cells := 0, slots := 0, locals := 22 } : Room)) (mc := 0) (ms := 0) rfl rfl rfl (by decide +kernel) ⟨Nat.le_of_ble_eq_true rfl, Nat.le_of_ble_eq_true rfl⟩) rfl hsz rfl (Nat.le_of_ble_eq_true rfl) dL_law_308 hr (fun H2 locs2 G2 => ?_)
  exact lv_icmp_eq (tgt := 1006) F.ex F.hb dL_law_311 (by decide) (fun _ => kk X1 M1 H2 locs2 hI1 G2) (fun h => absurd rfl h)
theorem lw_k4 (F : lwF p s m meth c b L xs D cs cO adx adm adK adV o sa) (G : lwM s D cs cO adx adm o X M f H locs) (hI : Inv X M) (hL : L ≤ 3072) (hi : i + 6 ≤ L) (hsz : ls.size = 8) (h0 : ls[0]? = some (.val (.ref b))) (h1 : ls[1]? = some (.val (.ref (adx 0)))) (h2 : ls[2]? = some (.val (.ref (adm 0)))) (h4 : ls[4]? = some (.val (.int (nI i)))) (hr : cells ≤ 601024 ∧ slots ≤ 7293034)
    (kk : ∀ (X1 M1 : ha_St) (H1 : Heap) (locs1 : List Loc), Inv X1 M1 → lwM s D cs cO adx adm o X1 M1 f H1 locs1 → W p l e room_1 s m #[Value.ref b] below meth c H1 locs1 cells slots Q (F0 m 1006 ls [])) : W p l e room_1 s m #[Value.ref b] below meth c H locs cells slots Q (F0 m 316 ls []) := by
  obtain ⟨⟨z1, X1⟩, ⟨z2, M1⟩, hx, hm, hz, hI1⟩ := e_program hI (xs (i + 1))
  have hz : z1 = z2 := hz
  subst hz
  refine lv_aload_n F.ex F.hb dL_law_316 rfl h1 ?_
  refine lw_arg F G.S hL h0 h4 (k := 1) (by omega) (by decide) dL_law_317 dL_law_318 dL_law_320 dL_law_321 dL_law_322 ?_
  refine lw_callX (As := [.int (xs (i + 1))]) (rest := []) (z := z1) (X1 := X1) F G (c_X11_program (p0 := 0) (out := (z1, X1)) xo_Zok xo_hN (fun U h => h) rfl hx) (cwV (R := room_1) 1 F.ts gL_law_X11_program (rm := ({ frames := 10, cells := 0, slots := 0, locals := 221 } : Room)) (mc := 0) (ms := 0) rfl rfl rfl (by decide +kernel) ⟨Nat.le_of_ble_eq_true rfl, Nat.le_of_ble_eq_true rfl⟩) rfl hsz rfl (Nat.le_of_ble_eq_true rfl) dL_law_323 hr (fun H1 locs1 G1 => ?_)
  refine lv_aload_n F.ex F.hb dL_law_326 rfl h2 ?_
  refine lw_arg F G1.S hL h0 h4 (k := 1) (by omega) (by decide) dL_law_327 dL_law_328 dL_law_330 dL_law_331 dL_law_332 ?_
  refine lw_callM (As := [.int (xs (i + 1))]) (rest := [.int z1]) (z := z1) (M1 := M1) F G1 (c_X12_program (p0 := 0) (out := (z1, M1)) tr_Zok mo_hN rfl hm) (cwV (R := room_1) 1 F.ts gL_law_X12_program (rm := ({ frames := 6, cells := 0, slots := 0, locals := 132 } : Room)) (mc := 0) (ms := 0) rfl rfl rfl (by decide +kernel) ⟨Nat.le_of_ble_eq_true rfl, Nat.le_of_ble_eq_true rfl⟩) rfl hsz rfl (Nat.le_of_ble_eq_true rfl) dL_law_333 hr (fun H2 locs2 G2 => ?_)
  exact lv_icmp_eq (tgt := 1006) F.ex F.hb dL_law_336 (by decide) (fun _ => kk X1 M1 H2 locs2 hI1 G2) (fun h => absurd rfl h)
theorem lw_k5 (F : lwF p s m meth c b L xs D cs cO adx adm adK adV o sa) (G : lwM s D cs cO adx adm o X M f H locs) (hI : Inv X M) (hL : L ≤ 3072) (hi : i + 6 ≤ L) (hsz : ls.size = 8) (h0 : ls[0]? = some (.val (.ref b))) (h1 : ls[1]? = some (.val (.ref (adx 0)))) (h2 : ls[2]? = some (.val (.ref (adm 0)))) (h4 : ls[4]? = some (.val (.int (nI i)))) (hr : cells ≤ 601024 ∧ slots ≤ 7293034)
    (kk : ∀ (X1 M1 : ha_St) (H1 : Heap) (locs1 : List Loc), Inv X1 M1 → lwM s D cs cO adx adm o X1 M1 f H1 locs1 → W p l e room_1 s m #[Value.ref b] below meth c H1 locs1 cells slots Q (F0 m 1006 ls [])) : W p l e room_1 s m #[Value.ref b] below meth c H locs cells slots Q (F0 m 341 ls []) := by
  obtain ⟨⟨z1, X1⟩, ⟨z2, M1⟩, hx, hm, hz, hI1⟩ := e_fault hI 
  have hz : z1 = z2 := hz
  subst hz
  refine lv_aload_n F.ex F.hb dL_law_341 rfl h1 ?_
  refine lw_callX (As := []) (rest := []) (z := z1) (X1 := X1) F G (c_X11_fault (p0 := 0) (out := (z1, X1)) xo_Zok xo_hN (fun U h => h) rfl hx) (cwV (R := room_1) 0 F.ts gL_law_X11_fault (rm := ({ frames := 0, cells := 0, slots := 0, locals := 0 } : Room)) (mc := 0) (ms := 0) rfl rfl rfl (by decide +kernel) ⟨Nat.le_of_ble_eq_true rfl, Nat.le_of_ble_eq_true rfl⟩) rfl hsz rfl (Nat.le_of_ble_eq_true rfl) dL_law_342 hr (fun H1 locs1 G1 => ?_)
  refine lv_aload_n F.ex F.hb dL_law_345 rfl h2 ?_
  refine lw_callM (As := []) (rest := [.int z1]) (z := z1) (M1 := M1) F G1 (c_X12_fault (p0 := 0) (out := (z1, M1)) tr_Zok mo_hN rfl hm) (cwV (R := room_1) 0 F.ts gL_law_X12_fault (rm := ({ frames := 0, cells := 0, slots := 0, locals := 0 } : Room)) (mc := 0) (ms := 0) rfl rfl rfl (by decide +kernel) ⟨Nat.le_of_ble_eq_true rfl, Nat.le_of_ble_eq_true rfl⟩) rfl hsz rfl (Nat.le_of_ble_eq_true rfl) dL_law_346 hr (fun H2 locs2 G2 => ?_)
  exact lv_icmp_eq (tgt := 1006) F.ex F.hb dL_law_349 (by decide) (fun _ => kk X1 M1 H2 locs2 hI1 G2) (fun h => absurd rfl h)
theorem lw_k6 (F : lwF p s m meth c b L xs D cs cO adx adm adK adV o sa) (G : lwM s D cs cO adx adm o X M f H locs) (hI : Inv X M) (hL : L ≤ 3072) (hi : i + 6 ≤ L) (hsz : ls.size = 8) (h0 : ls[0]? = some (.val (.ref b))) (h1 : ls[1]? = some (.val (.ref (adx 0)))) (h2 : ls[2]? = some (.val (.ref (adm 0)))) (h4 : ls[4]? = some (.val (.int (nI i)))) (hr : cells ≤ 601024 ∧ slots ≤ 7293034)
    (kk : ∀ (X1 M1 : ha_St) (H1 : Heap) (locs1 : List Loc), Inv X1 M1 → lwM s D cs cO adx adm o X1 M1 f H1 locs1 → W p l e room_1 s m #[Value.ref b] below meth c H1 locs1 cells slots Q (F0 m 1006 ls [])) : W p l e room_1 s m #[Value.ref b] below meth c H locs cells slots Q (F0 m 354 ls []) := by
  obtain ⟨⟨z1, X1⟩, ⟨z2, M1⟩, hx, hm, hz, hI1⟩ := e_message hI 
  have hz : z1 = z2 := hz
  subst hz
  refine lv_aload_n F.ex F.hb dL_law_354 rfl h1 ?_
  refine lw_callX (As := []) (rest := []) (z := z1) (X1 := X1) F G (c_X11_message (p0 := 0) (out := (z1, X1)) xo_Zok xo_hN (fun U h => h) rfl hx) (cwV (R := room_1) 0 F.ts gL_law_X11_message (rm := ({ frames := 2, cells := 0, slots := 0, locals := 48 } : Room)) (mc := 0) (ms := 0) rfl rfl rfl (by decide +kernel) ⟨Nat.le_of_ble_eq_true rfl, Nat.le_of_ble_eq_true rfl⟩) rfl hsz rfl (Nat.le_of_ble_eq_true rfl) dL_law_355 hr (fun H1 locs1 G1 => ?_)
  refine lv_aload_n F.ex F.hb dL_law_358 rfl h2 ?_
  refine lw_callM (As := []) (rest := [.int z1]) (z := z1) (M1 := M1) F G1 (c_X12_message (p0 := 0) (out := (z1, M1)) tr_Zok mo_hN rfl hm) (cwV (R := room_1) 0 F.ts gL_law_X12_message (rm := ({ frames := 1, cells := 0, slots := 0, locals := 22 } : Room)) (mc := 0) (ms := 0) rfl rfl rfl (by decide +kernel) ⟨Nat.le_of_ble_eq_true rfl, Nat.le_of_ble_eq_true rfl⟩) rfl hsz rfl (Nat.le_of_ble_eq_true rfl) dL_law_359 hr (fun H2 locs2 G2 => ?_)
  exact lv_icmp_eq (tgt := 1006) F.ex F.hb dL_law_362 (by decide) (fun _ => kk X1 M1 H2 locs2 hI1 G2) (fun h => absurd rfl h)
end LWK0
