/-! THE LAW'S CASES, one theorem each (written by mklaw.py) -/
def lwK (p : Program) (l : Launch) (e : Env) (s : State) (m : MethodId) (below : List Frame) (meth : Method) (c : Code) (cells slots : Nat) (Q : State → Prop) (G : XG) (X0 : XW) (b v : Nat) (i : Int32) : Prop := ∀ (X' : XW) (H' : Heap) (locs' : List Loc) (t' : St) (ls' : Array Slot), XD G X0 X' s H' locs' → Inv X' v t' → lv_has ls' 7 (lwA b v i) → W p l e room_1 s m #[Value.ref b] below meth c H' locs' (cells + 11) (slots + 3138) Q (F0 m 977 ls' [])
section Lc
variable {p : Program} {l : Launch} {e : Env} {s : State} {m : MethodId} {below : List Frame} {meth : Method} {c : Code} {H : Heap} {locs : List Loc} {cells slots : Nat} {Q : State → Prop}
variable {G : XG} {X0 X : XW} {t : St} {ls : Array Slot} {b v L : Nat} {xs : Nat → Int32} {i : Int32}
theorem lw_c0 (E : lwE p s m meth c G X0 b L xs) (W0 : XD G X0 X s H locs) (I : Inv X v t) (hl : lv_has ls 7 (lwA b v i)) (hi : ∀ k : Nat, k < 7 → vp_in (i + Int32.ofNat k) L) (hf : cells + 11 ≤ room_1.cells ∧ slots + 3138 ≤ room_1.slots) (K : lwK p l e s m below meth c cells slots Q G X0 b v i) : W p l e room_1 s m #[Value.ref b] below meth c H locs cells slots Q (F0 m 128 ls []) := by
  have C0 := E.1
  have hx := C0.1
  have hb := C0.2.1
  have hl : lv_has ls 7 [(0, .ref b), (1, .ref v), (2, .ref (v + 127)), (3, .ref (v + 169)), (4, .int i)] := hl
  have h0 : ls[0]? = some (.val (.ref b)) := lv_at hl 0 rfl
  have h4 : ls[4]? = some (.val (.int i)) := lv_at hl 4 rfl
  obtain ⟨hf1, hf2⟩ := hf
  obtain ⟨a, X1, X2, t', h1, h2, I2⟩ := p_word I (sc xs i 1) (sc xs i 2) (sc xs i 3) (bz (sc xs i 4)) (bz (sc xs i 5)) (bz01 _) (bz01 _)
  have hk : xKd X1 (v + 127) = 10 + 1 := by
    unfold fX10_word at h2
    exact pk h2
  refine lv_aload_n hx hb dL_law_128 rfl (lv_at hl 1 rfl) ?_
  refine lw_sc (pc := 129) (k := 1) E W0 h0 h4 rfl (hi 1 (by decide)) dL_law_129 dL_law_130 dL_law_132 dL_law_133 dL_law_134 ?_
  refine lw_sc (pc := 135) (k := 2) E W0 h0 h4 rfl (hi 2 (by decide)) dL_law_135 dL_law_136 dL_law_138 dL_law_139 dL_law_140 ?_
  refine lw_sc (pc := 141) (k := 3) E W0 h0 h4 rfl (hi 3 (by decide)) dL_law_141 dL_law_142 dL_law_144 dL_law_145 dL_law_146 ?_
  refine lw_sc (pc := 147) (k := 4) E W0 h0 h4 rfl (hi 4 (by decide)) dL_law_147 dL_law_148 dL_law_150 dL_law_151 dL_law_152 ?_
  refine lw_nz (pc := 153) hx hb dL_law_153 dL_law_156 dL_law_157 dL_law_160 ?_
  refine lw_sc (pc := 161) (k := 5) E W0 h0 h4 rfl (hi 5 (by decide)) dL_law_161 dL_law_162 dL_law_164 dL_law_165 dL_law_166 ?_
  refine lw_nz (pc := 167) hx hb dL_law_167 dL_law_170 dL_law_171 dL_law_174 ?_
  refine xr_V (As := [.int (sc xs i 1), .int (sc xs i 2), .int (sc xs i 3), .int (bz (sc xs i 4)), .int (bz (sc xs i 5))]) (rest := []) C0 W0 (ctX9_word l G h1) I.1.1.1 (rr := (RX9, TX9, 12)) rfl rfl mc_X9_word mv_X9_word ml_L_19 ⟨by decide, by decide⟩ rfl hl.1 rfl (Nat.le_of_ble_eq_true rfl) ⟨by omega, by omega⟩ dL_law_175 (fun H locs W0 => ?_)
  refine W.eq (g2 := F0 m 178 ls [.int a]) rfl ?_
  refine lv_aload_n hx hb dL_law_178 rfl (lv_at hl 2 rfl) ?_
  refine lw_sc (pc := 179) (k := 1) E W0 h0 h4 rfl (hi 1 (by decide)) dL_law_179 dL_law_180 dL_law_182 dL_law_183 dL_law_184 ?_
  refine lw_sc (pc := 185) (k := 2) E W0 h0 h4 rfl (hi 2 (by decide)) dL_law_185 dL_law_186 dL_law_188 dL_law_189 dL_law_190 ?_
  refine lw_sc (pc := 191) (k := 3) E W0 h0 h4 rfl (hi 3 (by decide)) dL_law_191 dL_law_192 dL_law_194 dL_law_195 dL_law_196 ?_
  refine lw_sc (pc := 197) (k := 4) E W0 h0 h4 rfl (hi 4 (by decide)) dL_law_197 dL_law_198 dL_law_200 dL_law_201 dL_law_202 ?_
  refine lw_nz (pc := 203) hx hb dL_law_203 dL_law_206 dL_law_207 dL_law_210 ?_
  refine lw_sc (pc := 211) (k := 5) E W0 h0 h4 rfl (hi 5 (by decide)) dL_law_211 dL_law_212 dL_law_214 dL_law_215 dL_law_216 ?_
  refine lw_nz (pc := 217) hx hb dL_law_217 dL_law_220 dL_law_221 dL_law_224 ?_
  refine xr_V (As := [.int (sc xs i 1), .int (sc xs i 2), .int (sc xs i 3), .int (bz (sc xs i 4)), .int (bz (sc xs i 5))]) (rest := [.int a]) C0 W0 (ctX10_word l G h2) hk (rr := (RX10, TX10, 57)) rfl rfl mc_X10_word mv_X10_word ml_L_23 ⟨by decide, by decide⟩ rfl hl.1 rfl (Nat.le_of_ble_eq_true rfl) ⟨by omega, by omega⟩ dL_law_225 (fun H locs W0 => ?_)
  refine W.eq (g2 := F0 m 228 ls [.int a, .int a]) rfl ?_
  refine lv_icmp_eq (tgt := 977) hx hb dL_law_228 (by decide) (fun _ => ?_) (fun h => absurd rfl h)
  exact W.widen (by omega) (by omega) (K _ _ _ _ _ W0 I2 hl)
theorem lw_c1 (E : lwE p s m meth c G X0 b L xs) (W0 : XD G X0 X s H locs) (I : Inv X v t) (hl : lv_has ls 7 (lwA b v i)) (hi : ∀ k : Nat, k < 7 → vp_in (i + Int32.ofNat k) L) (hf : cells + 11 ≤ room_1.cells ∧ slots + 3138 ≤ room_1.slots) (K : lwK p l e s m below meth c cells slots Q G X0 b v i) : W p l e room_1 s m #[Value.ref b] below meth c H locs cells slots Q (F0 m 233 ls []) := by
  have C0 := E.1
  have hx := C0.1
  have hb := C0.2.1
  have hl : lv_has ls 7 [(0, .ref b), (1, .ref v), (2, .ref (v + 127)), (3, .ref (v + 169)), (4, .int i)] := hl
  have h0 : ls[0]? = some (.val (.ref b)) := lv_at hl 0 rfl
  have h4 : ls[4]? = some (.val (.int i)) := lv_at hl 4 rfl
  obtain ⟨hf1, hf2⟩ := hf
  obtain ⟨a, X1, X2, t', h1, h2, I2⟩ := p_change I (sc xs i 1) (sc xs i 2) (sc xs i 3) (sc xs i 4) (bz (sc xs i 5)) (bz (sc xs i 6)) (bz01 _) (bz01 _)
  have hk : xKd X1 (v + 127) = 10 + 1 := by
    unfold fX10_change at h2
    exact pk h2
  refine lv_aload_n hx hb dL_law_233 rfl (lv_at hl 1 rfl) ?_
  refine lw_sc (pc := 234) (k := 1) E W0 h0 h4 rfl (hi 1 (by decide)) dL_law_234 dL_law_235 dL_law_237 dL_law_238 dL_law_239 ?_
  refine lw_sc (pc := 240) (k := 2) E W0 h0 h4 rfl (hi 2 (by decide)) dL_law_240 dL_law_241 dL_law_243 dL_law_244 dL_law_245 ?_
  refine lw_sc (pc := 246) (k := 3) E W0 h0 h4 rfl (hi 3 (by decide)) dL_law_246 dL_law_247 dL_law_249 dL_law_250 dL_law_251 ?_
  refine lw_sc (pc := 252) (k := 4) E W0 h0 h4 rfl (hi 4 (by decide)) dL_law_252 dL_law_253 dL_law_255 dL_law_256 dL_law_257 ?_
  refine lw_sc (pc := 258) (k := 5) E W0 h0 h4 rfl (hi 5 (by decide)) dL_law_258 dL_law_259 dL_law_261 dL_law_262 dL_law_263 ?_
  refine lw_nz (pc := 264) hx hb dL_law_264 dL_law_267 dL_law_268 dL_law_271 ?_
  refine lw_scb (pc := 272) (k := 6) E W0 h0 h4 (by decide) (hi 6 (by decide)) dL_law_272 dL_law_273 dL_law_275 dL_law_277 dL_law_278 ?_
  refine lw_nz (pc := 279) hx hb dL_law_279 dL_law_282 dL_law_283 dL_law_286 ?_
  refine xr_V (As := [.int (sc xs i 1), .int (sc xs i 2), .int (sc xs i 3), .int (sc xs i 4), .int (bz (sc xs i 5)), .int (bz (sc xs i 6))]) (rest := []) C0 W0 (ctX9_change l G h1) I.1.1.1 (rr := (RX9, TX9, 12)) rfl rfl mc_X9_change mv_X9_change ml_L_24 ⟨by decide, by decide⟩ rfl hl.1 rfl (Nat.le_of_ble_eq_true rfl) ⟨by omega, by omega⟩ dL_law_287 (fun H locs W0 => ?_)
  refine W.eq (g2 := F0 m 290 ls [.int a]) rfl ?_
  refine lv_aload_n hx hb dL_law_290 rfl (lv_at hl 2 rfl) ?_
  refine lw_sc (pc := 291) (k := 1) E W0 h0 h4 rfl (hi 1 (by decide)) dL_law_291 dL_law_292 dL_law_294 dL_law_295 dL_law_296 ?_
  refine lw_sc (pc := 297) (k := 2) E W0 h0 h4 rfl (hi 2 (by decide)) dL_law_297 dL_law_298 dL_law_300 dL_law_301 dL_law_302 ?_
  refine lw_sc (pc := 303) (k := 3) E W0 h0 h4 rfl (hi 3 (by decide)) dL_law_303 dL_law_304 dL_law_306 dL_law_307 dL_law_308 ?_
  refine lw_sc (pc := 309) (k := 4) E W0 h0 h4 rfl (hi 4 (by decide)) dL_law_309 dL_law_310 dL_law_312 dL_law_313 dL_law_314 ?_
  refine lw_sc (pc := 315) (k := 5) E W0 h0 h4 rfl (hi 5 (by decide)) dL_law_315 dL_law_316 dL_law_318 dL_law_319 dL_law_320 ?_
  refine lw_nz (pc := 321) hx hb dL_law_321 dL_law_324 dL_law_325 dL_law_328 ?_
  refine lw_scb (pc := 329) (k := 6) E W0 h0 h4 (by decide) (hi 6 (by decide)) dL_law_329 dL_law_330 dL_law_332 dL_law_334 dL_law_335 ?_
  refine lw_nz (pc := 336) hx hb dL_law_336 dL_law_339 dL_law_340 dL_law_343 ?_
  refine xr_V (As := [.int (sc xs i 1), .int (sc xs i 2), .int (sc xs i 3), .int (sc xs i 4), .int (bz (sc xs i 5)), .int (bz (sc xs i 6))]) (rest := [.int a]) C0 W0 (ctX10_change l G h2) hk (rr := (RX10, TX10, 57)) rfl rfl mc_X10_change mv_X10_change ml_L_28 ⟨by decide, by decide⟩ rfl hl.1 rfl (Nat.le_of_ble_eq_true rfl) ⟨by omega, by omega⟩ dL_law_344 (fun H locs W0 => ?_)
  refine W.eq (g2 := F0 m 347 ls [.int a, .int a]) rfl ?_
  refine lv_icmp_eq (tgt := 977) hx hb dL_law_347 (by decide) (fun _ => ?_) (fun h => absurd rfl h)
  exact W.widen (by omega) (by omega) (K _ _ _ _ _ W0 I2 hl)
theorem lw_c2 (E : lwE p s m meth c G X0 b L xs) (W0 : XD G X0 X s H locs) (I : Inv X v t) (hl : lv_has ls 7 (lwA b v i)) (hi : ∀ k : Nat, k < 7 → vp_in (i + Int32.ofNat k) L) (hf : cells + 11 ≤ room_1.cells ∧ slots + 3138 ≤ room_1.slots) (K : lwK p l e s m below meth c cells slots Q G X0 b v i) : W p l e room_1 s m #[Value.ref b] below meth c H locs cells slots Q (F0 m 352 ls []) := by
  have C0 := E.1
  have hx := C0.1
  have hb := C0.2.1
  have hl : lv_has ls 7 [(0, .ref b), (1, .ref v), (2, .ref (v + 127)), (3, .ref (v + 169)), (4, .int i)] := hl
  have h0 : ls[0]? = some (.val (.ref b)) := lv_at hl 0 rfl
  have h4 : ls[4]? = some (.val (.int i)) := lv_at hl 4 rfl
  obtain ⟨hf1, hf2⟩ := hf
  obtain ⟨a, X1, X2, t', h1, h2, I2⟩ := p_reading I 
  have hk : xKd X1 (v + 127) = 10 + 1 := by
    unfold fX10_reading at h2
    exact pk h2
  refine lv_aload_n hx hb dL_law_352 rfl (lv_at hl 1 rfl) ?_
  refine xr_V (As := []) (rest := []) C0 W0 (ctX9_reading l G h1) I.1.1.1 (rr := (RX9, TX9, 12)) rfl rfl mc_X9_reading mv_X9_reading ml_L_29 ⟨by decide, by decide⟩ rfl hl.1 rfl (Nat.le_of_ble_eq_true rfl) ⟨by omega, by omega⟩ dL_law_353 (fun H locs W0 => ?_)
  refine W.eq (g2 := F0 m 356 ls [.int a]) rfl ?_
  refine lv_aload_n hx hb dL_law_356 rfl (lv_at hl 2 rfl) ?_
  refine xr_V (As := []) (rest := [.int a]) C0 W0 (ctX10_reading l G h2) hk (rr := (RX10, TX10, 57)) rfl rfl mc_X10_reading mv_X10_reading ml_L_33 ⟨by decide, by decide⟩ rfl hl.1 rfl (Nat.le_of_ble_eq_true rfl) ⟨by omega, by omega⟩ dL_law_357 (fun H locs W0 => ?_)
  refine W.eq (g2 := F0 m 360 ls [.int a, .int a]) rfl ?_
  refine lv_icmp_eq (tgt := 977) hx hb dL_law_360 (by decide) (fun _ => ?_) (fun h => absurd rfl h)
  exact W.widen (by omega) (by omega) (K _ _ _ _ _ W0 I2 hl)
theorem lw_c3 (E : lwE p s m meth c G X0 b L xs) (W0 : XD G X0 X s H locs) (I : Inv X v t) (hl : lv_has ls 7 (lwA b v i)) (hi : ∀ k : Nat, k < 7 → vp_in (i + Int32.ofNat k) L) (hf : cells + 11 ≤ room_1.cells ∧ slots + 3138 ≤ room_1.slots) (K : lwK p l e s m below meth c cells slots Q G X0 b v i) : W p l e room_1 s m #[Value.ref b] below meth c H locs cells slots Q (F0 m 365 ls []) := by
  have C0 := E.1
  have hx := C0.1
  have hb := C0.2.1
  have hl : lv_has ls 7 [(0, .ref b), (1, .ref v), (2, .ref (v + 127)), (3, .ref (v + 169)), (4, .int i)] := hl
  have h0 : ls[0]? = some (.val (.ref b)) := lv_at hl 0 rfl
  have h4 : ls[4]? = some (.val (.int i)) := lv_at hl 4 rfl
  obtain ⟨hf1, hf2⟩ := hf
  obtain ⟨a, X1, X2, t', h1, h2, I2⟩ := p_take I (sc xs i 1)
  have hk : xKd X1 (v + 127) = 10 + 1 := by
    unfold fX10_take at h2
    exact pk h2
  refine lv_aload_n hx hb dL_law_365 rfl (lv_at hl 1 rfl) ?_
  refine lw_sc (pc := 366) (k := 1) E W0 h0 h4 rfl (hi 1 (by decide)) dL_law_366 dL_law_367 dL_law_369 dL_law_370 dL_law_371 ?_
  refine xr_V (As := [.int (sc xs i 1)]) (rest := []) C0 W0 (ctX9_take l G h1) I.1.1.1 (rr := (RX9, TX9, 12)) rfl rfl mc_X9_take mv_X9_take ml_L_34 ⟨by decide, by decide⟩ rfl hl.1 rfl (Nat.le_of_ble_eq_true rfl) ⟨by omega, by omega⟩ dL_law_372 (fun H locs W0 => ?_)
  refine W.eq (g2 := F0 m 375 ls [.int a]) rfl ?_
  refine lv_aload_n hx hb dL_law_375 rfl (lv_at hl 2 rfl) ?_
  refine lw_sc (pc := 376) (k := 1) E W0 h0 h4 rfl (hi 1 (by decide)) dL_law_376 dL_law_377 dL_law_379 dL_law_380 dL_law_381 ?_
  refine xr_V (As := [.int (sc xs i 1)]) (rest := [.int a]) C0 W0 (ctX10_take l G h2) hk (rr := (RX10, TX10, 57)) rfl rfl mc_X10_take mv_X10_take ml_L_38 ⟨by decide, by decide⟩ rfl hl.1 rfl (Nat.le_of_ble_eq_true rfl) ⟨by omega, by omega⟩ dL_law_382 (fun H locs W0 => ?_)
  refine W.eq (g2 := F0 m 385 ls [.int a, .int a]) rfl ?_
  refine lv_icmp_eq (tgt := 977) hx hb dL_law_385 (by decide) (fun _ => ?_) (fun h => absurd rfl h)
  exact W.widen (by omega) (by omega) (K _ _ _ _ _ W0 I2 hl)
theorem lw_c4 (E : lwE p s m meth c G X0 b L xs) (W0 : XD G X0 X s H locs) (I : Inv X v t) (hl : lv_has ls 7 (lwA b v i)) (hi : ∀ k : Nat, k < 7 → vp_in (i + Int32.ofNat k) L) (hf : cells + 11 ≤ room_1.cells ∧ slots + 3138 ≤ room_1.slots) (K : lwK p l e s m below meth c cells slots Q G X0 b v i) : W p l e room_1 s m #[Value.ref b] below meth c H locs cells slots Q (F0 m 390 ls []) := by
  have C0 := E.1
  have hx := C0.1
  have hb := C0.2.1
  have hl : lv_has ls 7 [(0, .ref b), (1, .ref v), (2, .ref (v + 127)), (3, .ref (v + 169)), (4, .int i)] := hl
  have h0 : ls[0]? = some (.val (.ref b)) := lv_at hl 0 rfl
  have h4 : ls[4]? = some (.val (.int i)) := lv_at hl 4 rfl
  obtain ⟨hf1, hf2⟩ := hf
  obtain ⟨a, X1, X2, t', h1, h2, I2⟩ := p_tune I (sc xs i 1)
  have hk : xKd X1 (v + 127) = 10 + 1 := by
    unfold fX10_tune at h2
    exact pk h2
  refine lv_aload_n hx hb dL_law_390 rfl (lv_at hl 1 rfl) ?_
  refine lw_sc (pc := 391) (k := 1) E W0 h0 h4 rfl (hi 1 (by decide)) dL_law_391 dL_law_392 dL_law_394 dL_law_395 dL_law_396 ?_
  refine xr_V (As := [.int (sc xs i 1)]) (rest := []) C0 W0 (ctX9_tune l G h1) I.1.1.1 (rr := (RX9, TX9, 12)) rfl rfl mc_X9_tune mv_X9_tune ml_L_39 ⟨by decide, by decide⟩ rfl hl.1 rfl (Nat.le_of_ble_eq_true rfl) ⟨by omega, by omega⟩ dL_law_397 (fun H locs W0 => ?_)
  refine W.eq (g2 := F0 m 400 ls [.int a]) rfl ?_
  refine lv_aload_n hx hb dL_law_400 rfl (lv_at hl 2 rfl) ?_
  refine lw_sc (pc := 401) (k := 1) E W0 h0 h4 rfl (hi 1 (by decide)) dL_law_401 dL_law_402 dL_law_404 dL_law_405 dL_law_406 ?_
  refine xr_V (As := [.int (sc xs i 1)]) (rest := [.int a]) C0 W0 (ctX10_tune l G h2) hk (rr := (RX10, TX10, 57)) rfl rfl mc_X10_tune mv_X10_tune ml_L_42 ⟨by decide, by decide⟩ rfl hl.1 rfl (Nat.le_of_ble_eq_true rfl) ⟨by omega, by omega⟩ dL_law_407 (fun H locs W0 => ?_)
  refine W.eq (g2 := F0 m 410 ls [.int a, .int a]) rfl ?_
  refine lv_icmp_eq (tgt := 977) hx hb dL_law_410 (by decide) (fun _ => ?_) (fun h => absurd rfl h)
  exact W.widen (by omega) (by omega) (K _ _ _ _ _ W0 I2 hl)
theorem lw_c5 (E : lwE p s m meth c G X0 b L xs) (W0 : XD G X0 X s H locs) (I : Inv X v t) (hl : lv_has ls 7 (lwA b v i)) (hi : ∀ k : Nat, k < 7 → vp_in (i + Int32.ofNat k) L) (hf : cells + 11 ≤ room_1.cells ∧ slots + 3138 ≤ room_1.slots) (K : lwK p l e s m below meth c cells slots Q G X0 b v i) : W p l e room_1 s m #[Value.ref b] below meth c H locs cells slots Q (F0 m 415 ls []) := by
  have C0 := E.1
  have hx := C0.1
  have hb := C0.2.1
  have hl : lv_has ls 7 [(0, .ref b), (1, .ref v), (2, .ref (v + 127)), (3, .ref (v + 169)), (4, .int i)] := hl
  have h0 : ls[0]? = some (.val (.ref b)) := lv_at hl 0 rfl
  have h4 : ls[4]? = some (.val (.int i)) := lv_at hl 4 rfl
  obtain ⟨hf1, hf2⟩ := hf
  obtain ⟨a, X1, X2, t', h1, h2, I2⟩ := p_ideal I (sc xs i 1)
  have hk : xKd X1 (v + 127) = 10 + 1 := by
    unfold fX10_ideal at h2
    exact pk h2
  refine lv_aload_n hx hb dL_law_415 rfl (lv_at hl 1 rfl) ?_
  refine lw_sc (pc := 416) (k := 1) E W0 h0 h4 rfl (hi 1 (by decide)) dL_law_416 dL_law_417 dL_law_419 dL_law_420 dL_law_421 ?_
  refine xr_V (As := [.int (sc xs i 1)]) (rest := []) C0 W0 (ctX9_ideal l G h1) I.1.1.1 (rr := (RX9, TX9, 12)) rfl rfl mc_X9_ideal mv_X9_ideal ml_L_43 ⟨by decide, by decide⟩ rfl hl.1 rfl (Nat.le_of_ble_eq_true rfl) ⟨by omega, by omega⟩ dL_law_422 (fun H locs W0 => ?_)
  refine W.eq (g2 := F0 m 425 ls [.int a]) rfl ?_
  refine lv_aload_n hx hb dL_law_425 rfl (lv_at hl 2 rfl) ?_
  refine lw_sc (pc := 426) (k := 1) E W0 h0 h4 rfl (hi 1 (by decide)) dL_law_426 dL_law_427 dL_law_429 dL_law_430 dL_law_431 ?_
  refine xr_V (As := [.int (sc xs i 1)]) (rest := [.int a]) C0 W0 (ctX10_ideal l G h2) hk (rr := (RX10, TX10, 57)) rfl rfl mc_X10_ideal mv_X10_ideal ml_L_46 ⟨by decide, by decide⟩ rfl hl.1 rfl (Nat.le_of_ble_eq_true rfl) ⟨by omega, by omega⟩ dL_law_432 (fun H locs W0 => ?_)
  refine W.eq (g2 := F0 m 435 ls [.int a, .int a]) rfl ?_
  refine lv_icmp_eq (tgt := 977) hx hb dL_law_435 (by decide) (fun _ => ?_) (fun h => absurd rfl h)
  exact W.widen (by omega) (by omega) (K _ _ _ _ _ W0 I2 hl)
theorem lw_c6 (E : lwE p s m meth c G X0 b L xs) (W0 : XD G X0 X s H locs) (I : Inv X v t) (hl : lv_has ls 7 (lwA b v i)) (hi : ∀ k : Nat, k < 7 → vp_in (i + Int32.ofNat k) L) (hf : cells + 11 ≤ room_1.cells ∧ slots + 3138 ≤ room_1.slots) (K : lwK p l e s m below meth c cells slots Q G X0 b v i) : W p l e room_1 s m #[Value.ref b] below meth c H locs cells slots Q (F0 m 440 ls []) := by
  have C0 := E.1
  have hx := C0.1
  have hb := C0.2.1
  have hl : lv_has ls 7 [(0, .ref b), (1, .ref v), (2, .ref (v + 127)), (3, .ref (v + 169)), (4, .int i)] := hl
  have h0 : ls[0]? = some (.val (.ref b)) := lv_at hl 0 rfl
  have h4 : ls[4]? = some (.val (.int i)) := lv_at hl 4 rfl
  obtain ⟨hf1, hf2⟩ := hf
  obtain ⟨a, X1, X2, t', h1, h2, I2⟩ := p_manner I (sc xs i 1) (sc xs i 2) (sc xs i 3) (sc xs i 4)
  have hk : xKd X1 (v + 127) = 10 + 1 := by
    unfold fX10_manner at h2
    exact pk h2
  refine lv_aload_n hx hb dL_law_440 rfl (lv_at hl 1 rfl) ?_
  refine lw_sc (pc := 441) (k := 1) E W0 h0 h4 rfl (hi 1 (by decide)) dL_law_441 dL_law_442 dL_law_444 dL_law_445 dL_law_446 ?_
  refine lw_sc (pc := 447) (k := 2) E W0 h0 h4 rfl (hi 2 (by decide)) dL_law_447 dL_law_448 dL_law_450 dL_law_451 dL_law_452 ?_
  refine lw_sc (pc := 453) (k := 3) E W0 h0 h4 rfl (hi 3 (by decide)) dL_law_453 dL_law_454 dL_law_456 dL_law_457 dL_law_458 ?_
  refine lw_sc (pc := 459) (k := 4) E W0 h0 h4 rfl (hi 4 (by decide)) dL_law_459 dL_law_460 dL_law_462 dL_law_463 dL_law_464 ?_
  refine xr_V (As := [.int (sc xs i 1), .int (sc xs i 2), .int (sc xs i 3), .int (sc xs i 4)]) (rest := []) C0 W0 (ctX9_manner l G h1) I.1.1.1 (rr := (RX9, TX9, 12)) rfl rfl mc_X9_manner mv_X9_manner ml_L_47 ⟨by decide, by decide⟩ rfl hl.1 rfl (Nat.le_of_ble_eq_true rfl) ⟨by omega, by omega⟩ dL_law_465 (fun H locs W0 => ?_)
  refine W.eq (g2 := F0 m 468 ls [.int a]) rfl ?_
  refine lv_aload_n hx hb dL_law_468 rfl (lv_at hl 2 rfl) ?_
  refine lw_sc (pc := 469) (k := 1) E W0 h0 h4 rfl (hi 1 (by decide)) dL_law_469 dL_law_470 dL_law_472 dL_law_473 dL_law_474 ?_
  refine lw_sc (pc := 475) (k := 2) E W0 h0 h4 rfl (hi 2 (by decide)) dL_law_475 dL_law_476 dL_law_478 dL_law_479 dL_law_480 ?_
  refine lw_sc (pc := 481) (k := 3) E W0 h0 h4 rfl (hi 3 (by decide)) dL_law_481 dL_law_482 dL_law_484 dL_law_485 dL_law_486 ?_
  refine lw_sc (pc := 487) (k := 4) E W0 h0 h4 rfl (hi 4 (by decide)) dL_law_487 dL_law_488 dL_law_490 dL_law_491 dL_law_492 ?_
  refine xr_V (As := [.int (sc xs i 1), .int (sc xs i 2), .int (sc xs i 3), .int (sc xs i 4)]) (rest := [.int a]) C0 W0 (ctX10_manner l G h2) hk (rr := (RX10, TX10, 57)) rfl rfl mc_X10_manner mv_X10_manner ml_L_51 ⟨by decide, by decide⟩ rfl hl.1 rfl (Nat.le_of_ble_eq_true rfl) ⟨by omega, by omega⟩ dL_law_493 (fun H locs W0 => ?_)
  refine W.eq (g2 := F0 m 496 ls [.int a, .int a]) rfl ?_
  refine lv_icmp_eq (tgt := 977) hx hb dL_law_496 (by decide) (fun _ => ?_) (fun h => absurd rfl h)
  exact W.widen (by omega) (by omega) (K _ _ _ _ _ W0 I2 hl)
theorem lw_c7 (E : lwE p s m meth c G X0 b L xs) (W0 : XD G X0 X s H locs) (I : Inv X v t) (hl : lv_has ls 7 (lwA b v i)) (hi : ∀ k : Nat, k < 7 → vp_in (i + Int32.ofNat k) L) (hf : cells + 11 ≤ room_1.cells ∧ slots + 3138 ≤ room_1.slots) (K : lwK p l e s m below meth c cells slots Q G X0 b v i) : W p l e room_1 s m #[Value.ref b] below meth c H locs cells slots Q (F0 m 501 ls []) := by
  have C0 := E.1
  have hx := C0.1
  have hb := C0.2.1
  have hl : lv_has ls 7 [(0, .ref b), (1, .ref v), (2, .ref (v + 127)), (3, .ref (v + 169)), (4, .int i)] := hl
  have h0 : ls[0]? = some (.val (.ref b)) := lv_at hl 0 rfl
  have h4 : ls[4]? = some (.val (.int i)) := lv_at hl 4 rfl
  obtain ⟨hf1, hf2⟩ := hf
  obtain ⟨a, X1, X2, t', h1, h2, I2⟩ := p_feed I (sj (sc xs i 1) (sc xs i 2)) (sj (sc xs i 3) (sc xs i 4)) (sj (sc xs i 5) (sc xs i 6))
  have hk : xKd X1 (v + 127) = 10 + 1 := by
    unfold fX10_feed at h2
    exact pk h2
  refine lv_aload_n hx hb dL_law_501 rfl (lv_at hl 1 rfl) ?_
  refine lw_sc (pc := 502) (k := 1) E W0 h0 h4 rfl (hi 1 (by decide)) dL_law_502 dL_law_503 dL_law_505 dL_law_506 dL_law_507 ?_
  refine lv_i2l hx hb dL_law_508 rfl ?_
  refine lv_bipush (v := 32) hx hb dL_law_509 (by decide) ?_
  refine lv_lshl hx hb dL_law_511 rfl ?_
  refine lw_sc (pc := 512) (k := 2) E W0 h0 h4 rfl (hi 2 (by decide)) dL_law_512 dL_law_513 dL_law_515 dL_law_516 dL_law_517 ?_
  refine lv_i2l hx hb dL_law_518 rfl ?_
  refine lv_ldc2 hx hb C0.2.2.2.1 (C0.2.2.2.2.1 _ kj_L_52) dL_law_519 ?_
  refine lv_land hx hb dL_law_522 ?_
  refine lv_lor hx hb dL_law_523 ?_
  refine lw_sc (pc := 524) (k := 3) E W0 h0 h4 rfl (hi 3 (by decide)) dL_law_524 dL_law_525 dL_law_527 dL_law_528 dL_law_529 ?_
  refine lv_i2l hx hb dL_law_530 rfl ?_
  refine lv_bipush (v := 32) hx hb dL_law_531 (by decide) ?_
  refine lv_lshl hx hb dL_law_533 rfl ?_
  refine lw_sc (pc := 534) (k := 4) E W0 h0 h4 rfl (hi 4 (by decide)) dL_law_534 dL_law_535 dL_law_537 dL_law_538 dL_law_539 ?_
  refine lv_i2l hx hb dL_law_540 rfl ?_
  refine lv_ldc2 hx hb C0.2.2.2.1 (C0.2.2.2.2.1 _ kj_L_52) dL_law_541 ?_
  refine lv_land hx hb dL_law_544 ?_
  refine lv_lor hx hb dL_law_545 ?_
  refine lw_sc (pc := 546) (k := 5) E W0 h0 h4 rfl (hi 5 (by decide)) dL_law_546 dL_law_547 dL_law_549 dL_law_550 dL_law_551 ?_
  refine lv_i2l hx hb dL_law_552 rfl ?_
  refine lv_bipush (v := 32) hx hb dL_law_553 (by decide) ?_
  refine lv_lshl hx hb dL_law_555 rfl ?_
  refine lw_scb (pc := 556) (k := 6) E W0 h0 h4 (by decide) (hi 6 (by decide)) dL_law_556 dL_law_557 dL_law_559 dL_law_561 dL_law_562 ?_
  refine lv_i2l hx hb dL_law_563 rfl ?_
  refine lv_ldc2 hx hb C0.2.2.2.1 (C0.2.2.2.2.1 _ kj_L_52) dL_law_564 ?_
  refine lv_land hx hb dL_law_567 ?_
  refine lv_lor hx hb dL_law_568 ?_
  refine xr_V (As := [.long (sj (sc xs i 1) (sc xs i 2)), .long (sj (sc xs i 3) (sc xs i 4)), .long (sj (sc xs i 5) (sc xs i 6))]) (rest := []) C0 W0 (ctX9_feed l G h1) I.1.1.1 (rr := (RX9, TX9, 12)) rfl rfl mc_X9_feed mv_X9_feed ml_L_54 ⟨by decide, by decide⟩ rfl hl.1 rfl (Nat.le_of_ble_eq_true rfl) ⟨by omega, by omega⟩ dL_law_569 (fun H locs W0 => ?_)
  refine W.eq (g2 := F0 m 572 ls [.int a]) rfl ?_
  refine lv_aload_n hx hb dL_law_572 rfl (lv_at hl 2 rfl) ?_
  refine lw_sc (pc := 573) (k := 1) E W0 h0 h4 rfl (hi 1 (by decide)) dL_law_573 dL_law_574 dL_law_576 dL_law_577 dL_law_578 ?_
  refine lv_i2l hx hb dL_law_579 rfl ?_
  refine lv_bipush (v := 32) hx hb dL_law_580 (by decide) ?_
  refine lv_lshl hx hb dL_law_582 rfl ?_
  refine lw_sc (pc := 583) (k := 2) E W0 h0 h4 rfl (hi 2 (by decide)) dL_law_583 dL_law_584 dL_law_586 dL_law_587 dL_law_588 ?_
  refine lv_i2l hx hb dL_law_589 rfl ?_
  refine lv_ldc2 hx hb C0.2.2.2.1 (C0.2.2.2.2.1 _ kj_L_52) dL_law_590 ?_
  refine lv_land hx hb dL_law_593 ?_
  refine lv_lor hx hb dL_law_594 ?_
  refine lw_sc (pc := 595) (k := 3) E W0 h0 h4 rfl (hi 3 (by decide)) dL_law_595 dL_law_596 dL_law_598 dL_law_599 dL_law_600 ?_
  refine lv_i2l hx hb dL_law_601 rfl ?_
  refine lv_bipush (v := 32) hx hb dL_law_602 (by decide) ?_
  refine lv_lshl hx hb dL_law_604 rfl ?_
  refine lw_sc (pc := 605) (k := 4) E W0 h0 h4 rfl (hi 4 (by decide)) dL_law_605 dL_law_606 dL_law_608 dL_law_609 dL_law_610 ?_
  refine lv_i2l hx hb dL_law_611 rfl ?_
  refine lv_ldc2 hx hb C0.2.2.2.1 (C0.2.2.2.2.1 _ kj_L_52) dL_law_612 ?_
  refine lv_land hx hb dL_law_615 ?_
  refine lv_lor hx hb dL_law_616 ?_
  refine lw_sc (pc := 617) (k := 5) E W0 h0 h4 rfl (hi 5 (by decide)) dL_law_617 dL_law_618 dL_law_620 dL_law_621 dL_law_622 ?_
  refine lv_i2l hx hb dL_law_623 rfl ?_
  refine lv_bipush (v := 32) hx hb dL_law_624 (by decide) ?_
  refine lv_lshl hx hb dL_law_626 rfl ?_
  refine lw_scb (pc := 627) (k := 6) E W0 h0 h4 (by decide) (hi 6 (by decide)) dL_law_627 dL_law_628 dL_law_630 dL_law_632 dL_law_633 ?_
  refine lv_i2l hx hb dL_law_634 rfl ?_
  refine lv_ldc2 hx hb C0.2.2.2.1 (C0.2.2.2.2.1 _ kj_L_52) dL_law_635 ?_
  refine lv_land hx hb dL_law_638 ?_
  refine lv_lor hx hb dL_law_639 ?_
  refine xr_V (As := [.long (sj (sc xs i 1) (sc xs i 2)), .long (sj (sc xs i 3) (sc xs i 4)), .long (sj (sc xs i 5) (sc xs i 6))]) (rest := [.int a]) C0 W0 (ctX10_feed l G h2) hk (rr := (RX10, TX10, 57)) rfl rfl mc_X10_feed mv_X10_feed ml_L_58 ⟨by decide, by decide⟩ rfl hl.1 rfl (Nat.le_of_ble_eq_true rfl) ⟨by omega, by omega⟩ dL_law_640 (fun H locs W0 => ?_)
  refine W.eq (g2 := F0 m 643 ls [.int a, .int a]) rfl ?_
  refine lv_icmp_eq (tgt := 977) hx hb dL_law_643 (by decide) (fun _ => ?_) (fun h => absurd rfl h)
  exact W.widen (by omega) (by omega) (K _ _ _ _ _ W0 I2 hl)
theorem lw_c8 (E : lwE p s m meth c G X0 b L xs) (W0 : XD G X0 X s H locs) (I : Inv X v t) (hl : lv_has ls 7 (lwA b v i)) (hi : ∀ k : Nat, k < 7 → vp_in (i + Int32.ofNat k) L) (hf : cells + 11 ≤ room_1.cells ∧ slots + 3138 ≤ room_1.slots) (K : lwK p l e s m below meth c cells slots Q G X0 b v i) : W p l e room_1 s m #[Value.ref b] below meth c H locs cells slots Q (F0 m 648 ls []) := by
  have C0 := E.1
  have hx := C0.1
  have hb := C0.2.1
  have hl : lv_has ls 7 [(0, .ref b), (1, .ref v), (2, .ref (v + 127)), (3, .ref (v + 169)), (4, .int i)] := hl
  have h0 : ls[0]? = some (.val (.ref b)) := lv_at hl 0 rfl
  have h4 : ls[4]? = some (.val (.int i)) := lv_at hl 4 rfl
  obtain ⟨hf1, hf2⟩ := hf
  obtain ⟨a, X1, X2, t', h1, h2, I2⟩ := p_rules I 
  have hk : xKd X1 (v + 127) = 10 + 1 := by
    unfold fX10_rules at h2
    exact pk h2
  refine lv_aload_n hx hb dL_law_648 rfl (lv_at hl 1 rfl) ?_
  refine xr_V (As := []) (rest := []) C0 W0 (ctX9_rules l G h1) I.1.1.1 (rr := (RX9, TX9, 12)) rfl rfl mc_X9_rules mv_X9_rules ml_L_59 ⟨by decide, by decide⟩ rfl hl.1 rfl (Nat.le_of_ble_eq_true rfl) ⟨by omega, by omega⟩ dL_law_649 (fun H locs W0 => ?_)
  refine W.eq (g2 := F0 m 652 ls [.int a]) rfl ?_
  refine lv_aload_n hx hb dL_law_652 rfl (lv_at hl 2 rfl) ?_
  refine xr_V (As := []) (rest := [.int a]) C0 W0 (ctX10_rules l G h2) hk (rr := (RX10, TX10, 57)) rfl rfl mc_X10_rules mv_X10_rules ml_L_62 ⟨by decide, by decide⟩ rfl hl.1 rfl (Nat.le_of_ble_eq_true rfl) ⟨by omega, by omega⟩ dL_law_653 (fun H locs W0 => ?_)
  refine W.eq (g2 := F0 m 656 ls [.int a, .int a]) rfl ?_
  refine lv_icmp_eq (tgt := 977) hx hb dL_law_656 (by decide) (fun _ => ?_) (fun h => absurd rfl h)
  exact W.widen (by omega) (by omega) (K _ _ _ _ _ W0 I2 hl)
theorem lw_c9 (E : lwE p s m meth c G X0 b L xs) (W0 : XD G X0 X s H locs) (I : Inv X v t) (hl : lv_has ls 7 (lwA b v i)) (hi : ∀ k : Nat, k < 7 → vp_in (i + Int32.ofNat k) L) (hf : cells + 11 ≤ room_1.cells ∧ slots + 3138 ≤ room_1.slots) (K : lwK p l e s m below meth c cells slots Q G X0 b v i) : W p l e room_1 s m #[Value.ref b] below meth c H locs cells slots Q (F0 m 661 ls []) := by
  have C0 := E.1
  have hx := C0.1
  have hb := C0.2.1
  have hl : lv_has ls 7 [(0, .ref b), (1, .ref v), (2, .ref (v + 127)), (3, .ref (v + 169)), (4, .int i)] := hl
  have h0 : ls[0]? = some (.val (.ref b)) := lv_at hl 0 rfl
  have h4 : ls[4]? = some (.val (.int i)) := lv_at hl 4 rfl
  obtain ⟨hf1, hf2⟩ := hf
  obtain ⟨a, X1, X2, t', h1, h2, I2⟩ := p_hand I (sc xs i 1) (sc xs i 2) (sc xs i 3)
  have hk : xKd X1 (v + 127) = 10 + 1 := by
    unfold fX10_hand at h2
    exact pk h2
  refine lv_aload_n hx hb dL_law_661 rfl (lv_at hl 1 rfl) ?_
  refine lw_sc (pc := 662) (k := 1) E W0 h0 h4 rfl (hi 1 (by decide)) dL_law_662 dL_law_663 dL_law_665 dL_law_666 dL_law_667 ?_
  refine lw_sc (pc := 668) (k := 2) E W0 h0 h4 rfl (hi 2 (by decide)) dL_law_668 dL_law_669 dL_law_671 dL_law_672 dL_law_673 ?_
  refine lw_sc (pc := 674) (k := 3) E W0 h0 h4 rfl (hi 3 (by decide)) dL_law_674 dL_law_675 dL_law_677 dL_law_678 dL_law_679 ?_
  refine xr_V (As := [.int (sc xs i 1), .int (sc xs i 2), .int (sc xs i 3)]) (rest := []) C0 W0 (ctX9_hand l G h1) I.1.1.1 (rr := (RX9, TX9, 12)) rfl rfl mc_X9_hand mv_X9_hand ml_L_63 ⟨by decide, by decide⟩ rfl hl.1 rfl (Nat.le_of_ble_eq_true rfl) ⟨by omega, by omega⟩ dL_law_680 (fun H locs W0 => ?_)
  refine W.eq (g2 := F0 m 683 ls [.int a]) rfl ?_
  refine lv_aload_n hx hb dL_law_683 rfl (lv_at hl 2 rfl) ?_
  refine lw_sc (pc := 684) (k := 1) E W0 h0 h4 rfl (hi 1 (by decide)) dL_law_684 dL_law_685 dL_law_687 dL_law_688 dL_law_689 ?_
  refine lw_sc (pc := 690) (k := 2) E W0 h0 h4 rfl (hi 2 (by decide)) dL_law_690 dL_law_691 dL_law_693 dL_law_694 dL_law_695 ?_
  refine lw_sc (pc := 696) (k := 3) E W0 h0 h4 rfl (hi 3 (by decide)) dL_law_696 dL_law_697 dL_law_699 dL_law_700 dL_law_701 ?_
  refine xr_V (As := [.int (sc xs i 1), .int (sc xs i 2), .int (sc xs i 3)]) (rest := [.int a]) C0 W0 (ctX10_hand l G h2) hk (rr := (RX10, TX10, 57)) rfl rfl mc_X10_hand mv_X10_hand ml_L_67 ⟨by decide, by decide⟩ rfl hl.1 rfl (Nat.le_of_ble_eq_true rfl) ⟨by omega, by omega⟩ dL_law_702 (fun H locs W0 => ?_)
  refine W.eq (g2 := F0 m 705 ls [.int a, .int a]) rfl ?_
  refine lv_icmp_eq (tgt := 977) hx hb dL_law_705 (by decide) (fun _ => ?_) (fun h => absurd rfl h)
  exact W.widen (by omega) (by omega) (K _ _ _ _ _ W0 I2 hl)
theorem lw_c10 (E : lwE p s m meth c G X0 b L xs) (W0 : XD G X0 X s H locs) (I : Inv X v t) (hl : lv_has ls 7 (lwA b v i)) (hi : ∀ k : Nat, k < 7 → vp_in (i + Int32.ofNat k) L) (hf : cells + 11 ≤ room_1.cells ∧ slots + 3138 ≤ room_1.slots) (K : lwK p l e s m below meth c cells slots Q G X0 b v i) : W p l e room_1 s m #[Value.ref b] below meth c H locs cells slots Q (F0 m 710 ls []) := by
  have C0 := E.1
  have hx := C0.1
  have hb := C0.2.1
  have hl : lv_has ls 7 [(0, .ref b), (1, .ref v), (2, .ref (v + 127)), (3, .ref (v + 169)), (4, .int i)] := hl
  have h0 : ls[0]? = some (.val (.ref b)) := lv_at hl 0 rfl
  have h4 : ls[4]? = some (.val (.int i)) := lv_at hl 4 rfl
  obtain ⟨hf1, hf2⟩ := hf
  obtain ⟨a, X1, X2, t', h1, h2, I2⟩ := p_speed I (sc xs i 1) (sc xs i 2)
  have hk : xKd X1 (v + 127) = 10 + 1 := by
    unfold fX10_speed at h2
    exact pk h2
  refine lv_aload_n hx hb dL_law_710 rfl (lv_at hl 1 rfl) ?_
  refine lw_sc (pc := 711) (k := 1) E W0 h0 h4 rfl (hi 1 (by decide)) dL_law_711 dL_law_712 dL_law_714 dL_law_715 dL_law_716 ?_
  refine lw_sc (pc := 717) (k := 2) E W0 h0 h4 rfl (hi 2 (by decide)) dL_law_717 dL_law_718 dL_law_720 dL_law_721 dL_law_722 ?_
  refine xr_V (As := [.int (sc xs i 1), .int (sc xs i 2)]) (rest := []) C0 W0 (ctX9_speed l G h1) I.1.1.1 (rr := (RX9, TX9, 12)) rfl rfl mc_X9_speed mv_X9_speed ml_L_68 ⟨by decide, by decide⟩ rfl hl.1 rfl (Nat.le_of_ble_eq_true rfl) ⟨by omega, by omega⟩ dL_law_723 (fun H locs W0 => ?_)
  refine W.eq (g2 := F0 m 726 ls [.int a]) rfl ?_
  refine lv_aload_n hx hb dL_law_726 rfl (lv_at hl 2 rfl) ?_
  refine lw_sc (pc := 727) (k := 1) E W0 h0 h4 rfl (hi 1 (by decide)) dL_law_727 dL_law_728 dL_law_730 dL_law_731 dL_law_732 ?_
  refine lw_sc (pc := 733) (k := 2) E W0 h0 h4 rfl (hi 2 (by decide)) dL_law_733 dL_law_734 dL_law_736 dL_law_737 dL_law_738 ?_
  refine xr_V (As := [.int (sc xs i 1), .int (sc xs i 2)]) (rest := [.int a]) C0 W0 (ctX10_speed l G h2) hk (rr := (RX10, TX10, 57)) rfl rfl mc_X10_speed mv_X10_speed ml_L_72 ⟨by decide, by decide⟩ rfl hl.1 rfl (Nat.le_of_ble_eq_true rfl) ⟨by omega, by omega⟩ dL_law_739 (fun H locs W0 => ?_)
  refine W.eq (g2 := F0 m 742 ls [.int a, .int a]) rfl ?_
  refine lv_icmp_eq (tgt := 977) hx hb dL_law_742 (by decide) (fun _ => ?_) (fun h => absurd rfl h)
  exact W.widen (by omega) (by omega) (K _ _ _ _ _ W0 I2 hl)
theorem lw_c11 (E : lwE p s m meth c G X0 b L xs) (W0 : XD G X0 X s H locs) (I : Inv X v t) (hl : lv_has ls 7 (lwA b v i)) (hi : ∀ k : Nat, k < 7 → vp_in (i + Int32.ofNat k) L) (hf : cells + 11 ≤ room_1.cells ∧ slots + 3138 ≤ room_1.slots) (K : lwK p l e s m below meth c cells slots Q G X0 b v i) : W p l e room_1 s m #[Value.ref b] below meth c H locs cells slots Q (F0 m 747 ls []) := by
  have C0 := E.1
  have hx := C0.1
  have hb := C0.2.1
  have hl : lv_has ls 7 [(0, .ref b), (1, .ref v), (2, .ref (v + 127)), (3, .ref (v + 169)), (4, .int i)] := hl
  have h0 : ls[0]? = some (.val (.ref b)) := lv_at hl 0 rfl
  have h4 : ls[4]? = some (.val (.int i)) := lv_at hl 4 rfl
  obtain ⟨hf1, hf2⟩ := hf
  obtain ⟨a, X1, X2, h1, h2, I2⟩ := p_phrases I 
  have hk : xKd X1 (v + 127) = 10 + 1 := by
    unfold fX10_phrases at h2
    exact pk h2
  refine lv_aload_n hx hb dL_law_747 rfl (lv_at hl 1 rfl) ?_
  refine xr_V (As := []) (rest := []) C0 W0 (ctX9_phrases l G h1) I.1.1.1 (rr := (RX9, TX9, 12)) rfl rfl mc_X9_phrases mv_X9_phrases ml_L_73 ⟨by decide, by decide⟩ rfl hl.1 rfl (Nat.le_of_ble_eq_true rfl) ⟨by omega, by omega⟩ dL_law_748 (fun H locs W0 => ?_)
  refine W.eq (g2 := F0 m 751 ls [.int a]) rfl ?_
  refine lv_aload_n hx hb dL_law_751 rfl (lv_at hl 2 rfl) ?_
  refine xr_V (As := []) (rest := [.int a]) C0 W0 (ctX10_phrases l G h2) hk (rr := (RX10, TX10, 57)) rfl rfl mc_X10_phrases mv_X10_phrases ml_L_76 ⟨by decide, by decide⟩ rfl hl.1 rfl (Nat.le_of_ble_eq_true rfl) ⟨by omega, by omega⟩ dL_law_752 (fun H locs W0 => ?_)
  refine W.eq (g2 := F0 m 755 ls [.int a, .int a]) rfl ?_
  refine lv_icmp_eq (tgt := 977) hx hb dL_law_755 (by decide) (fun _ => ?_) (fun h => absurd rfl h)
  exact W.widen (by omega) (by omega) (K _ _ _ _ _ W0 I2 hl)
theorem lw_c12 (E : lwE p s m meth c G X0 b L xs) (W0 : XD G X0 X s H locs) (I : Inv X v t) (hl : lv_has ls 7 (lwA b v i)) (hi : ∀ k : Nat, k < 7 → vp_in (i + Int32.ofNat k) L) (hf : cells + 11 ≤ room_1.cells ∧ slots + 3138 ≤ room_1.slots) (K : lwK p l e s m below meth c cells slots Q G X0 b v i) : W p l e room_1 s m #[Value.ref b] below meth c H locs cells slots Q (F0 m 760 ls []) := by
  have C0 := E.1
  have hx := C0.1
  have hb := C0.2.1
  have hl : lv_has ls 7 [(0, .ref b), (1, .ref v), (2, .ref (v + 127)), (3, .ref (v + 169)), (4, .int i)] := hl
  have h0 : ls[0]? = some (.val (.ref b)) := lv_at hl 0 rfl
  have h4 : ls[4]? = some (.val (.int i)) := lv_at hl 4 rfl
  obtain ⟨hf1, hf2⟩ := hf
  obtain ⟨a, X1, X2, h1, h2, I2⟩ := p_phrase I (sc xs i 1) (sc xs i 2)
  have hk : xKd X1 (v + 127) = 10 + 1 := by
    unfold fX10_phrase at h2
    exact pk h2
  refine lv_aload_n hx hb dL_law_760 rfl (lv_at hl 1 rfl) ?_
  refine lw_sc (pc := 761) (k := 1) E W0 h0 h4 rfl (hi 1 (by decide)) dL_law_761 dL_law_762 dL_law_764 dL_law_765 dL_law_766 ?_
  refine lw_sc (pc := 767) (k := 2) E W0 h0 h4 rfl (hi 2 (by decide)) dL_law_767 dL_law_768 dL_law_770 dL_law_771 dL_law_772 ?_
  refine xr_V (As := [.int (sc xs i 1), .int (sc xs i 2)]) (rest := []) C0 W0 (ctX9_phrase l G h1) I.1.1.1 (rr := (RX9, TX9, 12)) rfl rfl mc_X9_phrase mv_X9_phrase ml_L_77 ⟨by decide, by decide⟩ rfl hl.1 rfl (Nat.le_of_ble_eq_true rfl) ⟨by omega, by omega⟩ dL_law_773 (fun H locs W0 => ?_)
  refine W.eq (g2 := F0 m 776 ls [.int a]) rfl ?_
  refine lv_aload_n hx hb dL_law_776 rfl (lv_at hl 2 rfl) ?_
  refine lw_sc (pc := 777) (k := 1) E W0 h0 h4 rfl (hi 1 (by decide)) dL_law_777 dL_law_778 dL_law_780 dL_law_781 dL_law_782 ?_
  refine lw_sc (pc := 783) (k := 2) E W0 h0 h4 rfl (hi 2 (by decide)) dL_law_783 dL_law_784 dL_law_786 dL_law_787 dL_law_788 ?_
  refine xr_V (As := [.int (sc xs i 1), .int (sc xs i 2)]) (rest := [.int a]) C0 W0 (ctX10_phrase l G h2) hk (rr := (RX10, TX10, 57)) rfl rfl mc_X10_phrase mv_X10_phrase ml_L_80 ⟨by decide, by decide⟩ rfl hl.1 rfl (Nat.le_of_ble_eq_true rfl) ⟨by omega, by omega⟩ dL_law_789 (fun H locs W0 => ?_)
  refine W.eq (g2 := F0 m 792 ls [.int a, .int a]) rfl ?_
  refine lv_icmp_eq (tgt := 977) hx hb dL_law_792 (by decide) (fun _ => ?_) (fun h => absurd rfl h)
  exact W.widen (by omega) (by omega) (K _ _ _ _ _ W0 I2 hl)
theorem lw_c14 (E : lwE p s m meth c G X0 b L xs) (W0 : XD G X0 X s H locs) (I : Inv X v t) (hl : lv_has ls 7 (lwA b v i)) (hi : ∀ k : Nat, k < 7 → vp_in (i + Int32.ofNat k) L) (hf : cells + 11 ≤ room_1.cells ∧ slots + 3138 ≤ room_1.slots) (K : lwK p l e s m below meth c cells slots Q G X0 b v i) : W p l e room_1 s m #[Value.ref b] below meth c H locs cells slots Q (F0 m 865 ls []) := by
  have C0 := E.1
  have hx := C0.1
  have hb := C0.2.1
  have hl : lv_has ls 7 [(0, .ref b), (1, .ref v), (2, .ref (v + 127)), (3, .ref (v + 169)), (4, .int i)] := hl
  have h0 : ls[0]? = some (.val (.ref b)) := lv_at hl 0 rfl
  have h4 : ls[4]? = some (.val (.int i)) := lv_at hl 4 rfl
  obtain ⟨hf1, hf2⟩ := hf
  obtain ⟨a, X1, X2, h1, h2, I2⟩ := p_fit I 
  have hk : xKd X1 (v + 127) = 10 + 1 := by
    unfold fX10_fit at h2
    exact pk h2
  refine lv_aload_n hx hb dL_law_865 rfl (lv_at hl 1 rfl) ?_
  refine xr_V (As := []) (rest := []) C0 W0 (ctX9_fit l G h1) I.1.1.1 (rr := (RX9, TX9, 12)) rfl rfl mc_X9_fit mv_X9_fit ml_L_90 ⟨by decide, by decide⟩ rfl hl.1 rfl (Nat.le_of_ble_eq_true rfl) ⟨by omega, by omega⟩ dL_law_866 (fun H locs W0 => ?_)
  refine W.eq (g2 := F0 m 869 ls [.int a]) rfl ?_
  refine lv_aload_n hx hb dL_law_869 rfl (lv_at hl 2 rfl) ?_
  refine xr_V (As := []) (rest := [.int a]) C0 W0 (ctX10_fit l G h2) hk (rr := (RX10, TX10, 57)) rfl rfl mc_X10_fit mv_X10_fit ml_L_93 ⟨by decide, by decide⟩ rfl hl.1 rfl (Nat.le_of_ble_eq_true rfl) ⟨by omega, by omega⟩ dL_law_870 (fun H locs W0 => ?_)
  refine W.eq (g2 := F0 m 873 ls [.int a, .int a]) rfl ?_
  refine lv_icmp_eq (tgt := 977) hx hb dL_law_873 (by decide) (fun _ => ?_) (fun h => absurd rfl h)
  exact W.widen (by omega) (by omega) (K _ _ _ _ _ W0 I2 hl)
theorem lw_c15 (E : lwE p s m meth c G X0 b L xs) (W0 : XD G X0 X s H locs) (I : Inv X v t) (hl : lv_has ls 7 (lwA b v i)) (hi : ∀ k : Nat, k < 7 → vp_in (i + Int32.ofNat k) L) (hf : cells + 11 ≤ room_1.cells ∧ slots + 3138 ≤ room_1.slots) (K : lwK p l e s m below meth c cells slots Q G X0 b v i) : W p l e room_1 s m #[Value.ref b] below meth c H locs cells slots Q (F0 m 878 ls []) := by
  have C0 := E.1
  have hx := C0.1
  have hb := C0.2.1
  have hl : lv_has ls 7 [(0, .ref b), (1, .ref v), (2, .ref (v + 127)), (3, .ref (v + 169)), (4, .int i)] := hl
  have h0 : ls[0]? = some (.val (.ref b)) := lv_at hl 0 rfl
  have h4 : ls[4]? = some (.val (.int i)) := lv_at hl 4 rfl
  obtain ⟨hf1, hf2⟩ := hf
  obtain ⟨a, X1, X2, h1, h2, I2⟩ := p_pause I (sc xs i 1) (sc xs i 2)
  have hk : xKd X1 (v + 127) = 10 + 1 := by
    unfold fX10_pause at h2
    exact pk h2
  refine lv_aload_n hx hb dL_law_878 rfl (lv_at hl 1 rfl) ?_
  refine lw_sc (pc := 879) (k := 1) E W0 h0 h4 rfl (hi 1 (by decide)) dL_law_879 dL_law_880 dL_law_882 dL_law_883 dL_law_884 ?_
  refine lw_sc (pc := 885) (k := 2) E W0 h0 h4 rfl (hi 2 (by decide)) dL_law_885 dL_law_886 dL_law_888 dL_law_889 dL_law_890 ?_
  refine xr_V (As := [.int (sc xs i 1), .int (sc xs i 2)]) (rest := []) C0 W0 (ctX9_pause l G h1) I.1.1.1 (rr := (RX9, TX9, 12)) rfl rfl mc_X9_pause mv_X9_pause ml_L_94 ⟨by decide, by decide⟩ rfl hl.1 rfl (Nat.le_of_ble_eq_true rfl) ⟨by omega, by omega⟩ dL_law_891 (fun H locs W0 => ?_)
  refine W.eq (g2 := F0 m 894 ls [.int a]) rfl ?_
  refine lv_aload_n hx hb dL_law_894 rfl (lv_at hl 2 rfl) ?_
  refine lw_sc (pc := 895) (k := 1) E W0 h0 h4 rfl (hi 1 (by decide)) dL_law_895 dL_law_896 dL_law_898 dL_law_899 dL_law_900 ?_
  refine lw_sc (pc := 901) (k := 2) E W0 h0 h4 rfl (hi 2 (by decide)) dL_law_901 dL_law_902 dL_law_904 dL_law_905 dL_law_906 ?_
  refine xr_V (As := [.int (sc xs i 1), .int (sc xs i 2)]) (rest := [.int a]) C0 W0 (ctX10_pause l G h2) hk (rr := (RX10, TX10, 57)) rfl rfl mc_X10_pause mv_X10_pause ml_L_97 ⟨by decide, by decide⟩ rfl hl.1 rfl (Nat.le_of_ble_eq_true rfl) ⟨by omega, by omega⟩ dL_law_907 (fun H locs W0 => ?_)
  refine W.eq (g2 := F0 m 910 ls [.int a, .int a]) rfl ?_
  refine lv_icmp_eq (tgt := 977) hx hb dL_law_910 (by decide) (fun _ => ?_) (fun h => absurd rfl h)
  exact W.widen (by omega) (by omega) (K _ _ _ _ _ W0 I2 hl)
theorem lw_c16 (E : lwE p s m meth c G X0 b L xs) (W0 : XD G X0 X s H locs) (I : Inv X v t) (hl : lv_has ls 7 (lwA b v i)) (hi : ∀ k : Nat, k < 7 → vp_in (i + Int32.ofNat k) L) (hf : cells + 11 ≤ room_1.cells ∧ slots + 3138 ≤ room_1.slots) (K : lwK p l e s m below meth c cells slots Q G X0 b v i) : W p l e room_1 s m #[Value.ref b] below meth c H locs cells slots Q (F0 m 915 ls []) := by
  have C0 := E.1
  have hx := C0.1
  have hb := C0.2.1
  have hl : lv_has ls 7 [(0, .ref b), (1, .ref v), (2, .ref (v + 127)), (3, .ref (v + 169)), (4, .int i)] := hl
  have h0 : ls[0]? = some (.val (.ref b)) := lv_at hl 0 rfl
  have h4 : ls[4]? = some (.val (.int i)) := lv_at hl 4 rfl
  obtain ⟨hf1, hf2⟩ := hf
  obtain ⟨a, X1, X2, h1, h2, I2⟩ := p_apart I (sc xs i 1) (sc xs i 2)
  have hk : xKd X1 (v + 127) = 10 + 1 := by
    unfold fX10_apart at h2
    exact pk h2
  refine lv_aload_n hx hb dL_law_915 rfl (lv_at hl 1 rfl) ?_
  refine lw_sc (pc := 916) (k := 1) E W0 h0 h4 rfl (hi 1 (by decide)) dL_law_916 dL_law_917 dL_law_919 dL_law_920 dL_law_921 ?_
  refine lw_sc (pc := 922) (k := 2) E W0 h0 h4 rfl (hi 2 (by decide)) dL_law_922 dL_law_923 dL_law_925 dL_law_926 dL_law_927 ?_
  refine xr_V (As := [.int (sc xs i 1), .int (sc xs i 2)]) (rest := []) C0 W0 (ctX9_apart l G h1) I.1.1.1 (rr := (RX9, TX9, 12)) rfl rfl mc_X9_apart mv_X9_apart ml_L_98 ⟨by decide, by decide⟩ rfl hl.1 rfl (Nat.le_of_ble_eq_true rfl) ⟨by omega, by omega⟩ dL_law_928 (fun H locs W0 => ?_)
  refine W.eq (g2 := F0 m 931 ls [.int a]) rfl ?_
  refine lv_aload_n hx hb dL_law_931 rfl (lv_at hl 2 rfl) ?_
  refine lw_sc (pc := 932) (k := 1) E W0 h0 h4 rfl (hi 1 (by decide)) dL_law_932 dL_law_933 dL_law_935 dL_law_936 dL_law_937 ?_
  refine lw_sc (pc := 938) (k := 2) E W0 h0 h4 rfl (hi 2 (by decide)) dL_law_938 dL_law_939 dL_law_941 dL_law_942 dL_law_943 ?_
  refine xr_V (As := [.int (sc xs i 1), .int (sc xs i 2)]) (rest := [.int a]) C0 W0 (ctX10_apart l G h2) hk (rr := (RX10, TX10, 57)) rfl rfl mc_X10_apart mv_X10_apart ml_L_101 ⟨by decide, by decide⟩ rfl hl.1 rfl (Nat.le_of_ble_eq_true rfl) ⟨by omega, by omega⟩ dL_law_944 (fun H locs W0 => ?_)
  refine W.eq (g2 := F0 m 947 ls [.int a, .int a]) rfl ?_
  refine lv_icmp_eq (tgt := 977) hx hb dL_law_947 (by decide) (fun _ => ?_) (fun h => absurd rfl h)
  exact W.widen (by omega) (by omega) (K _ _ _ _ _ W0 I2 hl)
theorem lw_c17 (E : lwE p s m meth c G X0 b L xs) (W0 : XD G X0 X s H locs) (I : Inv X v t) (hl : lv_has ls 7 (lwA b v i)) (hi : ∀ k : Nat, k < 7 → vp_in (i + Int32.ofNat k) L) (hf : cells + 11 ≤ room_1.cells ∧ slots + 3138 ≤ room_1.slots) (K : lwK p l e s m below meth c cells slots Q G X0 b v i) : W p l e room_1 s m #[Value.ref b] below meth c H locs cells slots Q (F0 m 952 ls []) := by
  have C0 := E.1
  have hx := C0.1
  have hb := C0.2.1
  have hl : lv_has ls 7 [(0, .ref b), (1, .ref v), (2, .ref (v + 127)), (3, .ref (v + 169)), (4, .int i)] := hl
  have h0 : ls[0]? = some (.val (.ref b)) := lv_at hl 0 rfl
  have h4 : ls[4]? = some (.val (.int i)) := lv_at hl 4 rfl
  obtain ⟨hf1, hf2⟩ := hf
  obtain ⟨a, X1, X2, h1, h2, I2⟩ := p_count I (sc xs i 1)
  have hk : xKd X1 (v + 127) = 10 + 1 := by
    unfold fX10_count at h2
    exact pk h2
  refine lv_aload_n hx hb dL_law_952 rfl (lv_at hl 1 rfl) ?_
  refine lw_sc (pc := 953) (k := 1) E W0 h0 h4 rfl (hi 1 (by decide)) dL_law_953 dL_law_954 dL_law_956 dL_law_957 dL_law_958 ?_
  refine xr_V (As := [.int (sc xs i 1)]) (rest := []) C0 W0 (ctX9_count l G h1) I.1.1.1 (rr := (RX9, TX9, 12)) rfl rfl mc_X9_count mv_X9_count ml_L_102 ⟨by decide, by decide⟩ rfl hl.1 rfl (Nat.le_of_ble_eq_true rfl) ⟨by omega, by omega⟩ dL_law_959 (fun H locs W0 => ?_)
  refine W.eq (g2 := F0 m 962 ls [.int a]) rfl ?_
  refine lv_aload_n hx hb dL_law_962 rfl (lv_at hl 2 rfl) ?_
  refine lw_sc (pc := 963) (k := 1) E W0 h0 h4 rfl (hi 1 (by decide)) dL_law_963 dL_law_964 dL_law_966 dL_law_967 dL_law_968 ?_
  refine xr_V (As := [.int (sc xs i 1)]) (rest := [.int a]) C0 W0 (ctX10_count l G h2) hk (rr := (RX10, TX10, 57)) rfl rfl mc_X10_count mv_X10_count ml_L_106 ⟨by decide, by decide⟩ rfl hl.1 rfl (Nat.le_of_ble_eq_true rfl) ⟨by omega, by omega⟩ dL_law_969 (fun H locs W0 => ?_)
  refine W.eq (g2 := F0 m 972 ls [.int a, .int a]) rfl ?_
  refine lv_icmp_eq (tgt := 977) hx hb dL_law_972 (by decide) (fun _ => ?_) (fun h => absurd rfl h)
  exact W.widen (by omega) (by omega) (K _ _ _ _ _ W0 I2 hl)
end Lc
