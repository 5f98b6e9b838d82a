def fX10_knows_l10_b (rec : Int32 → XW → Option (Int32 × XW)) (l0 : Nat) (l1 : Int32) (l2 : Int32) (l3 : Int32) (l4 : Int32) (X : XW) : Option (Int32 × XW) :=
  if (l4 ≤ 0 : Prop) then (some (l4, X))
  else (gR X l0 10 48 >>= fun q1 =>
    aI X q1 1 (l4 - 1) >>= fun v3 =>
    if (v3 = l3 : Prop) then (rec (l4 + (-1)) X)
    else (some (l4, X)))
def fX10_knows_l10 (l0 : Nat) (l1 : Int32) (l2 : Int32) (l3 : Int32) (n : Nat) : Int32 → XW → Option (Int32 × XW) := iter (fun rec => fX10_knows_l10_b rec l0 l1 l2 l3) (fun _ _ => none) n
def fX10_knows_j276  (l0 : Nat) (l1 : Int32) (l3 : Int32) (s0 : Int32) (s1 : Int32) (s2 : Nat) (X : XW) : Option (XW) :=
  uI X s2 s1 s0 >>= fun X1 =>
  gR X1 l0 10 26 >>= fun q3 =>
  uI X1 q3 11 l3 >>= fun X5 =>
  gR X5 l0 10 26 >>= fun q7 =>
  gR X5 l0 10 36 >>= fun q9 =>
  aI X5 q9 1 l1 >>= fun v11 =>
  uI X5 q7 12 v11 >>= fun X13 =>
  some X13
def fX10_knows_j236  (l0 : Nat) (l1 : Int32) (l2 : Int32) (l3 : Int32) (s0 : Int32) (s1 : Int32) (s2 : Nat) (X : XW) : Option (XW) :=
  uI X s2 s1 s0 >>= fun X1 =>
  gR X1 l0 10 26 >>= fun q3 =>
  gR X1 l0 10 49 >>= fun q5 =>
  aI X1 q5 1 l2 >>= fun v7 =>
  uI X1 q3 9 v7 >>= fun X9 =>
  gR X9 l0 10 26 >>= fun q11 =>
  gR X9 l0 10 49 >>= fun q13 =>
  aI X9 q13 1 l2 >>= fun v15 =>
  gI X9 l0 10 42 >>= fun v17 =>
  if (v15 = (v17 - 1) : Prop) then (fX10_knows_j276 l0 l1 l3 1 10 q11 X9)
  else (fX10_knows_j276 l0 l1 l3 0 10 q11 X9)
def fX10_knows_j210  (l0 : Nat) (l1 : Int32) (l2 : Int32) (l3 : Int32) (s0 : Int32) (s1 : Int32) (s2 : Nat) (X : XW) : Option (XW) :=
  uI X s2 s1 s0 >>= fun X1 =>
  gR X1 l0 10 26 >>= fun q3 =>
  gR X1 l0 10 35 >>= fun q5 =>
  aI X1 q5 3 ((16 * l1) + l3) >>= fun v7 =>
  if (v7 = 0 : Prop) then (fX10_knows_j236 l0 l1 l2 l3 0 8 q3 X1)
  else (fX10_knows_j236 l0 l1 l2 l3 1 8 q3 X1)
def fX10_knows_j184  (l0 : Nat) (l1 : Int32) (l2 : Int32) (l3 : Int32) (s0 : Int32) (s1 : Int32) (s2 : Nat) (X : XW) : Option (XW) :=
  uI X s2 s1 s0 >>= fun X1 =>
  gR X1 l0 10 26 >>= fun q3 =>
  gR X1 l0 10 34 >>= fun q5 =>
  aI X1 q5 3 ((16 * l1) + l3) >>= fun v7 =>
  if (v7 = 0 : Prop) then (fX10_knows_j210 l0 l1 l2 l3 0 7 q3 X1)
  else (fX10_knows_j210 l0 l1 l2 l3 1 7 q3 X1)
def fX10_knows_j183  (l0 : Nat) (l1 : Int32) (l2 : Int32) (l3 : Int32) (s0 : Int32) (s1 : Nat) (X : XW) : Option (XW) :=
  fX10_knows_j184 l0 l1 l2 l3 0 s0 s1 X
def fX10_knows_j158  (l0 : Nat) (l1 : Int32) (l2 : Int32) (l3 : Int32) (l5 : Int32) (s0 : Int32) (s1 : Int32) (s2 : Nat) (X : XW) : Option (XW) :=
  uI X s2 s1 s0 >>= fun X1 =>
  gR X1 l0 10 26 >>= fun q3 =>
  if (l5 = 0 : Prop) then (fX10_knows_j183 l0 l1 l2 l3 6 q3 X1)
  else (gR X1 l0 10 46 >>= fun q5 =>
    aI X1 q5 3 l3 >>= fun v7 =>
    if (v7 = 0 : Prop) then (fX10_knows_j183 l0 l1 l2 l3 6 q3 X1)
    else (fX10_knows_j184 l0 l1 l2 l3 1 6 q3 X1))
def fX10_knows_j57  (l0 : Nat) (l1 : Int32) (l2 : Int32) (l3 : Int32) (s0 : Int32) (X : XW) : Option (XW) :=
  gR X l0 10 26 >>= fun q1 =>
  gR X l0 10 52 >>= fun q3 =>
  aI X q3 1 (3 * l2) >>= fun v5 =>
  uI X q1 0 v5 >>= fun X7 =>
  gR X7 l0 10 26 >>= fun q9 =>
  gR X7 l0 10 52 >>= fun q11 =>
  aI X7 q11 1 ((3 * l2) + 1) >>= fun v13 =>
  uI X7 q9 1 v13 >>= fun X15 =>
  gR X15 l0 10 26 >>= fun q17 =>
  gR X15 l0 10 52 >>= fun q19 =>
  aI X15 q19 1 ((3 * l2) + 2) >>= fun v21 =>
  uI X15 q17 2 v21 >>= fun X23 =>
  gR X23 l0 10 26 >>= fun q25 =>
  gR X23 l0 10 50 >>= fun q27 =>
  aI X23 q27 1 l2 >>= fun v29 =>
  uI X23 q25 3 v29 >>= fun X31 =>
  gR X31 l0 10 26 >>= fun q33 =>
  gR X31 l0 10 45 >>= fun q35 =>
  gR X31 l0 10 49 >>= fun q37 =>
  aI X31 q37 1 l2 >>= fun v39 =>
  aI X31 q35 1 v39 >>= fun v41 =>
  gR X31 l0 10 50 >>= fun q43 =>
  aI X31 q43 1 l2 >>= fun v45 =>
  uI X31 q33 4 ((v41 - 1) - v45) >>= fun X47 =>
  gR X47 l0 10 26 >>= fun q49 =>
  if (s0 = 0 : Prop) then (fX10_knows_j158 l0 l1 l2 l3 s0 0 5 q49 X47)
  else (fX10_knows_j158 l0 l1 l2 l3 s0 1 5 q49 X47)
def fX10_knows (l0 : Nat) (l1 : Int32) (l2 : Int32) (X : XW) : Option (XW) :=
  gR X l0 10 48 >>= fun q1 =>
  aI X q1 1 l2 >>= fun v3 =>
  fX10_knows_l10 l0 l1 l2 v3 FU l2 X >>= fun r5 =>
  gR r5.2 l0 10 32 >>= fun q7 =>
  aI r5.2 q7 1 ((16 * l1) + v3) >>= fun v9 =>
  if ((l2 - r5.1) = v9 : Prop) then (fX10_knows_j57 l0 l1 l2 v3 1 r5.2)
  else (fX10_knows_j57 l0 l1 l2 v3 0 r5.2)
theorem tX10_knows_l10_b {p : Program} {l : Launch} {e : Env} {s : State} {m : MethodId} {args : Array Value} {below : List Frame} {meth : Method} {c : Code} {G : XG} {X0 : XW} (C0 : XC p s m args meth c RX10 cX10_knows 6 G) (hret : meth.sig.returnType = none) {r : Int32 × XW} {l0 : Nat} {l1 : Int32} {l2 : Int32} {l3 : Int32} {Q : State → Prop} {rec : Int32 → XW → Option (Int32 × XW)} (hrec : ∀ {y4 : Int32} {X : XW} {H : Heap} {locs : List Loc} {ls : Array Slot}, XD G X0 X s H locs → lv_has ls 6 [(0, .ref l0), (1, .int l1), (2, .int l2), (3, .int l3), (4, .int y4)] → rec y4 X = some r → W p l e { frames := 0, cells := 0, slots := 0, locals := 0 } s m args below meth c H locs 0 0 Q (F0 m 10 ls [])) (hK : ∀ {H : Heap} {locs : List Loc} {ls : Array Slot}, XD G X0 r.2 s H locs → lv_has ls 6 [(0, .ref l0), (1, .int l1), (2, .int l2), (3, .int l3), (4, .int r.1)] → W p l e { frames := 0, cells := 0, slots := 0, locals := 0 } s m args below meth c H locs 0 0 Q (F0 m 34 ls []))  {l4 : Int32} {X : XW} {H : Heap} {locs : List Loc} {ls : Array Slot} (W0 : XD G X0 X s H locs) (hl : lv_has ls 6 [(0, .ref l0), (1, .int l1), (2, .int l2), (3, .int l3), (4, .int l4)]) (h : fX10_knows_l10_b rec l0 l1 l2 l3 l4 X = some r) : W p l e { frames := 0, cells := 0, slots := 0, locals := 0 } s m args below meth c H locs 0 0 Q (F0 m 10 ls []) := by
  have hx := C0.1
  have hb := C0.2.1
  unfold fX10_knows_l10_b at h
  refine lv_iload hx hb dX10_knows_10 (lv_at hl 4 rfl) ?_
  refine lv_if_le (tgt := 34) hx hb dX10_knows_12 (by decide) (fun hcq => ?_) (fun hcq => ?_)
  · have h := it_t hcq h
    cases h
    exact hK W0 (lv_sub hl [0, 1, 2, 3, 4] rfl)
  · have h := it_f hcq h
    refine lv_aload_n hx hb dX10_knows_15 rfl (lv_at hl 0 rfl) ?_
    obtain ⟨q1, h2, h⟩ := ob h
    refine xr_getR C0 W0 cl_X10 48 (by decide) fl_X10_168 rfl h2 dX10_knows_16 ?_
    refine lv_iload hx hb dX10_knows_19 (lv_at hl 4 rfl) ?_
    refine lv_iconst (v := 1) hx hb dX10_knows_21 (by decide) ?_
    refine lv_isub hx hb dX10_knows_22 ?_
    obtain ⟨v3, h4, h⟩ := ob h
    refine xr_iald C0 W0 h4 dX10_knows_23 ?_
    refine lv_iload_n hx hb dX10_knows_24 rfl (lv_at hl 3 rfl) ?_
    refine lv_icmp_ne (tgt := 34) hx hb dX10_knows_25 (by decide) (fun hcq => ?_) (fun hcq => ?_)
    · have h := it_f hcq h
      cases h
      exact hK W0 (lv_sub hl [0, 1, 2, 3, 4] rfl)
    · have h := it_t hcq h
      refine lv_iinc (v := (l4 + (-1))) (lv' := [(4, .int (l4 + (-1))), (0, .ref l0), (1, .int l1), (2, .int l2), (3, .int l3)]) hx hb dX10_knows_28 hl (k := 4) rfl (ii (by decide)) (by decide) rfl (fun ls hl => ?_)
      refine lv_goto (tgt := 10) hx hb dX10_knows_31 (by decide) ?_
      exact hrec W0 (lv_sub hl [1, 2, 3, 4, 0] rfl) h
theorem tX10_knows_l10 {p : Program} {l : Launch} {e : Env} {s : State} {m : MethodId} {args : Array Value} {below : List Frame} {meth : Method} {c : Code} {G : XG} {X0 : XW} (C0 : XC p s m args meth c RX10 cX10_knows 6 G) (hret : meth.sig.returnType = none) {r : Int32 × XW} {l0 : Nat} {l1 : Int32} {l2 : Int32} {l3 : Int32} {Q : State → Prop} (hK : ∀ {H : Heap} {locs : List Loc} {ls : Array Slot}, XD G X0 r.2 s H locs → lv_has ls 6 [(0, .ref l0), (1, .int l1), (2, .int l2), (3, .int l3), (4, .int r.1)] → W p l e { frames := 0, cells := 0, slots := 0, locals := 0 } s m args below meth c H locs 0 0 Q (F0 m 34 ls [])) : ∀ (n : Nat) {y4 : Int32} {X : XW} {H : Heap} {locs : List Loc} {ls : Array Slot}, XD G X0 X s H locs → lv_has ls 6 [(0, .ref l0), (1, .int l1), (2, .int l2), (3, .int l3), (4, .int y4)] → fX10_knows_l10 l0 l1 l2 l3 n y4 X = some r → W p l e { frames := 0, cells := 0, slots := 0, locals := 0 } s m args below meth c H locs 0 0 Q (F0 m 10 ls []) := by
  intro n
  induction n with
  | zero =>
    intro y4 X H locs ls W0 hl h
    cases h
  | succ n ih =>
    intro y4 X H locs ls W0 hl h
    exact tX10_knows_l10_b C0 hret (rec := fX10_knows_l10 l0 l1 l2 l3 n) (fun W0 hl h => ih W0 hl h) hK W0 hl h
theorem tX10_knows_j276 {p : Program} {l : Launch} {e : Env} {s : State} {m : MethodId} {args : Array Value} {below : List Frame} {meth : Method} {c : Code} {G : XG} {X0 : XW} (C0 : XC p s m args meth c RX10 cX10_knows 6 G) (hret : meth.sig.returnType = none) {r : XW} {l0 : Nat} {l1 : Int32} {l3 : Int32} {s0 : Int32} {s1 : Int32} {s2 : Nat} {X : XW} {H : Heap} {locs : List Loc} {ls : Array Slot} (W0 : XD G X0 X s H locs) (hl : lv_has ls 6 [(0, .ref l0), (1, .int l1), (3, .int l3)]) (h : fX10_knows_j276 l0 l1 l3 s0 s1 s2 X = some r) : W p l e { frames := 0, cells := 0, slots := 0, locals := 0 } s m args below meth c H locs 0 0 (MQ below (XQ G X0 (none, r)) args s 0 0 (xAd X0)) (F0 m 276 ls [.int s0, .int s1, .ref s2]) := by
  have hx := C0.1
  have hb := C0.2.1
  unfold fX10_knows_j276 at h
  obtain ⟨X1, h2, h⟩ := ob h
  refine xr_iast C0 W0 h2 dX10_knows_276 (fun H locs W0 => ?_)
  refine lv_aload_n hx hb dX10_knows_277 rfl (lv_at hl 0 rfl) ?_
  obtain ⟨q3, h4, h⟩ := ob h
  refine xr_getR C0 W0 cl_X10 26 (by decide) fl_X10_111 rfl h4 dX10_knows_278 ?_
  refine lv_bipush (v := 11) hx hb dX10_knows_281 (by decide) ?_
  refine lv_iload_n hx hb dX10_knows_283 rfl (lv_at hl 2 rfl) ?_
  obtain ⟨X5, h6, h⟩ := ob h
  refine xr_iast C0 W0 h6 dX10_knows_284 (fun H locs W0 => ?_)
  refine lv_aload_n hx hb dX10_knows_285 rfl (lv_at hl 0 rfl) ?_
  obtain ⟨q7, h8, h⟩ := ob h
  refine xr_getR C0 W0 cl_X10 26 (by decide) fl_X10_111 rfl h8 dX10_knows_286 ?_
  refine lv_bipush (v := 12) hx hb dX10_knows_289 (by decide) ?_
  refine lv_aload_n hx hb dX10_knows_291 rfl (lv_at hl 0 rfl) ?_
  obtain ⟨q9, h10, h⟩ := ob h
  refine xr_getR C0 W0 cl_X10 36 (by decide) fl_X10_138 rfl h10 dX10_knows_292 ?_
  refine lv_iload_n hx hb dX10_knows_295 rfl (lv_at hl 1 rfl) ?_
  obtain ⟨v11, h12, h⟩ := ob h
  refine xr_iald C0 W0 h12 dX10_knows_296 ?_
  obtain ⟨X13, h14, h⟩ := ob h
  refine xr_iast C0 W0 h14 dX10_knows_297 (fun H locs W0 => ?_)
  exact xr_vret C0 W0 hret (Option.some.inj h).symm dX10_knows_298
theorem tX10_knows_j236 {p : Program} {l : Launch} {e : Env} {s : State} {m : MethodId} {args : Array Value} {below : List Frame} {meth : Method} {c : Code} {G : XG} {X0 : XW} (C0 : XC p s m args meth c RX10 cX10_knows 6 G) (hret : meth.sig.returnType = none) {r : XW} {l0 : Nat} {l1 : Int32} {l2 : Int32} {l3 : Int32} {s0 : Int32} {s1 : Int32} {s2 : Nat} {X : XW} {H : Heap} {locs : List Loc} {ls : Array Slot} (W0 : XD G X0 X s H locs) (hl : lv_has ls 6 [(0, .ref l0), (1, .int l1), (2, .int l2), (3, .int l3)]) (h : fX10_knows_j236 l0 l1 l2 l3 s0 s1 s2 X = some r) : W p l e { frames := 0, cells := 0, slots := 0, locals := 0 } s m args below meth c H locs 0 0 (MQ below (XQ G X0 (none, r)) args s 0 0 (xAd X0)) (F0 m 236 ls [.int s0, .int s1, .ref s2]) := by
  have hx := C0.1
  have hb := C0.2.1
  unfold fX10_knows_j236 at h
  obtain ⟨X1, h2, h⟩ := ob h
  refine xr_iast C0 W0 h2 dX10_knows_236 (fun H locs W0 => ?_)
  refine lv_aload_n hx hb dX10_knows_237 rfl (lv_at hl 0 rfl) ?_
  obtain ⟨q3, h4, h⟩ := ob h
  refine xr_getR C0 W0 cl_X10 26 (by decide) fl_X10_111 rfl h4 dX10_knows_238 ?_
  refine lv_bipush (v := 9) hx hb dX10_knows_241 (by decide) ?_
  refine lv_aload_n hx hb dX10_knows_243 rfl (lv_at hl 0 rfl) ?_
  obtain ⟨q5, h6, h⟩ := ob h
  refine xr_getR C0 W0 cl_X10 49 (by decide) fl_X10_171 rfl h6 dX10_knows_244 ?_
  refine lv_iload_n hx hb dX10_knows_247 rfl (lv_at hl 2 rfl) ?_
  obtain ⟨v7, h8, h⟩ := ob h
  refine xr_iald C0 W0 h8 dX10_knows_248 ?_
  obtain ⟨X9, h10, h⟩ := ob h
  refine xr_iast C0 W0 h10 dX10_knows_249 (fun H locs W0 => ?_)
  refine lv_aload_n hx hb dX10_knows_250 rfl (lv_at hl 0 rfl) ?_
  obtain ⟨q11, h12, h⟩ := ob h
  refine xr_getR C0 W0 cl_X10 26 (by decide) fl_X10_111 rfl h12 dX10_knows_251 ?_
  refine lv_bipush (v := 10) hx hb dX10_knows_254 (by decide) ?_
  refine lv_aload_n hx hb dX10_knows_256 rfl (lv_at hl 0 rfl) ?_
  obtain ⟨q13, h14, h⟩ := ob h
  refine xr_getR C0 W0 cl_X10 49 (by decide) fl_X10_171 rfl h14 dX10_knows_257 ?_
  refine lv_iload_n hx hb dX10_knows_260 rfl (lv_at hl 2 rfl) ?_
  obtain ⟨v15, h16, h⟩ := ob h
  refine xr_iald C0 W0 h16 dX10_knows_261 ?_
  refine lv_aload_n hx hb dX10_knows_262 rfl (lv_at hl 0 rfl) ?_
  obtain ⟨v17, h18, h⟩ := ob h
  refine xr_getI C0 W0 cl_X10 42 (by decide) fl_X10_300 rfl h18 dX10_knows_263 ?_
  refine lv_iconst (v := 1) hx hb dX10_knows_266 (by decide) ?_
  refine lv_isub hx hb dX10_knows_267 ?_
  refine lv_icmp_ne (tgt := 275) hx hb dX10_knows_268 (by decide) (fun hcq => ?_) (fun hcq => ?_)
  · have h := it_f hcq h
    refine lv_iconst (v := 0) hx hb dX10_knows_275 (by decide) ?_
    exact tX10_knows_j276 C0 hret W0 (lv_sub hl [0, 1, 3] rfl) h
  · have h := it_t hcq h
    refine lv_iconst (v := 1) hx hb dX10_knows_271 (by decide) ?_
    refine lv_goto (tgt := 276) hx hb dX10_knows_272 (by decide) ?_
    exact tX10_knows_j276 C0 hret W0 (lv_sub hl [0, 1, 3] rfl) h
theorem tX10_knows_j210 {p : Program} {l : Launch} {e : Env} {s : State} {m : MethodId} {args : Array Value} {below : List Frame} {meth : Method} {c : Code} {G : XG} {X0 : XW} (C0 : XC p s m args meth c RX10 cX10_knows 6 G) (hret : meth.sig.returnType = none) {r : XW} {l0 : Nat} {l1 : Int32} {l2 : Int32} {l3 : Int32} {s0 : Int32} {s1 : Int32} {s2 : Nat} {X : XW} {H : Heap} {locs : List Loc} {ls : Array Slot} (W0 : XD G X0 X s H locs) (hl : lv_has ls 6 [(0, .ref l0), (1, .int l1), (2, .int l2), (3, .int l3)]) (h : fX10_knows_j210 l0 l1 l2 l3 s0 s1 s2 X = some r) : W p l e { frames := 0, cells := 0, slots := 0, locals := 0 } s m args below meth c H locs 0 0 (MQ below (XQ G X0 (none, r)) args s 0 0 (xAd X0)) (F0 m 210 ls [.int s0, .int s1, .ref s2]) := by
  have hx := C0.1
  have hb := C0.2.1
  unfold fX10_knows_j210 at h
  obtain ⟨X1, h2, h⟩ := ob h
  refine xr_iast C0 W0 h2 dX10_knows_210 (fun H locs W0 => ?_)
  refine lv_aload_n hx hb dX10_knows_211 rfl (lv_at hl 0 rfl) ?_
  obtain ⟨q3, h4, h⟩ := ob h
  refine xr_getR C0 W0 cl_X10 26 (by decide) fl_X10_111 rfl h4 dX10_knows_212 ?_
  refine lv_bipush (v := 8) hx hb dX10_knows_215 (by decide) ?_
  refine lv_aload_n hx hb dX10_knows_217 rfl (lv_at hl 0 rfl) ?_
  obtain ⟨q5, h6, h⟩ := ob h
  refine xr_getR C0 W0 cl_X10 35 (by decide) fl_X10_135 rfl h6 dX10_knows_218 ?_
  refine lv_bipush (v := 16) hx hb dX10_knows_221 (by decide) ?_
  refine lv_iload_n hx hb dX10_knows_223 rfl (lv_at hl 1 rfl) ?_
  refine lv_imul hx hb dX10_knows_224 ?_
  refine lv_iload_n hx hb dX10_knows_225 rfl (lv_at hl 3 rfl) ?_
  refine lv_iadd hx hb dX10_knows_226 ?_
  obtain ⟨v7, h8, h⟩ := ob h
  refine xr_zald C0 W0 h8 dX10_knows_227 ?_
  refine lv_if_eq (tgt := 235) hx hb dX10_knows_228 (by decide) (fun hcq => ?_) (fun hcq => ?_)
  · have h := it_t hcq h
    refine lv_iconst (v := 0) hx hb dX10_knows_235 (by decide) ?_
    exact tX10_knows_j236 C0 hret W0 (lv_sub hl [0, 1, 2, 3] rfl) h
  · have h := it_f hcq h
    refine lv_iconst (v := 1) hx hb dX10_knows_231 (by decide) ?_
    refine lv_goto (tgt := 236) hx hb dX10_knows_232 (by decide) ?_
    exact tX10_knows_j236 C0 hret W0 (lv_sub hl [0, 1, 2, 3] rfl) h
theorem tX10_knows_j184 {p : Program} {l : Launch} {e : Env} {s : State} {m : MethodId} {args : Array Value} {below : List Frame} {meth : Method} {c : Code} {G : XG} {X0 : XW} (C0 : XC p s m args meth c RX10 cX10_knows 6 G) (hret : meth.sig.returnType = none) {r : XW} {l0 : Nat} {l1 : Int32} {l2 : Int32} {l3 : Int32} {s0 : Int32} {s1 : Int32} {s2 : Nat} {X : XW} {H : Heap} {locs : List Loc} {ls : Array Slot} (W0 : XD G X0 X s H locs) (hl : lv_has ls 6 [(0, .ref l0), (1, .int l1), (2, .int l2), (3, .int l3)]) (h : fX10_knows_j184 l0 l1 l2 l3 s0 s1 s2 X = some r) : W p l e { frames := 0, cells := 0, slots := 0, locals := 0 } s m args below meth c H locs 0 0 (MQ below (XQ G X0 (none, r)) args s 0 0 (xAd X0)) (F0 m 184 ls [.int s0, .int s1, .ref s2]) := by
  have hx := C0.1
  have hb := C0.2.1
  unfold fX10_knows_j184 at h
  obtain ⟨X1, h2, h⟩ := ob h
  refine xr_iast C0 W0 h2 dX10_knows_184 (fun H locs W0 => ?_)
  refine lv_aload_n hx hb dX10_knows_185 rfl (lv_at hl 0 rfl) ?_
  obtain ⟨q3, h4, h⟩ := ob h
  refine xr_getR C0 W0 cl_X10 26 (by decide) fl_X10_111 rfl h4 dX10_knows_186 ?_
  refine lv_bipush (v := 7) hx hb dX10_knows_189 (by decide) ?_
  refine lv_aload_n hx hb dX10_knows_191 rfl (lv_at hl 0 rfl) ?_
  obtain ⟨q5, h6, h⟩ := ob h
  refine xr_getR C0 W0 cl_X10 34 (by decide) fl_X10_132 rfl h6 dX10_knows_192 ?_
  refine lv_bipush (v := 16) hx hb dX10_knows_195 (by decide) ?_
  refine lv_iload_n hx hb dX10_knows_197 rfl (lv_at hl 1 rfl) ?_
  refine lv_imul hx hb dX10_knows_198 ?_
  refine lv_iload_n hx hb dX10_knows_199 rfl (lv_at hl 3 rfl) ?_
  refine lv_iadd hx hb dX10_knows_200 ?_
  obtain ⟨v7, h8, h⟩ := ob h
  refine xr_zald C0 W0 h8 dX10_knows_201 ?_
  refine lv_if_eq (tgt := 209) hx hb dX10_knows_202 (by decide) (fun hcq => ?_) (fun hcq => ?_)
  · have h := it_t hcq h
    refine lv_iconst (v := 0) hx hb dX10_knows_209 (by decide) ?_
    exact tX10_knows_j210 C0 hret W0 (lv_sub hl [0, 1, 2, 3] rfl) h
  · have h := it_f hcq h
    refine lv_iconst (v := 1) hx hb dX10_knows_205 (by decide) ?_
    refine lv_goto (tgt := 210) hx hb dX10_knows_206 (by decide) ?_
    exact tX10_knows_j210 C0 hret W0 (lv_sub hl [0, 1, 2, 3] rfl) h
theorem tX10_knows_j183 {p : Program} {l : Launch} {e : Env} {s : State} {m : MethodId} {args : Array Value} {below : List Frame} {meth : Method} {c : Code} {G : XG} {X0 : XW} (C0 : XC p s m args meth c RX10 cX10_knows 6 G) (hret : meth.sig.returnType = none) {r : XW} {l0 : Nat} {l1 : Int32} {l2 : Int32} {l3 : Int32} {s0 : Int32} {s1 : Nat} {X : XW} {H : Heap} {locs : List Loc} {ls : Array Slot} (W0 : XD G X0 X s H locs) (hl : lv_has ls 6 [(0, .ref l0), (1, .int l1), (2, .int l2), (3, .int l3)]) (h : fX10_knows_j183 l0 l1 l2 l3 s0 s1 X = some r) : W p l e { frames := 0, cells := 0, slots := 0, locals := 0 } s m args below meth c H locs 0 0 (MQ below (XQ G X0 (none, r)) args s 0 0 (xAd X0)) (F0 m 183 ls [.int s0, .ref s1]) := by
  have hx := C0.1
  have hb := C0.2.1
  unfold fX10_knows_j183 at h
  refine lv_iconst (v := 0) hx hb dX10_knows_183 (by decide) ?_
  exact tX10_knows_j184 C0 hret W0 (lv_sub hl [0, 1, 2, 3] rfl) h
theorem tX10_knows_j158 {p : Program} {l : Launch} {e : Env} {s : State} {m : MethodId} {args : Array Value} {below : List Frame} {meth : Method} {c : Code} {G : XG} {X0 : XW} (C0 : XC p s m args meth c RX10 cX10_knows 6 G) (hret : meth.sig.returnType = none) {r : XW} {l0 : Nat} {l1 : Int32} {l2 : Int32} {l3 : Int32} {l5 : Int32} {s0 : Int32} {s1 : Int32} {s2 : Nat} {X : XW} {H : Heap} {locs : List Loc} {ls : Array Slot} (W0 : XD G X0 X s H locs) (hl : lv_has ls 6 [(0, .ref l0), (1, .int l1), (2, .int l2), (3, .int l3), (5, .int l5)]) (h : fX10_knows_j158 l0 l1 l2 l3 l5 s0 s1 s2 X = some r) : W p l e { frames := 0, cells := 0, slots := 0, locals := 0 } s m args below meth c H locs 0 0 (MQ below (XQ G X0 (none, r)) args s 0 0 (xAd X0)) (F0 m 158 ls [.int s0, .int s1, .ref s2]) := by
  have hx := C0.1
  have hb := C0.2.1
  unfold fX10_knows_j158 at h
  obtain ⟨X1, h2, h⟩ := ob h
  refine xr_iast C0 W0 h2 dX10_knows_158 (fun H locs W0 => ?_)
  refine lv_aload_n hx hb dX10_knows_159 rfl (lv_at hl 0 rfl) ?_
  obtain ⟨q3, h4, h⟩ := ob h
  refine xr_getR C0 W0 cl_X10 26 (by decide) fl_X10_111 rfl h4 dX10_knows_160 ?_
  refine lv_bipush (v := 6) hx hb dX10_knows_163 (by decide) ?_
  refine lv_iload hx hb dX10_knows_165 (lv_at hl 4 rfl) ?_
  refine lv_if_eq (tgt := 183) hx hb dX10_knows_167 (by decide) (fun hcq => ?_) (fun hcq => ?_)
  · have h := it_t hcq h
    exact tX10_knows_j183 C0 hret W0 (lv_sub hl [0, 1, 2, 3] rfl) h
  · have h := it_f hcq h
    refine lv_aload_n hx hb dX10_knows_170 rfl (lv_at hl 0 rfl) ?_
    obtain ⟨q5, h6, h⟩ := ob h
    refine xr_getR C0 W0 cl_X10 46 (by decide) fl_X10_165 rfl h6 dX10_knows_171 ?_
    refine lv_iload_n hx hb dX10_knows_174 rfl (lv_at hl 3 rfl) ?_
    obtain ⟨v7, h8, h⟩ := ob h
    refine xr_zald C0 W0 h8 dX10_knows_175 ?_
    refine lv_if_eq (tgt := 183) hx hb dX10_knows_176 (by decide) (fun hcq => ?_) (fun hcq => ?_)
    · have h := it_t hcq h
      exact tX10_knows_j183 C0 hret W0 (lv_sub hl [0, 1, 2, 3] rfl) h
    · have h := it_f hcq h
      refine lv_iconst (v := 1) hx hb dX10_knows_179 (by decide) ?_
      refine lv_goto (tgt := 184) hx hb dX10_knows_180 (by decide) ?_
      exact tX10_knows_j184 C0 hret W0 (lv_sub hl [0, 1, 2, 3] rfl) h
theorem tX10_knows_j57 {p : Program} {l : Launch} {e : Env} {s : State} {m : MethodId} {args : Array Value} {below : List Frame} {meth : Method} {c : Code} {G : XG} {X0 : XW} (C0 : XC p s m args meth c RX10 cX10_knows 6 G) (hret : meth.sig.returnType = none) {r : XW} {l0 : Nat} {l1 : Int32} {l2 : Int32} {l3 : Int32} {s0 : Int32} {X : XW} {H : Heap} {locs : List Loc} {ls : Array Slot} (W0 : XD G X0 X s H locs) (hl : lv_has ls 6 [(0, .ref l0), (1, .int l1), (2, .int l2), (3, .int l3)]) (h : fX10_knows_j57 l0 l1 l2 l3 s0 X = some r) : W p l e { frames := 0, cells := 0, slots := 0, locals := 0 } s m args below meth c H locs 0 0 (MQ below (XQ G X0 (none, r)) args s 0 0 (xAd X0)) (F0 m 57 ls [.int s0]) := by
  have hx := C0.1
  have hb := C0.2.1
  unfold fX10_knows_j57 at h
  refine lv_istore (lv' := [(5, .int s0), (0, .ref l0), (1, .int l1), (2, .int l2), (3, .int l3)]) hx hb dX10_knows_57 hl (by decide) rfl (fun ls hl => ?_)
  refine lv_aload_n hx hb dX10_knows_59 rfl (lv_at hl 1 rfl) ?_
  obtain ⟨q1, h2, h⟩ := ob h
  refine xr_getR C0 W0 cl_X10 26 (by decide) fl_X10_111 rfl h2 dX10_knows_60 ?_
  refine lv_iconst (v := 0) hx hb dX10_knows_63 (by decide) ?_
  refine lv_aload_n hx hb dX10_knows_64 rfl (lv_at hl 1 rfl) ?_
  obtain ⟨q3, h4, h⟩ := ob h
  refine xr_getR C0 W0 cl_X10 52 (by decide) fl_X10_180 rfl h4 dX10_knows_65 ?_
  refine lv_iconst (v := 3) hx hb dX10_knows_68 (by decide) ?_
  refine lv_iload_n hx hb dX10_knows_69 rfl (lv_at hl 3 rfl) ?_
  refine lv_imul hx hb dX10_knows_70 ?_
  obtain ⟨v5, h6, h⟩ := ob h
  refine xr_iald C0 W0 h6 dX10_knows_71 ?_
  obtain ⟨X7, h8, h⟩ := ob h
  refine xr_iast C0 W0 h8 dX10_knows_72 (fun H locs W0 => ?_)
  refine lv_aload_n hx hb dX10_knows_73 rfl (lv_at hl 1 rfl) ?_
  obtain ⟨q9, h10, h⟩ := ob h
  refine xr_getR C0 W0 cl_X10 26 (by decide) fl_X10_111 rfl h10 dX10_knows_74 ?_
  refine lv_iconst (v := 1) hx hb dX10_knows_77 (by decide) ?_
  refine lv_aload_n hx hb dX10_knows_78 rfl (lv_at hl 1 rfl) ?_
  obtain ⟨q11, h12, h⟩ := ob h
  refine xr_getR C0 W0 cl_X10 52 (by decide) fl_X10_180 rfl h12 dX10_knows_79 ?_
  refine lv_iconst (v := 3) hx hb dX10_knows_82 (by decide) ?_
  refine lv_iload_n hx hb dX10_knows_83 rfl (lv_at hl 3 rfl) ?_
  refine lv_imul hx hb dX10_knows_84 ?_
  refine lv_iconst (v := 1) hx hb dX10_knows_85 (by decide) ?_
  refine lv_iadd hx hb dX10_knows_86 ?_
  obtain ⟨v13, h14, h⟩ := ob h
  refine xr_iald C0 W0 h14 dX10_knows_87 ?_
  obtain ⟨X15, h16, h⟩ := ob h
  refine xr_iast C0 W0 h16 dX10_knows_88 (fun H locs W0 => ?_)
  refine lv_aload_n hx hb dX10_knows_89 rfl (lv_at hl 1 rfl) ?_
  obtain ⟨q17, h18, h⟩ := ob h
  refine xr_getR C0 W0 cl_X10 26 (by decide) fl_X10_111 rfl h18 dX10_knows_90 ?_
  refine lv_iconst (v := 2) hx hb dX10_knows_93 (by decide) ?_
  refine lv_aload_n hx hb dX10_knows_94 rfl (lv_at hl 1 rfl) ?_
  obtain ⟨q19, h20, h⟩ := ob h
  refine xr_getR C0 W0 cl_X10 52 (by decide) fl_X10_180 rfl h20 dX10_knows_95 ?_
  refine lv_iconst (v := 3) hx hb dX10_knows_98 (by decide) ?_
  refine lv_iload_n hx hb dX10_knows_99 rfl (lv_at hl 3 rfl) ?_
  refine lv_imul hx hb dX10_knows_100 ?_
  refine lv_iconst (v := 2) hx hb dX10_knows_101 (by decide) ?_
  refine lv_iadd hx hb dX10_knows_102 ?_
  obtain ⟨v21, h22, h⟩ := ob h
  refine xr_iald C0 W0 h22 dX10_knows_103 ?_
  obtain ⟨X23, h24, h⟩ := ob h
  refine xr_iast C0 W0 h24 dX10_knows_104 (fun H locs W0 => ?_)
  refine lv_aload_n hx hb dX10_knows_105 rfl (lv_at hl 1 rfl) ?_
  obtain ⟨q25, h26, h⟩ := ob h
  refine xr_getR C0 W0 cl_X10 26 (by decide) fl_X10_111 rfl h26 dX10_knows_106 ?_
  refine lv_iconst (v := 3) hx hb dX10_knows_109 (by decide) ?_
  refine lv_aload_n hx hb dX10_knows_110 rfl (lv_at hl 1 rfl) ?_
  obtain ⟨q27, h28, h⟩ := ob h
  refine xr_getR C0 W0 cl_X10 50 (by decide) fl_X10_174 rfl h28 dX10_knows_111 ?_
  refine lv_iload_n hx hb dX10_knows_114 rfl (lv_at hl 3 rfl) ?_
  obtain ⟨v29, h30, h⟩ := ob h
  refine xr_iald C0 W0 h30 dX10_knows_115 ?_
  obtain ⟨X31, h32, h⟩ := ob h
  refine xr_iast C0 W0 h32 dX10_knows_116 (fun H locs W0 => ?_)
  refine lv_aload_n hx hb dX10_knows_117 rfl (lv_at hl 1 rfl) ?_
  obtain ⟨q33, h34, h⟩ := ob h
  refine xr_getR C0 W0 cl_X10 26 (by decide) fl_X10_111 rfl h34 dX10_knows_118 ?_
  refine lv_iconst (v := 4) hx hb dX10_knows_121 (by decide) ?_
  refine lv_aload_n hx hb dX10_knows_122 rfl (lv_at hl 1 rfl) ?_
  obtain ⟨q35, h36, h⟩ := ob h
  refine xr_getR C0 W0 cl_X10 45 (by decide) fl_X10_162 rfl h36 dX10_knows_123 ?_
  refine lv_aload_n hx hb dX10_knows_126 rfl (lv_at hl 1 rfl) ?_
  obtain ⟨q37, h38, h⟩ := ob h
  refine xr_getR C0 W0 cl_X10 49 (by decide) fl_X10_171 rfl h38 dX10_knows_127 ?_
  refine lv_iload_n hx hb dX10_knows_130 rfl (lv_at hl 3 rfl) ?_
  obtain ⟨v39, h40, h⟩ := ob h
  refine xr_iald C0 W0 h40 dX10_knows_131 ?_
  obtain ⟨v41, h42, h⟩ := ob h
  refine xr_iald C0 W0 h42 dX10_knows_132 ?_
  refine lv_iconst (v := 1) hx hb dX10_knows_133 (by decide) ?_
  refine lv_isub hx hb dX10_knows_134 ?_
  refine lv_aload_n hx hb dX10_knows_135 rfl (lv_at hl 1 rfl) ?_
  obtain ⟨q43, h44, h⟩ := ob h
  refine xr_getR C0 W0 cl_X10 50 (by decide) fl_X10_174 rfl h44 dX10_knows_136 ?_
  refine lv_iload_n hx hb dX10_knows_139 rfl (lv_at hl 3 rfl) ?_
  obtain ⟨v45, h46, h⟩ := ob h
  refine xr_iald C0 W0 h46 dX10_knows_140 ?_
  refine lv_isub hx hb dX10_knows_141 ?_
  obtain ⟨X47, h48, h⟩ := ob h
  refine xr_iast C0 W0 h48 dX10_knows_142 (fun H locs W0 => ?_)
  refine lv_aload_n hx hb dX10_knows_143 rfl (lv_at hl 1 rfl) ?_
  obtain ⟨q49, h50, h⟩ := ob h
  refine xr_getR C0 W0 cl_X10 26 (by decide) fl_X10_111 rfl h50 dX10_knows_144 ?_
  refine lv_iconst (v := 5) hx hb dX10_knows_147 (by decide) ?_
  refine lv_iload hx hb dX10_knows_148 (lv_at hl 0 rfl) ?_
  refine lv_if_eq (tgt := 157) hx hb dX10_knows_150 (by decide) (fun hcq => ?_) (fun hcq => ?_)
  · have h := it_t hcq h
    refine lv_iconst (v := 0) hx hb dX10_knows_157 (by decide) ?_
    exact tX10_knows_j158 C0 hret W0 (lv_sub hl [1, 2, 3, 4, 0] rfl) h
  · have h := it_f hcq h
    refine lv_iconst (v := 1) hx hb dX10_knows_153 (by decide) ?_
    refine lv_goto (tgt := 158) hx hb dX10_knows_154 (by decide) ?_
    exact tX10_knows_j158 C0 hret W0 (lv_sub hl [1, 2, 3, 4, 0] rfl) h
theorem ctX10_knows (l : Launch) (G : XG) {l0 : Nat} {l1 : Int32} {l2 : Int32} {X : XW} {r : XW}  (h : fX10_knows l0 l1 l2 X = some r) : XM l G yX10_knows cX10_knows 6 none 0 0 0 0 [.ref l0, .int l1, .int l2] X (none, r) := by
  refine xm_of (own := RX10) (by decide) rfl (Nat.le_of_ble_eq_true rfl) ?_
  intro p e s m below meth c ls C0 W0 hret hnm hl
  have hx := C0.1
  have hb := C0.2.1
  have hl : lv_has ls 6 [(0, .ref l0), (1, .int l1), (2, .int l2)] := hl
  unfold fX10_knows at h
  refine lv_aload_n hx hb dX10_knows_0 rfl (lv_at hl 0 rfl) ?_
  obtain ⟨q1, h2, h⟩ := ob h
  refine xr_getR C0 W0 cl_X10 48 (by decide) fl_X10_168 rfl h2 dX10_knows_1 ?_
  refine lv_iload_n hx hb dX10_knows_4 rfl (lv_at hl 2 rfl) ?_
  obtain ⟨v3, h4, h⟩ := ob h
  refine xr_iald C0 W0 h4 dX10_knows_5 ?_
  refine lv_istore_n (lv' := [(3, .int v3), (0, .ref l0), (1, .int l1), (2, .int l2)]) hx hb dX10_knows_6 rfl hl (by decide) rfl (fun ls hl => ?_)
  refine lv_iload_n hx hb dX10_knows_7 rfl (lv_at hl 3 rfl) ?_
  refine lv_istore (lv' := [(4, .int l2), (3, .int v3), (0, .ref l0), (1, .int l1), (2, .int l2)]) hx hb dX10_knows_8 hl (by decide) rfl (fun ls hl => ?_)
  obtain ⟨r5, h6, h⟩ := ob h
  refine tX10_knows_l10 C0 hret (fun {H} {locs} {ls} W0 hl => ?_) FU W0 (lv_sub hl [2, 3, 4, 1, 0] rfl) h6
  refine lv_iload_n hx hb dX10_knows_34 rfl (lv_at hl 2 rfl) ?_
  refine lv_iload hx hb dX10_knows_35 (lv_at hl 4 rfl) ?_
  refine lv_isub hx hb dX10_knows_37 ?_
  refine lv_aload_n hx hb dX10_knows_38 rfl (lv_at hl 0 rfl) ?_
  obtain ⟨q7, h8, h⟩ := ob h
  refine xr_getR C0 W0 cl_X10 32 (by decide) fl_X10_126 rfl h8 dX10_knows_39 ?_
  refine lv_bipush (v := 16) hx hb dX10_knows_42 (by decide) ?_
  refine lv_iload_n hx hb dX10_knows_44 rfl (lv_at hl 1 rfl) ?_
  refine lv_imul hx hb dX10_knows_45 ?_
  refine lv_iload_n hx hb dX10_knows_46 rfl (lv_at hl 3 rfl) ?_
  refine lv_iadd hx hb dX10_knows_47 ?_
  obtain ⟨v9, h10, h⟩ := ob h
  refine xr_iald C0 W0 h10 dX10_knows_48 ?_
  refine lv_icmp_ne (tgt := 56) hx hb dX10_knows_49 (by decide) (fun hcq => ?_) (fun hcq => ?_)
  · have h := it_f hcq h
    refine lv_iconst (v := 0) hx hb dX10_knows_56 (by decide) ?_
    exact tX10_knows_j57 C0 hret W0 (lv_sub hl [0, 1, 2, 3] rfl) h
  · have h := it_t hcq h
    refine lv_iconst (v := 1) hx hb dX10_knows_52 (by decide) ?_
    refine lv_goto (tgt := 57) hx hb dX10_knows_53 (by decide) ?_
    exact tX10_knows_j57 C0 hret W0 (lv_sub hl [0, 1, 2, 3] rfl) h
def fX10_within (l0 : Int32) (l1 : Int32) (l2 : Int32) (X : XW) : Option (Int32 × XW) :=
  if (l1 ≤ l0 : Prop) then (if (l0 ≤ l2 : Prop) then (some (l0, X))
    else (some (l2, X)))
  else (some (l1, X))
theorem ctX10_within (l : Launch) (G : XG) {l0 : Int32} {l1 : Int32} {l2 : Int32} {X : XW} {r : Int32 × XW}  (h : fX10_within l0 l1 l2 X = some r) : XM l G yX10_within cX10_within 3 (some .int) 0 0 0 0 [.int l0, .int l1, .int l2] X (some (.int r.1), r.2) := by
  refine xm_of (own := RX10) (by decide) rfl (Nat.le_of_ble_eq_true rfl) ?_
  intro p e s m below meth c ls C0 W0 hret hnm hl
  have hx := C0.1
  have hb := C0.2.1
  have hl : lv_has ls 3 [(0, .int l0), (1, .int l1), (2, .int l2)] := hl
  unfold fX10_within at h
  refine lv_iload_n hx hb dX10_within_0 rfl (lv_at hl 0 rfl) ?_
  refine lv_iload_n hx hb dX10_within_1 rfl (lv_at hl 1 rfl) ?_
  refine lv_icmp_ge (tgt := 9) hx hb dX10_within_2 (by decide) (fun hcq => ?_) (fun hcq => ?_)
  · have h := it_t hcq h
    refine lv_iload_n hx hb dX10_within_9 rfl (lv_at hl 0 rfl) ?_
    refine lv_iload_n hx hb dX10_within_10 rfl (lv_at hl 2 rfl) ?_
    refine lv_icmp_le (tgt := 18) hx hb dX10_within_11 (by decide) (fun hcq => ?_) (fun hcq => ?_)
    · have h := it_t hcq h
      refine lv_iload_n hx hb dX10_within_18 rfl (lv_at hl 0 rfl) ?_
      exact xr_iret C0 W0 hret (Option.some.inj h) dX10_within_19
    · have h := it_f hcq h
      refine lv_iload_n hx hb dX10_within_14 rfl (lv_at hl 2 rfl) ?_
      refine lv_goto (tgt := 19) hx hb dX10_within_15 (by decide) ?_
      exact xr_iret C0 W0 hret (Option.some.inj h) dX10_within_19
  · have h := it_f hcq h
    refine lv_iload_n hx hb dX10_within_5 rfl (lv_at hl 1 rfl) ?_
    refine lv_goto (tgt := 19) hx hb dX10_within_6 (by decide) ?_
    exact xr_iret C0 W0 hret (Option.some.inj h) dX10_within_19
def fX10_works_j156 (rec : Int32 → XW → Option (XW)) (l0 : Nat) (l1 : Int32) (l2 : Int32) (l3 : Int32) (X : XW) : Option (XW) :=
  rec (l3 + 1) X
def fX10_works_j155 (rec : Int32 → XW → Option (XW)) (l0 : Nat) (l1 : Int32) (l2 : Int32) (l3 : Int32) (s0 : Int32) (s1 : Int32) (s2 : Nat) (X : XW) : Option (XW) :=
  uI X s2 s1 s0 >>= fun X1 =>
  fX10_works_j156 rec l0 l1 l2 l3 X1
def fX10_works_j98 (rec : Int32 → XW → Option (XW)) (l0 : Nat) (l1 : Int32) (l2 : Int32) (l3 : Int32) (l4 : Int32) (s0 : Int32) (s1 : Int32) (X : XW) : Option (XW) :=
  gR X l0 10 52 >>= fun q1 =>
  if (l4 = 0 : Prop) then (fX10_within (s1 + s0) 1 99 X >>= fun r7 =>
    fX10_works_j155 rec l0 l1 l2 l3 r7.1 ((3 * l3) + l4) q1 r7.2)
  else (if (l4 = 1 : Prop) then (fX10_within (s1 + s0) (-999) 999 X >>= fun r5 =>
      fX10_works_j155 rec l0 l1 l2 l3 r5.1 ((3 * l3) + l4) q1 r5.2)
    else (fX10_within (s1 + s0) 0 9 X >>= fun r3 =>
      fX10_works_j155 rec l0 l1 l2 l3 r3.1 ((3 * l3) + l4) q1 r3.2))
def fX10_works_j55 (rec : Int32 → XW → Option (XW)) (l0 : Nat) (l1 : Int32) (l2 : Int32) (l3 : Int32) (l4 : Int32) (X : XW) : Option (XW) :=
  gI X l0 10 10 >>= fun v1 =>
  gR X l0 10 17 >>= fun q3 =>
  aI X q3 1 l2 >>= fun v5 =>
  gK X l0 10 >>= fun u7 =>
  fX10_worth l0 ((1060 * v1) + v5) X >>= fun r9 =>
  gR r9.2 l0 10 15 >>= fun q11 =>
  aI r9.2 q11 3 l2 >>= fun v13 =>
  if (v13 = 0 : Prop) then (fX10_works_j98 rec l0 l1 l2 l3 l4 0 r9.1 r9.2)
  else (gR r9.2 l0 10 52 >>= fun q15 =>
    aI r9.2 q15 1 ((3 * l3) + l4) >>= fun v17 =>
    fX10_works_j98 rec l0 l1 l2 l3 l4 v17 r9.1 r9.2)
def fX10_works_l2_b (rec : Int32 → XW → Option (XW)) (l0 : Nat) (l1 : Int32) (l2 : Int32) (l3 : Int32) (X : XW) : Option (XW) :=
  gI X l0 10 47 >>= fun v1 =>
  if (v1 ≤ l3 : Prop) then (some (X))
  else (gK X l0 10 >>= fun u3 =>
    fX10_knows l0 l1 l3 X >>= fun X5 =>
    gR X5 l0 10 16 >>= fun q7 =>
    aI X5 q7 1 l2 >>= fun v9 =>
    gR X5 l0 10 18 >>= fun q11 =>
    aI X5 q11 1 l2 >>= fun v13 =>
    if (v13 < 0 : Prop) then (fX10_works_j55 rec l0 l1 l2 l3 v9 X5)
    else (gI X5 l0 10 10 >>= fun v15 =>
      gR X5 l0 10 18 >>= fun q17 =>
      aI X5 q17 1 l2 >>= fun v19 =>
      gK X5 l0 10 >>= fun u21 =>
      fX10_worth l0 ((1060 * v15) + v19) X5 >>= fun r23 =>
      if (r23.1 = 0 : Prop) then (fX10_works_j156 rec l0 l1 l2 l3 r23.2)
      else (fX10_works_j55 rec l0 l1 l2 l3 v9 r23.2)))
def fX10_works_l2 (l0 : Nat) (l1 : Int32) (l2 : Int32) (n : Nat) : Int32 → XW → Option (XW) := iter (fun rec => fX10_works_l2_b rec l0 l1 l2) (fun _ _ => none) n
def fX10_works (l0 : Nat) (l1 : Int32) (l2 : Int32) (X : XW) : Option (XW) :=
  fX10_works_l2 l0 l1 l2 FU 0 X >>= fun r1 =>
  some r1
theorem tX10_works_j156 {p : Program} {l : Launch} {e : Env} {s : State} {m : MethodId} {args : Array Value} {below : List Frame} {meth : Method} {c : Code} {G : XG} {X0 : XW} (C0 : XC p s m args meth c RX10 cX10_works 6 G) (hret : meth.sig.returnType = none) {r : XW} {l0 : Nat} {l1 : Int32} {l2 : Int32} {Q : State → Prop} {rec : Int32 → XW → Option (XW)} (hrec : ∀ {y3 : Int32} {X : XW} {H : Heap} {locs : List Loc} {ls : Array Slot}, XD G X0 X s H locs → lv_has ls 6 [(0, .ref l0), (1, .int l1), (2, .int l2), (3, .int y3)] → rec y3 X = some r → W p l e { frames := 1, cells := 0, slots := 0, locals := 60 } s m args below meth c H locs 0 0 Q (F0 m 2 ls [])) (hK : ∀ {H : Heap} {locs : List Loc} {ls : Array Slot}, XD G X0 r s H locs → lv_has ls 6 [] → W p l e { frames := 1, cells := 0, slots := 0, locals := 60 } s m args below meth c H locs 0 0 Q (F0 m 162 ls []))  {l3 : Int32} {X : XW} {H : Heap} {locs : List Loc} {ls : Array Slot} (W0 : XD G X0 X s H locs) (hl : lv_has ls 6 [(0, .ref l0), (1, .int l1), (2, .int l2), (3, .int l3)]) (h : fX10_works_j156 rec l0 l1 l2 l3 X = some r) : W p l e { frames := 1, cells := 0, slots := 0, locals := 60 } s m args below meth c H locs 0 0 Q (F0 m 156 ls []) := by
  have hx := C0.1
  have hb := C0.2.1
  unfold fX10_works_j156 at h
  refine lv_iinc (v := (l3 + 1)) (lv' := [(3, .int (l3 + 1)), (0, .ref l0), (1, .int l1), (2, .int l2)]) hx hb dX10_works_156 hl (k := 3) rfl (ii (by decide)) (by decide) rfl (fun ls hl => ?_)
  refine lv_goto (tgt := 2) hx hb dX10_works_159 (by decide) ?_
  exact hrec W0 (lv_sub hl [1, 2, 3, 0] rfl) h
theorem tX10_works_j155 {p : Program} {l : Launch} {e : Env} {s : State} {m : MethodId} {args : Array Value} {below : List Frame} {meth : Method} {c : Code} {G : XG} {X0 : XW} (C0 : XC p s m args meth c RX10 cX10_works 6 G) (hret : meth.sig.returnType = none) {r : XW} {l0 : Nat} {l1 : Int32} {l2 : Int32} {Q : State → Prop} {rec : Int32 → XW → Option (XW)} (hrec : ∀ {y3 : Int32} {X : XW} {H : Heap} {locs : List Loc} {ls : Array Slot}, XD G X0 X s H locs → lv_has ls 6 [(0, .ref l0), (1, .int l1), (2, .int l2), (3, .int y3)] → rec y3 X = some r → W p l e { frames := 1, cells := 0, slots := 0, locals := 60 } s m args below meth c H locs 0 0 Q (F0 m 2 ls [])) (hK : ∀ {H : Heap} {locs : List Loc} {ls : Array Slot}, XD G X0 r s H locs → lv_has ls 6 [] → W p l e { frames := 1, cells := 0, slots := 0, locals := 60 } s m args below meth c H locs 0 0 Q (F0 m 162 ls []))  {l3 : Int32} {s0 : Int32} {s1 : Int32} {s2 : Nat} {X : XW} {H : Heap} {locs : List Loc} {ls : Array Slot} (W0 : XD G X0 X s H locs) (hl : lv_has ls 6 [(0, .ref l0), (1, .int l1), (2, .int l2), (3, .int l3)]) (h : fX10_works_j155 rec l0 l1 l2 l3 s0 s1 s2 X = some r) : W p l e { frames := 1, cells := 0, slots := 0, locals := 60 } s m args below meth c H locs 0 0 Q (F0 m 155 ls [.int s0, .int s1, .ref s2]) := by
  have hx := C0.1
  have hb := C0.2.1
  unfold fX10_works_j155 at h
  obtain ⟨X1, h2, h⟩ := ob h
  refine xr_iast C0 W0 h2 dX10_works_155 (fun H locs W0 => ?_)
  exact tX10_works_j156 C0 hret hrec hK W0 (lv_sub hl [0, 1, 2, 3] rfl) h
theorem tX10_works_j98 {p : Program} {l : Launch} {e : Env} {s : State} {m : MethodId} {args : Array Value} {below : List Frame} {meth : Method} {c : Code} {G : XG} {X0 : XW} (C0 : XC p s m args meth c RX10 cX10_works 6 G) (hret : meth.sig.returnType = none) {r : XW} {l0 : Nat} {l1 : Int32} {l2 : Int32} {Q : State → Prop} {rec : Int32 → XW → Option (XW)} (hrec : ∀ {y3 : Int32} {X : XW} {H : Heap} {locs : List Loc} {ls : Array Slot}, XD G X0 X s H locs → lv_has ls 6 [(0, .ref l0), (1, .int l1), (2, .int l2), (3, .int y3)] → rec y3 X = some r → W p l e { frames := 1, cells := 0, slots := 0, locals := 60 } s m args below meth c H locs 0 0 Q (F0 m 2 ls [])) (hK : ∀ {H : Heap} {locs : List Loc} {ls : Array Slot}, XD G X0 r s H locs → lv_has ls 6 [] → W p l e { frames := 1, cells := 0, slots := 0, locals := 60 } s m args below meth c H locs 0 0 Q (F0 m 162 ls []))  {l3 : Int32} {l4 : Int32} {s0 : Int32} {s1 : Int32} {X : XW} {H : Heap} {locs : List Loc} {ls : Array Slot} (W0 : XD G X0 X s H locs) (hl : lv_has ls 6 [(0, .ref l0), (1, .int l1), (2, .int l2), (3, .int l3), (4, .int l4)]) (h : fX10_works_j98 rec l0 l1 l2 l3 l4 s0 s1 X = some r) : W p l e { frames := 1, cells := 0, slots := 0, locals := 60 } s m args below meth c H locs 0 0 Q (F0 m 98 ls [.int s0, .int s1]) := by
  have hx := C0.1
  have hb := C0.2.1
  unfold fX10_works_j98 at h
  refine lv_iadd hx hb dX10_works_98 ?_
  refine lv_istore (lv' := [(5, .int (s1 + s0)), (0, .ref l0), (1, .int l1), (2, .int l2), (3, .int l3), (4, .int l4)]) hx hb dX10_works_99 hl (by decide) rfl (fun ls hl => ?_)
  refine lv_aload_n hx hb dX10_works_101 rfl (lv_at hl 1 rfl) ?_
  obtain ⟨q1, h2, h⟩ := ob h
  refine xr_getR C0 W0 cl_X10 52 (by decide) fl_X10_180 rfl h2 dX10_works_102 ?_
  refine lv_iconst (v := 3) hx hb dX10_works_105 (by decide) ?_
  refine lv_iload_n hx hb dX10_works_106 rfl (lv_at hl 4 rfl) ?_
  refine lv_imul hx hb dX10_works_107 ?_
  refine lv_iload hx hb dX10_works_108 (lv_at hl 5 rfl) ?_
  refine lv_iadd hx hb dX10_works_110 ?_
  refine lv_iload hx hb dX10_works_111 (lv_at hl 5 rfl) ?_
  refine lv_if_ne (tgt := 127) hx hb dX10_works_113 (by decide) (fun hcq => ?_) (fun hcq => ?_)
  · have h := it_f hcq h
    refine lv_iload hx hb dX10_works_127 (lv_at hl 5 rfl) ?_
    refine lv_iconst (v := 1) hx hb dX10_works_129 (by decide) ?_
    refine lv_icmp_ne (tgt := 147) hx hb dX10_works_130 (by decide) (fun hcq => ?_) (fun hcq => ?_)
    · have h := it_f hcq h
      refine lv_iload hx hb dX10_works_147 (lv_at hl 0 rfl) ?_
      refine lv_iconst (v := 0) hx hb dX10_works_149 (by decide) ?_
      refine lv_bipush (v := 9) hx hb dX10_works_150 (by decide) ?_
      obtain ⟨r3, h4, h⟩ := ob h
      refine xr_S (As := [.int (s1 + s0), .int 0, .int 9]) (rest := [.int ((3 * l3) + l4), .ref q1]) C0 W0 (ctX10_within l G h4) mc_X10_within ms_X10_within ml_X10_319 ⟨by decide, by decide⟩ rfl hl.1 rfl (Nat.le_of_ble_eq_true rfl) ⟨by decide, by decide⟩ dX10_works_152 (fun H locs W0 => ?_)
      refine W.cs (cells' := 0) (slots' := 0) rfl rfl ?_
      refine W.eq (g2 := F0 m 155 ls [.int r3.1, .int ((3 * l3) + l4), .ref q1]) rfl ?_
      exact tX10_works_j155 C0 hret hrec hK W0 (lv_sub hl [1, 2, 3, 4] rfl) h
    · have h := it_t hcq h
      refine lv_iload hx hb dX10_works_133 (lv_at hl 0 rfl) ?_
      refine lv_sipush (v := (-999)) hx hb dX10_works_135 (by decide) ?_
      refine lv_sipush (v := 999) hx hb dX10_works_138 (by decide) ?_
      obtain ⟨r5, h6, h⟩ := ob h
      refine xr_S (As := [.int (s1 + s0), .int (-999), .int 999]) (rest := [.int ((3 * l3) + l4), .ref q1]) C0 W0 (ctX10_within l G h6) mc_X10_within ms_X10_within ml_X10_319 ⟨by decide, by decide⟩ rfl hl.1 rfl (Nat.le_of_ble_eq_true rfl) ⟨by decide, by decide⟩ dX10_works_141 (fun H locs W0 => ?_)
      refine W.cs (cells' := 0) (slots' := 0) rfl rfl ?_
      refine W.eq (g2 := F0 m 144 ls [.int r5.1, .int ((3 * l3) + l4), .ref q1]) rfl ?_
      refine lv_goto (tgt := 155) hx hb dX10_works_144 (by decide) ?_
      exact tX10_works_j155 C0 hret hrec hK W0 (lv_sub hl [1, 2, 3, 4] rfl) h
  · have h := it_t hcq h
    refine lv_iload hx hb dX10_works_116 (lv_at hl 0 rfl) ?_
    refine lv_iconst (v := 1) hx hb dX10_works_118 (by decide) ?_
    refine lv_bipush (v := 99) hx hb dX10_works_119 (by decide) ?_
    obtain ⟨r7, h8, h⟩ := ob h
    refine xr_S (As := [.int (s1 + s0), .int 1, .int 99]) (rest := [.int ((3 * l3) + l4), .ref q1]) C0 W0 (ctX10_within l G h8) mc_X10_within ms_X10_within ml_X10_319 ⟨by decide, by decide⟩ rfl hl.1 rfl (Nat.le_of_ble_eq_true rfl) ⟨by decide, by decide⟩ dX10_works_121 (fun H locs W0 => ?_)
    refine W.cs (cells' := 0) (slots' := 0) rfl rfl ?_
    refine W.eq (g2 := F0 m 124 ls [.int r7.1, .int ((3 * l3) + l4), .ref q1]) rfl ?_
    refine lv_goto (tgt := 155) hx hb dX10_works_124 (by decide) ?_
    exact tX10_works_j155 C0 hret hrec hK W0 (lv_sub hl [1, 2, 3, 4] rfl) h
theorem tX10_works_j55 {p : Program} {l : Launch} {e : Env} {s : State} {m : MethodId} {args : Array Value} {below : List Frame} {meth : Method} {c : Code} {G : XG} {X0 : XW} (C0 : XC p s m args meth c RX10 cX10_works 6 G) (hret : meth.sig.returnType = none) {r : XW} {l0 : Nat} {l1 : Int32} {l2 : Int32} {Q : State → Prop} {rec : Int32 → XW → Option (XW)} (hrec : ∀ {y3 : Int32} {X : XW} {H : Heap} {locs : List Loc} {ls : Array Slot}, XD G X0 X s H locs → lv_has ls 6 [(0, .ref l0), (1, .int l1), (2, .int l2), (3, .int y3)] → rec y3 X = some r → W p l e { frames := 1, cells := 0, slots := 0, locals := 60 } s m args below meth c H locs 0 0 Q (F0 m 2 ls [])) (hK : ∀ {H : Heap} {locs : List Loc} {ls : Array Slot}, XD G X0 r s H locs → lv_has ls 6 [] → W p l e { frames := 1, cells := 0, slots := 0, locals := 60 } s m args below meth c H locs 0 0 Q (F0 m 162 ls []))  {l3 : Int32} {l4 : Int32} {X : XW} {H : Heap} {locs : List Loc} {ls : Array Slot} (W0 : XD G X0 X s H locs) (hl : lv_has ls 6 [(0, .ref l0), (1, .int l1), (2, .int l2), (3, .int l3), (4, .int l4)]) (h : fX10_works_j55 rec l0 l1 l2 l3 l4 X = some r) : W p l e { frames := 1, cells := 0, slots := 0, locals := 60 } s m args below meth c H locs 0 0 Q (F0 m 55 ls []) := by
  have hx := C0.1
  have hb := C0.2.1
  unfold fX10_works_j55 at h
  refine lv_aload_n hx hb dX10_works_55 rfl (lv_at hl 0 rfl) ?_
  refine lv_sipush (v := 1060) hx hb dX10_works_56 (by decide) ?_
  refine lv_aload_n hx hb dX10_works_59 rfl (lv_at hl 0 rfl) ?_
  obtain ⟨v1, h2, h⟩ := ob h
  refine xr_getI C0 W0 cl_X10 10 (by decide) fl_X10_246 rfl h2 dX10_works_60 ?_
  refine lv_imul hx hb dX10_works_63 ?_
  refine lv_aload_n hx hb dX10_works_64 rfl (lv_at hl 0 rfl) ?_
  obtain ⟨q3, h4, h⟩ := ob h
  refine xr_getR C0 W0 cl_X10 17 (by decide) fl_X10_90 rfl h4 dX10_works_65 ?_
  refine lv_iload_n hx hb dX10_works_68 rfl (lv_at hl 2 rfl) ?_
  obtain ⟨v5, h6, h⟩ := ob h
  refine xr_iald C0 W0 h6 dX10_works_69 ?_
  refine lv_iadd hx hb dX10_works_70 ?_
  obtain ⟨u7, h8, h⟩ := ob h
  obtain ⟨r9, h10, h⟩ := ob h
  refine xr_V (As := [.int ((1060 * v1) + v5)]) (rest := []) C0 W0 (ctX10_worth l G h10) (gK_of h8) (rr := (RX10, TX10, 57)) rfl rfl mc_X10_worth mv_X10_worth ml_X10_316 ⟨by decide, by decide⟩ rfl hl.1 rfl (Nat.le_of_ble_eq_true rfl) ⟨by decide, by decide⟩ dX10_works_71 (fun H locs W0 => ?_)
  refine W.cs (cells' := 0) (slots' := 0) rfl rfl ?_
  refine W.eq (g2 := F0 m 74 ls [.int r9.1]) rfl ?_
  refine lv_aload_n hx hb dX10_works_74 rfl (lv_at hl 0 rfl) ?_
  obtain ⟨q11, h12, h⟩ := ob h
  refine xr_getR C0 W0 cl_X10 15 (by decide) fl_X10_83 rfl h12 dX10_works_75 ?_
  refine lv_iload_n hx hb dX10_works_78 rfl (lv_at hl 2 rfl) ?_
  obtain ⟨v13, h14, h⟩ := ob h
  refine xr_zald C0 W0 h14 dX10_works_79 ?_
  refine lv_if_eq (tgt := 97) hx hb dX10_works_80 (by decide) (fun hcq => ?_) (fun hcq => ?_)
  · have h := it_t hcq h
    refine lv_iconst (v := 0) hx hb dX10_works_97 (by decide) ?_
    exact tX10_works_j98 C0 hret hrec hK W0 (lv_sub hl [0, 1, 2, 3, 4] rfl) h
  · have h := it_f hcq h
    refine lv_aload_n hx hb dX10_works_83 rfl (lv_at hl 0 rfl) ?_
    obtain ⟨q15, h16, h⟩ := ob h
    refine xr_getR C0 W0 cl_X10 52 (by decide) fl_X10_180 rfl h16 dX10_works_84 ?_
    refine lv_iconst (v := 3) hx hb dX10_works_87 (by decide) ?_
    refine lv_iload_n hx hb dX10_works_88 rfl (lv_at hl 3 rfl) ?_
    refine lv_imul hx hb dX10_works_89 ?_
    refine lv_iload hx hb dX10_works_90 (lv_at hl 4 rfl) ?_
    refine lv_iadd hx hb dX10_works_92 ?_
    obtain ⟨v17, h18, h⟩ := ob h
    refine xr_iald C0 W0 h18 dX10_works_93 ?_
    refine lv_goto (tgt := 98) hx hb dX10_works_94 (by decide) ?_
    exact tX10_works_j98 C0 hret hrec hK W0 (lv_sub hl [0, 1, 2, 3, 4] rfl) h
theorem tX10_works_l2_b {p : Program} {l : Launch} {e : Env} {s : State} {m : MethodId} {args : Array Value} {below : List Frame} {meth : Method} {c : Code} {G : XG} {X0 : XW} (C0 : XC p s m args meth c RX10 cX10_works 6 G) (hret : meth.sig.returnType = none) {r : XW} {l0 : Nat} {l1 : Int32} {l2 : Int32} {Q : State → Prop} {rec : Int32 → XW → Option (XW)} (hrec : ∀ {y3 : Int32} {X : XW} {H : Heap} {locs : List Loc} {ls : Array Slot}, XD G X0 X s H locs → lv_has ls 6 [(0, .ref l0), (1, .int l1), (2, .int l2), (3, .int y3)] → rec y3 X = some r → W p l e { frames := 1, cells := 0, slots := 0, locals := 60 } s m args below meth c H locs 0 0 Q (F0 m 2 ls [])) (hK : ∀ {H : Heap} {locs : List Loc} {ls : Array Slot}, XD G X0 r s H locs → lv_has ls 6 [] → W p l e { frames := 1, cells := 0, slots := 0, locals := 60 } s m args below meth c H locs 0 0 Q (F0 m 162 ls []))  {l3 : Int32} {X : XW} {H : Heap} {locs : List Loc} {ls : Array Slot} (W0 : XD G X0 X s H locs) (hl : lv_has ls 6 [(0, .ref l0), (1, .int l1), (2, .int l2), (3, .int l3)]) (h : fX10_works_l2_b rec l0 l1 l2 l3 X = some r) : W p l e { frames := 1, cells := 0, slots := 0, locals := 60 } s m args below meth c H locs 0 0 Q (F0 m 2 ls []) := by
  have hx := C0.1
  have hb := C0.2.1
  unfold fX10_works_l2_b at h
  refine lv_iload_n hx hb dX10_works_2 rfl (lv_at hl 3 rfl) ?_
  refine lv_aload_n hx hb dX10_works_3 rfl (lv_at hl 0 rfl) ?_
  obtain ⟨v1, h2, h⟩ := ob h
  refine xr_getI C0 W0 cl_X10 47 (by decide) fl_X10_310 rfl h2 dX10_works_4 ?_
  refine lv_icmp_ge (tgt := 162) hx hb dX10_works_7 (by decide) (fun hcq => ?_) (fun hcq => ?_)
  · have h := it_t hcq h
    cases h
    exact hK W0 (lv_sub hl [] rfl)
  · have h := it_f hcq h
    refine lv_aload_n hx hb dX10_works_10 rfl (lv_at hl 0 rfl) ?_
    refine lv_iload_n hx hb dX10_works_11 rfl (lv_at hl 1 rfl) ?_
    refine lv_iload_n hx hb dX10_works_12 rfl (lv_at hl 3 rfl) ?_
    obtain ⟨u3, h4, h⟩ := ob h
    obtain ⟨X5, h6, h⟩ := ob h
    refine xr_V (As := [.int l1, .int l3]) (rest := []) C0 W0 (ctX10_knows l G h6) (gK_of h4) (rr := (RX10, TX10, 57)) rfl rfl mc_X10_knows mv_X10_knows ml_X10_313 ⟨by decide, by decide⟩ rfl hl.1 rfl (Nat.le_of_ble_eq_true rfl) ⟨by decide, by decide⟩ dX10_works_13 (fun H locs W0 => ?_)
    refine W.cs (cells' := 0) (slots' := 0) rfl rfl ?_
    refine W.eq (g2 := F0 m 16 ls []) rfl ?_
    refine lv_aload_n hx hb dX10_works_16 rfl (lv_at hl 0 rfl) ?_
    obtain ⟨q7, h8, h⟩ := ob h
    refine xr_getR C0 W0 cl_X10 16 (by decide) fl_X10_87 rfl h8 dX10_works_17 ?_
    refine lv_iload_n hx hb dX10_works_20 rfl (lv_at hl 2 rfl) ?_
    obtain ⟨v9, h10, h⟩ := ob h
    refine xr_iald C0 W0 h10 dX10_works_21 ?_
    refine lv_istore (lv' := [(4, .int v9), (0, .ref l0), (1, .int l1), (2, .int l2), (3, .int l3)]) hx hb dX10_works_22 hl (by decide) rfl (fun ls hl => ?_)
    refine lv_aload_n hx hb dX10_works_24 rfl (lv_at hl 1 rfl) ?_
    obtain ⟨q11, h12, h⟩ := ob h
    refine xr_getR C0 W0 cl_X10 18 (by decide) fl_X10_93 rfl h12 dX10_works_25 ?_
    refine lv_iload_n hx hb dX10_works_28 rfl (lv_at hl 3 rfl) ?_
    obtain ⟨v13, h14, h⟩ := ob h
    refine xr_iald C0 W0 h14 dX10_works_29 ?_
    refine lv_if_lt (tgt := 55) hx hb dX10_works_30 (by decide) (fun hcq => ?_) (fun hcq => ?_)
    · have h := it_t hcq h
      exact tX10_works_j55 C0 hret hrec hK W0 (lv_sub hl [1, 2, 3, 4, 0] rfl) h
    · have h := it_f hcq h
      refine lv_aload_n hx hb dX10_works_33 rfl (lv_at hl 1 rfl) ?_
      refine lv_sipush (v := 1060) hx hb dX10_works_34 (by decide) ?_
      refine lv_aload_n hx hb dX10_works_37 rfl (lv_at hl 1 rfl) ?_
      obtain ⟨v15, h16, h⟩ := ob h
      refine xr_getI C0 W0 cl_X10 10 (by decide) fl_X10_246 rfl h16 dX10_works_38 ?_
      refine lv_imul hx hb dX10_works_41 ?_
      refine lv_aload_n hx hb dX10_works_42 rfl (lv_at hl 1 rfl) ?_
      obtain ⟨q17, h18, h⟩ := ob h
      refine xr_getR C0 W0 cl_X10 18 (by decide) fl_X10_93 rfl h18 dX10_works_43 ?_
      refine lv_iload_n hx hb dX10_works_46 rfl (lv_at hl 3 rfl) ?_
      obtain ⟨v19, h20, h⟩ := ob h
      refine xr_iald C0 W0 h20 dX10_works_47 ?_
      refine lv_iadd hx hb dX10_works_48 ?_
      obtain ⟨u21, h22, h⟩ := ob h
      obtain ⟨r23, h24, h⟩ := ob h
      refine xr_V (As := [.int ((1060 * v15) + v19)]) (rest := []) C0 W0 (ctX10_worth l G h24) (gK_of h22) (rr := (RX10, TX10, 57)) rfl rfl mc_X10_worth mv_X10_worth ml_X10_316 ⟨by decide, by decide⟩ rfl hl.1 rfl (Nat.le_of_ble_eq_true rfl) ⟨by decide, by decide⟩ dX10_works_49 (fun H locs W0 => ?_)
      refine W.cs (cells' := 0) (slots' := 0) rfl rfl ?_
      refine W.eq (g2 := F0 m 52 ls [.int r23.1]) rfl ?_
      refine lv_if_eq (tgt := 156) hx hb dX10_works_52 (by decide) (fun hcq => ?_) (fun hcq => ?_)
      · have h := it_t hcq h
        exact tX10_works_j156 C0 hret hrec hK W0 (lv_sub hl [1, 2, 3, 4] rfl) h
      · have h := it_f hcq h
        exact tX10_works_j55 C0 hret hrec hK W0 (lv_sub hl [1, 2, 3, 4, 0] rfl) h
theorem tX10_works_l2 {p : Program} {l : Launch} {e : Env} {s : State} {m : MethodId} {args : Array Value} {below : List Frame} {meth : Method} {c : Code} {G : XG} {X0 : XW} (C0 : XC p s m args meth c RX10 cX10_works 6 G) (hret : meth.sig.returnType = none) {r : XW} {l0 : Nat} {l1 : Int32} {l2 : Int32} {Q : State → Prop} (hK : ∀ {H : Heap} {locs : List Loc} {ls : Array Slot}, XD G X0 r s H locs → lv_has ls 6 [] → W p l e { frames := 1, cells := 0, slots := 0, locals := 60 } s m args below meth c H locs 0 0 Q (F0 m 162 ls [])) : ∀ (n : Nat) {y3 : Int32} {X : XW} {H : Heap} {locs : List Loc} {ls : Array Slot}, XD G X0 X s H locs → lv_has ls 6 [(0, .ref l0), (1, .int l1), (2, .int l2), (3, .int y3)] → fX10_works_l2 l0 l1 l2 n y3 X = some r → W p l e { frames := 1, cells := 0, slots := 0, locals := 60 } s m args below meth c H locs 0 0 Q (F0 m 2 ls []) := by
  intro n
  induction n with
  | zero =>
    intro y3 X H locs ls W0 hl h
    cases h
  | succ n ih =>
    intro y3 X H locs ls W0 hl h
    exact tX10_works_l2_b C0 hret (rec := fX10_works_l2 l0 l1 l2 n) (fun W0 hl h => ih W0 hl h) hK W0 hl h
theorem ctX10_works (l : Launch) (G : XG) {l0 : Nat} {l1 : Int32} {l2 : Int32} {X : XW} {r : XW}  (h : fX10_works l0 l1 l2 X = some r) : XM l G yX10_works cX10_works 6 none 1 60 0 0 [.ref l0, .int l1, .int l2] X (none, r) := by
  refine xm_of (own := RX10) (by decide) rfl (Nat.le_of_ble_eq_true rfl) ?_
  intro p e s m below meth c ls C0 W0 hret hnm hl
  have hx := C0.1
  have hb := C0.2.1
  have hl : lv_has ls 6 [(0, .ref l0), (1, .int l1), (2, .int l2)] := hl
  unfold fX10_works at h
  refine lv_iconst (v := 0) hx hb dX10_works_0 (by decide) ?_
  refine lv_istore_n (lv' := [(3, .int 0), (0, .ref l0), (1, .int l1), (2, .int l2)]) hx hb dX10_works_1 rfl hl (by decide) rfl (fun ls hl => ?_)
  obtain ⟨r1, h2, h⟩ := ob h
  refine tX10_works_l2 C0 hret (fun {H} {locs} {ls} W0 hl => ?_) FU W0 (lv_sub hl [1, 2, 3, 0] rfl) h2
  exact xr_vret C0 W0 hret (Option.some.inj h).symm dX10_works_162
def fX10_handOf (l0 : Nat) (l1 : Int32) (l2 : Int32) (l3 : Int32) (X : XW) : Option (Int32 × XW) :=
  gR X l0 10 37 >>= fun q1 =>
  aI X q1 1 ((3 * ((80 * l1) + l2)) + l3) >>= fun v3 =>
  some (v3, X)
theorem ctX10_handOf (l : Launch) (G : XG) {l0 : Nat} {l1 : Int32} {l2 : Int32} {l3 : Int32} {X : XW} {r : Int32 × XW}  (h : fX10_handOf l0 l1 l2 l3 X = some r) : XM l G yX10_handOf cX10_handOf 4 (some .int) 0 0 0 0 [.ref l0, .int l1, .int l2, .int l3] X (some (.int r.1), r.2) := by
  refine xm_of (own := RX10) (by decide) rfl (Nat.le_of_ble_eq_true rfl) ?_
  intro p e s m below meth c ls C0 W0 hret hnm hl
  have hx := C0.1
  have hb := C0.2.1
  have hl : lv_has ls 4 [(0, .ref l0), (1, .int l1), (2, .int l2), (3, .int l3)] := hl
  unfold fX10_handOf at h
  refine lv_aload_n hx hb dX10_handOf_0 rfl (lv_at hl 0 rfl) ?_
  obtain ⟨q1, h2, h⟩ := ob h
  refine xr_getR C0 W0 cl_X10 37 (by decide) fl_X10_141 rfl h2 dX10_handOf_1 ?_
  refine lv_iconst (v := 3) hx hb dX10_handOf_4 (by decide) ?_
  refine lv_bipush (v := 80) hx hb dX10_handOf_5 (by decide) ?_
  refine lv_iload_n hx hb dX10_handOf_7 rfl (lv_at hl 1 rfl) ?_
  refine lv_imul hx hb dX10_handOf_8 ?_
  refine lv_iload_n hx hb dX10_handOf_9 rfl (lv_at hl 2 rfl) ?_
  refine lv_iadd hx hb dX10_handOf_10 ?_
  refine lv_imul hx hb dX10_handOf_11 ?_
  refine lv_iload_n hx hb dX10_handOf_12 rfl (lv_at hl 3 rfl) ?_
  refine lv_iadd hx hb dX10_handOf_13 ?_
  obtain ⟨v3, h4, h⟩ := ob h
  refine xr_iald C0 W0 h4 dX10_handOf_14 ?_
  exact xr_iret C0 W0 hret (Option.some.inj h) dX10_handOf_15
def fX10_nears (l0 : Nat) (l1 : Int32) (l2 : Int32) (l3 : Int32) (X : XW) : Option (XW) :=
  gK X l0 10 >>= fun u1 =>
  fX10_handOf l0 l1 l2 1 X >>= fun r3 =>
  if (0 ≤ r3.1 : Prop) then (some r3.2)
  else (gR r3.2 l0 10 52 >>= fun q5 =>
    aI r3.2 q5 1 ((3 * l3) + 1) >>= fun v7 =>
    gR r3.2 l0 10 52 >>= fun q9 =>
    gR r3.2 l0 10 52 >>= fun q11 =>
    aI r3.2 q11 1 ((3 * l2) + 1) >>= fun v13 =>
    gR r3.2 l0 10 13 >>= fun q15 =>
    gI r3.2 l0 10 10 >>= fun v17 =>
    aI r3.2 q15 1 v17 >>= fun v19 =>
    gR r3.2 l0 10 13 >>= fun q21 =>
    gI r3.2 l0 10 10 >>= fun v23 =>
    aI r3.2 q21 1 v23 >>= fun v25 =>
    fX10_within v13 (v7 - v19) (v7 + v25) r3.2 >>= fun r27 =>
    uI r27.2 q9 ((3 * l2) + 1) r27.1 >>= fun X29 =>
    some X29)
theorem ctX10_nears (l : Launch) (G : XG) {l0 : Nat} {l1 : Int32} {l2 : Int32} {l3 : Int32} {X : XW} {r : XW}  (h : fX10_nears l0 l1 l2 l3 X = some r) : XM l G yX10_nears cX10_nears 5 none 1 60 0 0 [.ref l0, .int l1, .int l2, .int l3] X (none, r) := by
  refine xm_of (own := RX10) (by decide) rfl (Nat.le_of_ble_eq_true rfl) ?_
  intro p e s m below meth c ls C0 W0 hret hnm hl
  have hx := C0.1
  have hb := C0.2.1
  have hl : lv_has ls 5 [(0, .ref l0), (1, .int l1), (2, .int l2), (3, .int l3)] := hl
  unfold fX10_nears at h
  refine lv_aload_n hx hb dX10_nears_0 rfl (lv_at hl 0 rfl) ?_
  refine lv_iload_n hx hb dX10_nears_1 rfl (lv_at hl 1 rfl) ?_
  refine lv_iload_n hx hb dX10_nears_2 rfl (lv_at hl 2 rfl) ?_
  refine lv_iconst (v := 1) hx hb dX10_nears_3 (by decide) ?_
  obtain ⟨u1, h2, h⟩ := ob h
  obtain ⟨r3, h4, h⟩ := ob h
  refine xr_V (As := [.int l1, .int l2, .int 1]) (rest := []) C0 W0 (ctX10_handOf l G h4) (gK_of h2) (rr := (RX10, TX10, 57)) rfl rfl mc_X10_handOf mv_X10_handOf ml_X10_328 ⟨by decide, by decide⟩ rfl hl.1 rfl (Nat.le_of_ble_eq_true rfl) ⟨by decide, by decide⟩ dX10_nears_4 (fun H locs W0 => ?_)
  refine W.cs (cells' := 0) (slots' := 0) rfl rfl ?_
  refine W.eq (g2 := F0 m 7 ls [.int r3.1]) rfl ?_
  refine lv_if_ge (tgt := 69) hx hb dX10_nears_7 (by decide) (fun hcq => ?_) (fun hcq => ?_)
  · have h := it_t hcq h
    exact xr_vret C0 W0 hret (Option.some.inj h).symm dX10_nears_69
  · have h := it_f hcq h
    refine lv_aload_n hx hb dX10_nears_10 rfl (lv_at hl 0 rfl) ?_
    obtain ⟨q5, h6, h⟩ := ob h
    refine xr_getR C0 W0 cl_X10 52 (by decide) fl_X10_180 rfl h6 dX10_nears_11 ?_
    refine lv_iconst (v := 3) hx hb dX10_nears_14 (by decide) ?_
    refine lv_iload_n hx hb dX10_nears_15 rfl (lv_at hl 3 rfl) ?_
    refine lv_imul hx hb dX10_nears_16 ?_
    refine lv_iconst (v := 1) hx hb dX10_nears_17 (by decide) ?_
    refine lv_iadd hx hb dX10_nears_18 ?_
    obtain ⟨v7, h8, h⟩ := ob h
    refine xr_iald C0 W0 h8 dX10_nears_19 ?_
    refine lv_istore (lv' := [(4, .int v7), (0, .ref l0), (1, .int l1), (2, .int l2), (3, .int l3)]) hx hb dX10_nears_20 hl (by decide) rfl (fun ls hl => ?_)
    refine lv_aload_n hx hb dX10_nears_22 rfl (lv_at hl 1 rfl) ?_
    obtain ⟨q9, h10, h⟩ := ob h
    refine xr_getR C0 W0 cl_X10 52 (by decide) fl_X10_180 rfl h10 dX10_nears_23 ?_
    refine lv_iconst (v := 3) hx hb dX10_nears_26 (by decide) ?_
    refine lv_iload_n hx hb dX10_nears_27 rfl (lv_at hl 3 rfl) ?_
    refine lv_imul hx hb dX10_nears_28 ?_
    refine lv_iconst (v := 1) hx hb dX10_nears_29 (by decide) ?_
    refine lv_iadd hx hb dX10_nears_30 ?_
    refine lv_aload_n hx hb dX10_nears_31 rfl (lv_at hl 1 rfl) ?_
    obtain ⟨q11, h12, h⟩ := ob h
    refine xr_getR C0 W0 cl_X10 52 (by decide) fl_X10_180 rfl h12 dX10_nears_32 ?_
    refine lv_iconst (v := 3) hx hb dX10_nears_35 (by decide) ?_
    refine lv_iload_n hx hb dX10_nears_36 rfl (lv_at hl 3 rfl) ?_
    refine lv_imul hx hb dX10_nears_37 ?_
    refine lv_iconst (v := 1) hx hb dX10_nears_38 (by decide) ?_
    refine lv_iadd hx hb dX10_nears_39 ?_
    obtain ⟨v13, h14, h⟩ := ob h
    refine xr_iald C0 W0 h14 dX10_nears_40 ?_
    refine lv_iload hx hb dX10_nears_41 (lv_at hl 0 rfl) ?_
    refine lv_aload_n hx hb dX10_nears_43 rfl (lv_at hl 1 rfl) ?_
    obtain ⟨q15, h16, h⟩ := ob h
    refine xr_getR C0 W0 cl_X10 13 (by decide) fl_X10_77 rfl h16 dX10_nears_44 ?_
    refine lv_aload_n hx hb dX10_nears_47 rfl (lv_at hl 1 rfl) ?_
    obtain ⟨v17, h18, h⟩ := ob h
    refine xr_getI C0 W0 cl_X10 10 (by decide) fl_X10_246 rfl h18 dX10_nears_48 ?_
    obtain ⟨v19, h20, h⟩ := ob h
    refine xr_iald C0 W0 h20 dX10_nears_51 ?_
    refine lv_isub hx hb dX10_nears_52 ?_
    refine lv_iload hx hb dX10_nears_53 (lv_at hl 0 rfl) ?_
    refine lv_aload_n hx hb dX10_nears_55 rfl (lv_at hl 1 rfl) ?_
    obtain ⟨q21, h22, h⟩ := ob h
    refine xr_getR C0 W0 cl_X10 13 (by decide) fl_X10_77 rfl h22 dX10_nears_56 ?_
    refine lv_aload_n hx hb dX10_nears_59 rfl (lv_at hl 1 rfl) ?_
    obtain ⟨v23, h24, h⟩ := ob h
    refine xr_getI C0 W0 cl_X10 10 (by decide) fl_X10_246 rfl h24 dX10_nears_60 ?_
    obtain ⟨v25, h26, h⟩ := ob h
    refine xr_iald C0 W0 h26 dX10_nears_63 ?_
    refine lv_iadd hx hb dX10_nears_64 ?_
    obtain ⟨r27, h28, h⟩ := ob h
    refine xr_S (As := [.int v13, .int (v7 - v19), .int (v7 + v25)]) (rest := [.int ((3 * l2) + 1), .ref q9]) C0 W0 (ctX10_within l G h28) mc_X10_within ms_X10_within ml_X10_319 ⟨by decide, by decide⟩ rfl hl.1 rfl (Nat.le_of_ble_eq_true rfl) ⟨by decide, by decide⟩ dX10_nears_65 (fun H locs W0 => ?_)
    refine W.cs (cells' := 0) (slots' := 0) rfl rfl ?_
    refine W.eq (g2 := F0 m 68 ls [.int r27.1, .int ((3 * l2) + 1), .ref q9]) rfl ?_
    obtain ⟨X29, h30, h⟩ := ob h
    refine xr_iast C0 W0 h30 dX10_nears_68 (fun H locs W0 => ?_)
    exact xr_vret C0 W0 hret (Option.some.inj h).symm dX10_nears_69
def fX10_shapes_l13_b (rec : Int32 → XW → Option (XW)) (l0 : Nat) (l1 : Int32) (l2 : Int32) (X : XW) : Option (XW) :=
  gI X l0 10 10 >>= fun v1 =>
  gR X l0 10 14 >>= fun q3 =>
  gI X l0 10 10 >>= fun v5 =>
  aI X q3 1 v5 >>= fun v7 =>
  if (((24 * v1) + v7) ≤ l2 : Prop) then (some (X))
  else (gK X l0 10 >>= fun u9 =>
    fX10_works l0 l1 l2 X >>= fun X11 =>
    rec (l2 + 1) X11)
def fX10_shapes_l13 (l0 : Nat) (l1 : Int32) (n : Nat) : Int32 → XW → Option (XW) := iter (fun rec => fX10_shapes_l13_b rec l0 l1) (fun _ _ => none) n
def fX10_shapes_j141 (rec : Int32 → XW → Option (XW)) (l0 : Nat) (l1 : Int32) (l2 : Int32) (l3 : Int32) (s0 : Int32) (s1 : Int32) (s2 : Nat) (X : XW) : Option (XW) :=
  uI X s2 s1 s0 >>= fun X1 =>
  rec (l3 + 1) X1
def fX10_shapes_l58_b (rec : Int32 → XW → Option (XW)) (l0 : Nat) (l1 : Int32) (l2 : Int32) (l3 : Int32) (X : XW) : Option (XW) :=
  if (3 ≤ l3 : Prop) then (some (X))
  else (gR X l0 10 52 >>= fun q1 =>
    gK X l0 10 >>= fun u3 =>
    fX10_handOf l0 l1 l2 l3 X >>= fun r5 =>
    if (r5.1 < 0 : Prop) then (if (l3 = 1 : Prop) then (gR r5.2 l0 10 52 >>= fun q11 =>
        aI r5.2 q11 1 ((3 * l2) + 1) >>= fun v13 =>
        gR r5.2 l0 10 11 >>= fun q15 =>
        gI r5.2 l0 10 10 >>= fun v17 =>
        aI r5.2 q15 1 v17 >>= fun v19 =>
        gR r5.2 l0 10 12 >>= fun q21 =>
        gI r5.2 l0 10 10 >>= fun v23 =>
        aI r5.2 q21 1 v23 >>= fun v25 =>
        fX10_within v13 v19 v25 r5.2 >>= fun r27 =>
        fX10_shapes_j141 rec l0 l1 l2 l3 r27.1 ((3 * l2) + l3) q1 r27.2)
      else (gR r5.2 l0 10 52 >>= fun q7 =>
        aI r5.2 q7 1 ((3 * l2) + l3) >>= fun v9 =>
        fX10_shapes_j141 rec l0 l1 l2 l3 v9 ((3 * l2) + l3) q1 r5.2))
    else (gK r5.2 l0 10 >>= fun u29 =>
      fX10_handOf l0 l1 l2 l3 r5.2 >>= fun r31 =>
      fX10_shapes_j141 rec l0 l1 l2 l3 r31.1 ((3 * l2) + l3) q1 r31.2))
def fX10_shapes_l58 (l0 : Nat) (l1 : Int32) (l2 : Int32) (n : Nat) : Int32 → XW → Option (XW) := iter (fun rec => fX10_shapes_l58_b rec l0 l1 l2) (fun _ _ => none) n
def fX10_shapes_l48_b (rec : Int32 → XW → Option (XW)) (l0 : Nat) (l1 : Int32) (l2 : Int32) (X : XW) : Option (XW) :=
  gI X l0 10 47 >>= fun v1 =>
  if (v1 ≤ l2 : Prop) then (some (X))
  else (fX10_shapes_l58 l0 l1 l2 FU 0 X >>= fun r3 =>
    rec (l2 + 1) r3)
def fX10_shapes_l48 (l0 : Nat) (l1 : Int32) (n : Nat) : Int32 → XW → Option (XW) := iter (fun rec => fX10_shapes_l48_b rec l0 l1) (fun _ _ => none) n
def fX10_shapes_l156_b (rec : Int32 → XW → Option (XW)) (l0 : Nat) (l1 : Int32) (l2 : Int32) (X : XW) : Option (XW) :=
  gI X l0 10 47 >>= fun v1 =>
  if (v1 ≤ l2 : Prop) then (some (X))
  else (gK X l0 10 >>= fun u3 =>
    fX10_nears l0 l1 l2 (l2 - 1) X >>= fun X5 =>
    rec (l2 + 1) X5)
def fX10_shapes_l156 (l0 : Nat) (l1 : Int32) (n : Nat) : Int32 → XW → Option (XW) := iter (fun rec => fX10_shapes_l156_b rec l0 l1) (fun _ _ => none) n
def fX10_shapes_l186_b (rec : Int32 → XW → Option (XW)) (l0 : Nat) (l1 : Int32) (l2 : Int32) (X : XW) : Option (XW) :=
  if (l2 < 0 : Prop) then (some (X))
  else (gK X l0 10 >>= fun u1 =>
    fX10_nears l0 l1 l2 (l2 + 1) X >>= fun X3 =>
    rec (l2 + (-1)) X3)
def fX10_shapes_l186 (l0 : Nat) (l1 : Int32) (n : Nat) : Int32 → XW → Option (XW) := iter (fun rec => fX10_shapes_l186_b rec l0 l1) (fun _ _ => none) n
def fX10_shapes (l0 : Nat) (l1 : Int32) (X : XW) : Option (XW) :=
  gK X l0 10 >>= fun u1 =>
  fX10_setsOut l0 l1 X >>= fun X3 =>
  gI X3 l0 10 10 >>= fun v5 =>
  fX10_shapes_l13 l0 l1 FU (24 * v5) X3 >>= fun r7 =>
  fX10_shapes_l48 l0 l1 FU 0 r7 >>= fun r9 =>
  fX10_shapes_l156 l0 l1 FU 1 r9 >>= fun r11 =>
  gI r11 l0 10 47 >>= fun v13 =>
  fX10_shapes_l186 l0 l1 FU (v13 - 2) r11 >>= fun r15 =>
  some r15
theorem tX10_shapes_l13_b {p : Program} {l : Launch} {e : Env} {s : State} {m : MethodId} {args : Array Value} {below : List Frame} {meth : Method} {c : Code} {G : XG} {X0 : XW} (C0 : XC p s m args meth c RX10 cX10_shapes 4 G) (hret : meth.sig.returnType = none) {r : XW} {l0 : Nat} {l1 : Int32} {Q : State → Prop} {rec : Int32 → XW → Option (XW)} (hrec : ∀ {y2 : Int32} {X : XW} {H : Heap} {locs : List Loc} {ls : Array Slot}, XD G X0 X s H locs → lv_has ls 4 [(0, .ref l0), (1, .int l1), (2, .int y2)] → rec y2 X = some r → W p l e { frames := 3, cells := 0, slots := 0, locals := 180 } s m args below meth c H locs 0 0 Q (F0 m 13 ls [])) (hK : ∀ {H : Heap} {locs : List Loc} {ls : Array Slot}, XD G X0 r s H locs → lv_has ls 4 [(0, .ref l0), (1, .int l1)] → W p l e { frames := 3, cells := 0, slots := 0, locals := 180 } s m args below meth c H locs 0 0 Q (F0 m 46 ls []))  {l2 : Int32} {X : XW} {H : Heap} {locs : List Loc} {ls : Array Slot} (W0 : XD G X0 X s H locs) (hl : lv_has ls 4 [(0, .ref l0), (1, .int l1), (2, .int l2)]) (h : fX10_shapes_l13_b rec l0 l1 l2 X = some r) : W p l e { frames := 3, cells := 0, slots := 0, locals := 180 } s m args below meth c H locs 0 0 Q (F0 m 13 ls []) := by
  have hx := C0.1
  have hb := C0.2.1
  unfold fX10_shapes_l13_b at h
  refine lv_iload_n hx hb dX10_shapes_13 rfl (lv_at hl 2 rfl) ?_
  refine lv_bipush (v := 24) hx hb dX10_shapes_14 (by decide) ?_
  refine lv_aload_n hx hb dX10_shapes_16 rfl (lv_at hl 0 rfl) ?_
  obtain ⟨v1, h2, h⟩ := ob h
  refine xr_getI C0 W0 cl_X10 10 (by decide) fl_X10_246 rfl h2 dX10_shapes_17 ?_
  refine lv_imul hx hb dX10_shapes_20 ?_
  refine lv_aload_n hx hb dX10_shapes_21 rfl (lv_at hl 0 rfl) ?_
  obtain ⟨q3, h4, h⟩ := ob h
  refine xr_getR C0 W0 cl_X10 14 (by decide) fl_X10_80 rfl h4 dX10_shapes_22 ?_
  refine lv_aload_n hx hb dX10_shapes_25 rfl (lv_at hl 0 rfl) ?_
  obtain ⟨v5, h6, h⟩ := ob h
  refine xr_getI C0 W0 cl_X10 10 (by decide) fl_X10_246 rfl h6 dX10_shapes_26 ?_
  obtain ⟨v7, h8, h⟩ := ob h
  refine xr_iald C0 W0 h8 dX10_shapes_29 ?_
  refine lv_iadd hx hb dX10_shapes_30 ?_
  refine lv_icmp_ge (tgt := 46) hx hb dX10_shapes_31 (by decide) (fun hcq => ?_) (fun hcq => ?_)
  · have h := it_t hcq h
    cases h
    exact hK W0 (lv_sub hl [0, 1] rfl)
  · have h := it_f hcq h
    refine lv_aload_n hx hb dX10_shapes_34 rfl (lv_at hl 0 rfl) ?_
    refine lv_iload_n hx hb dX10_shapes_35 rfl (lv_at hl 1 rfl) ?_
    refine lv_iload_n hx hb dX10_shapes_36 rfl (lv_at hl 2 rfl) ?_
    obtain ⟨u9, h10, h⟩ := ob h
    obtain ⟨X11, h12, h⟩ := ob h
    refine xr_V (As := [.int l1, .int l2]) (rest := []) C0 W0 (ctX10_works l G h12) (gK_of h10) (rr := (RX10, TX10, 57)) rfl rfl mc_X10_works mv_X10_works ml_X10_325 ⟨by decide, by decide⟩ rfl hl.1 rfl (Nat.le_of_ble_eq_true rfl) ⟨by decide, by decide⟩ dX10_shapes_37 (fun H locs W0 => ?_)
    refine W.cs (cells' := 0) (slots' := 0) rfl rfl ?_
    refine W.eq (g2 := F0 m 40 ls []) rfl ?_
    refine lv_iinc (v := (l2 + 1)) (lv' := [(2, .int (l2 + 1)), (0, .ref l0), (1, .int l1)]) hx hb dX10_shapes_40 hl (k := 2) rfl (ii (by decide)) (by decide) rfl (fun ls hl => ?_)
    refine lv_goto (tgt := 13) hx hb dX10_shapes_43 (by decide) ?_
    exact hrec W0 (lv_sub hl [1, 2, 0] rfl) h
theorem tX10_shapes_l13 {p : Program} {l : Launch} {e : Env} {s : State} {m : MethodId} {args : Array Value} {below : List Frame} {meth : Method} {c : Code} {G : XG} {X0 : XW} (C0 : XC p s m args meth c RX10 cX10_shapes 4 G) (hret : meth.sig.returnType = none) {r : XW} {l0 : Nat} {l1 : Int32} {Q : State → Prop} (hK : ∀ {H : Heap} {locs : List Loc} {ls : Array Slot}, XD G X0 r s H locs → lv_has ls 4 [(0, .ref l0), (1, .int l1)] → W p l e { frames := 3, cells := 0, slots := 0, locals := 180 } s m args below meth c H locs 0 0 Q (F0 m 46 ls [])) : ∀ (n : Nat) {y2 : Int32} {X : XW} {H : Heap} {locs : List Loc} {ls : Array Slot}, XD G X0 X s H locs → lv_has ls 4 [(0, .ref l0), (1, .int l1), (2, .int y2)] → fX10_shapes_l13 l0 l1 n y2 X = some r → W p l e { frames := 3, cells := 0, slots := 0, locals := 180 } s m args below meth c H locs 0 0 Q (F0 m 13 ls []) := by
  intro n
  induction n with
  | zero =>
    intro y2 X H locs ls W0 hl h
    cases h
  | succ n ih =>
    intro y2 X H locs ls W0 hl h
    exact tX10_shapes_l13_b C0 hret (rec := fX10_shapes_l13 l0 l1 n) (fun W0 hl h => ih W0 hl h) hK W0 hl h
theorem tX10_shapes_j141 {p : Program} {l : Launch} {e : Env} {s : State} {m : MethodId} {args : Array Value} {below : List Frame} {meth : Method} {c : Code} {G : XG} {X0 : XW} (C0 : XC p s m args meth c RX10 cX10_shapes 4 G) (hret : meth.sig.returnType = none) {r : XW} {l0 : Nat} {l1 : Int32} {l2 : Int32} {Q : State → Prop} {rec : Int32 → XW → Option (XW)} (hrec : ∀ {y3 : Int32} {X : XW} {H : Heap} {locs : List Loc} {ls : Array Slot}, XD G X0 X s H locs → lv_has ls 4 [(0, .ref l0), (1, .int l1), (2, .int l2), (3, .int y3)] → rec y3 X = some r → W p l e { frames := 3, cells := 0, slots := 0, locals := 180 } s m args below meth c H locs 0 0 Q (F0 m 58 ls [])) (hK : ∀ {H : Heap} {locs : List Loc} {ls : Array Slot}, XD G X0 r s H locs → lv_has ls 4 [(0, .ref l0), (1, .int l1), (2, .int l2)] → W p l e { frames := 3, cells := 0, slots := 0, locals := 180 } s m args below meth c H locs 0 0 Q (F0 m 148 ls []))  {l3 : Int32} {s0 : Int32} {s1 : Int32} {s2 : Nat} {X : XW} {H : Heap} {locs : List Loc} {ls : Array Slot} (W0 : XD G X0 X s H locs) (hl : lv_has ls 4 [(0, .ref l0), (1, .int l1), (2, .int l2), (3, .int l3)]) (h : fX10_shapes_j141 rec l0 l1 l2 l3 s0 s1 s2 X = some r) : W p l e { frames := 3, cells := 0, slots := 0, locals := 180 } s m args below meth c H locs 0 0 Q (F0 m 141 ls [.int s0, .int s1, .ref s2]) := by
  have hx := C0.1
  have hb := C0.2.1
  unfold fX10_shapes_j141 at h
  obtain ⟨X1, h2, h⟩ := ob h
  refine xr_iast C0 W0 h2 dX10_shapes_141 (fun H locs W0 => ?_)
  refine lv_iinc (v := (l3 + 1)) (lv' := [(3, .int (l3 + 1)), (0, .ref l0), (1, .int l1), (2, .int l2)]) hx hb dX10_shapes_142 hl (k := 3) rfl (ii (by decide)) (by decide) rfl (fun ls hl => ?_)
  refine lv_goto (tgt := 58) hx hb dX10_shapes_145 (by decide) ?_
  exact hrec W0 (lv_sub hl [1, 2, 3, 0] rfl) h
theorem tX10_shapes_l58_b {p : Program} {l : Launch} {e : Env} {s : State} {m : MethodId} {args : Array Value} {below : List Frame} {meth : Method} {c : Code} {G : XG} {X0 : XW} (C0 : XC p s m args meth c RX10 cX10_shapes 4 G) (hret : meth.sig.returnType = none) {r : XW} {l0 : Nat} {l1 : Int32} {l2 : Int32} {Q : State → Prop} {rec : Int32 → XW → Option (XW)} (hrec : ∀ {y3 : Int32} {X : XW} {H : Heap} {locs : List Loc} {ls : Array Slot}, XD G X0 X s H locs → lv_has ls 4 [(0, .ref l0), (1, .int l1), (2, .int l2), (3, .int y3)] → rec y3 X = some r → W p l e { frames := 3, cells := 0, slots := 0, locals := 180 } s m args below meth c H locs 0 0 Q (F0 m 58 ls [])) (hK : ∀ {H : Heap} {locs : List Loc} {ls : Array Slot}, XD G X0 r s H locs → lv_has ls 4 [(0, .ref l0), (1, .int l1), (2, .int l2)] → W p l e { frames := 3, cells := 0, slots := 0, locals := 180 } s m args below meth c H locs 0 0 Q (F0 m 148 ls []))  {l3 : Int32} {X : XW} {H : Heap} {locs : List Loc} {ls : Array Slot} (W0 : XD G X0 X s H locs) (hl : lv_has ls 4 [(0, .ref l0), (1, .int l1), (2, .int l2), (3, .int l3)]) (h : fX10_shapes_l58_b rec l0 l1 l2 l3 X = some r) : W p l e { frames := 3, cells := 0, slots := 0, locals := 180 } s m args below meth c H locs 0 0 Q (F0 m 58 ls []) := by
  have hx := C0.1
  have hb := C0.2.1
  unfold fX10_shapes_l58_b at h
  refine lv_iload_n hx hb dX10_shapes_58 rfl (lv_at hl 3 rfl) ?_
  refine lv_iconst (v := 3) hx hb dX10_shapes_59 (by decide) ?_
  refine lv_icmp_ge (tgt := 148) hx hb dX10_shapes_60 (by decide) (fun hcq => ?_) (fun hcq => ?_)
  · have h := it_t hcq h
    cases h
    exact hK W0 (lv_sub hl [0, 1, 2] rfl)
  · have h := it_f hcq h
    refine lv_aload_n hx hb dX10_shapes_63 rfl (lv_at hl 0 rfl) ?_
    obtain ⟨q1, h2, h⟩ := ob h
    refine xr_getR C0 W0 cl_X10 52 (by decide) fl_X10_180 rfl h2 dX10_shapes_64 ?_
    refine lv_iconst (v := 3) hx hb dX10_shapes_67 (by decide) ?_
    refine lv_iload_n hx hb dX10_shapes_68 rfl (lv_at hl 2 rfl) ?_
    refine lv_imul hx hb dX10_shapes_69 ?_
    refine lv_iload_n hx hb dX10_shapes_70 rfl (lv_at hl 3 rfl) ?_
    refine lv_iadd hx hb dX10_shapes_71 ?_
    refine lv_aload_n hx hb dX10_shapes_72 rfl (lv_at hl 0 rfl) ?_
    refine lv_iload_n hx hb dX10_shapes_73 rfl (lv_at hl 1 rfl) ?_
    refine lv_iload_n hx hb dX10_shapes_74 rfl (lv_at hl 2 rfl) ?_
    refine lv_iload_n hx hb dX10_shapes_75 rfl (lv_at hl 3 rfl) ?_
    obtain ⟨u3, h4, h⟩ := ob h
    obtain ⟨r5, h6, h⟩ := ob h
    refine xr_V (As := [.int l1, .int l2, .int l3]) (rest := [.int ((3 * l2) + l3), .ref q1]) C0 W0 (ctX10_handOf l G h6) (gK_of h4) (rr := (RX10, TX10, 57)) rfl rfl mc_X10_handOf mv_X10_handOf ml_X10_328 ⟨by decide, by decide⟩ rfl hl.1 rfl (Nat.le_of_ble_eq_true rfl) ⟨by decide, by decide⟩ dX10_shapes_76 (fun H locs W0 => ?_)
    refine W.cs (cells' := 0) (slots' := 0) rfl rfl ?_
    refine W.eq (g2 := F0 m 79 ls [.int r5.1, .int ((3 * l2) + l3), .ref q1]) rfl ?_
    refine lv_if_lt (tgt := 92) hx hb dX10_shapes_79 (by decide) (fun hcq => ?_) (fun hcq => ?_)
    · have h := it_t hcq h
      refine lv_iload_n hx hb dX10_shapes_92 rfl (lv_at hl 3 rfl) ?_
      refine lv_iconst (v := 1) hx hb dX10_shapes_93 (by decide) ?_
      refine lv_icmp_ne (tgt := 131) hx hb dX10_shapes_94 (by decide) (fun hcq => ?_) (fun hcq => ?_)
      · have h := it_f hcq h
        refine lv_aload_n hx hb dX10_shapes_131 rfl (lv_at hl 0 rfl) ?_
        obtain ⟨q7, h8, h⟩ := ob h
        refine xr_getR C0 W0 cl_X10 52 (by decide) fl_X10_180 rfl h8 dX10_shapes_132 ?_
        refine lv_iconst (v := 3) hx hb dX10_shapes_135 (by decide) ?_
        refine lv_iload_n hx hb dX10_shapes_136 rfl (lv_at hl 2 rfl) ?_
        refine lv_imul hx hb dX10_shapes_137 ?_
        refine lv_iload_n hx hb dX10_shapes_138 rfl (lv_at hl 3 rfl) ?_
        refine lv_iadd hx hb dX10_shapes_139 ?_
        obtain ⟨v9, h10, h⟩ := ob h
        refine xr_iald C0 W0 h10 dX10_shapes_140 ?_
        exact tX10_shapes_j141 C0 hret hrec hK W0 (lv_sub hl [0, 1, 2, 3] rfl) h
      · have h := it_t hcq h
        refine lv_aload_n hx hb dX10_shapes_97 rfl (lv_at hl 0 rfl) ?_
        obtain ⟨q11, h12, h⟩ := ob h
        refine xr_getR C0 W0 cl_X10 52 (by decide) fl_X10_180 rfl h12 dX10_shapes_98 ?_
        refine lv_iconst (v := 3) hx hb dX10_shapes_101 (by decide) ?_
        refine lv_iload_n hx hb dX10_shapes_102 rfl (lv_at hl 2 rfl) ?_
        refine lv_imul hx hb dX10_shapes_103 ?_
        refine lv_iconst (v := 1) hx hb dX10_shapes_104 (by decide) ?_
        refine lv_iadd hx hb dX10_shapes_105 ?_
        obtain ⟨v13, h14, h⟩ := ob h
        refine xr_iald C0 W0 h14 dX10_shapes_106 ?_
        refine lv_aload_n hx hb dX10_shapes_107 rfl (lv_at hl 0 rfl) ?_
        obtain ⟨q15, h16, h⟩ := ob h
        refine xr_getR C0 W0 cl_X10 11 (by decide) fl_X10_71 rfl h16 dX10_shapes_108 ?_
        refine lv_aload_n hx hb dX10_shapes_111 rfl (lv_at hl 0 rfl) ?_
        obtain ⟨v17, h18, h⟩ := ob h
        refine xr_getI C0 W0 cl_X10 10 (by decide) fl_X10_246 rfl h18 dX10_shapes_112 ?_
        obtain ⟨v19, h20, h⟩ := ob h
        refine xr_iald C0 W0 h20 dX10_shapes_115 ?_
        refine lv_aload_n hx hb dX10_shapes_116 rfl (lv_at hl 0 rfl) ?_
        obtain ⟨q21, h22, h⟩ := ob h
        refine xr_getR C0 W0 cl_X10 12 (by decide) fl_X10_74 rfl h22 dX10_shapes_117 ?_
        refine lv_aload_n hx hb dX10_shapes_120 rfl (lv_at hl 0 rfl) ?_
        obtain ⟨v23, h24, h⟩ := ob h
        refine xr_getI C0 W0 cl_X10 10 (by decide) fl_X10_246 rfl h24 dX10_shapes_121 ?_
        obtain ⟨v25, h26, h⟩ := ob h
        refine xr_iald C0 W0 h26 dX10_shapes_124 ?_
        obtain ⟨r27, h28, h⟩ := ob h
        refine xr_S (As := [.int v13, .int v19, .int v25]) (rest := [.int ((3 * l2) + l3), .ref q1]) C0 W0 (ctX10_within l G h28) mc_X10_within ms_X10_within ml_X10_319 ⟨by decide, by decide⟩ rfl hl.1 rfl (Nat.le_of_ble_eq_true rfl) ⟨by decide, by decide⟩ dX10_shapes_125 (fun H locs W0 => ?_)
        refine W.cs (cells' := 0) (slots' := 0) rfl rfl ?_
        refine W.eq (g2 := F0 m 128 ls [.int r27.1, .int ((3 * l2) + l3), .ref q1]) rfl ?_
        refine lv_goto (tgt := 141) hx hb dX10_shapes_128 (by decide) ?_
        exact tX10_shapes_j141 C0 hret hrec hK W0 (lv_sub hl [0, 1, 2, 3] rfl) h
    · have h := it_f hcq h
      refine lv_aload_n hx hb dX10_shapes_82 rfl (lv_at hl 0 rfl) ?_
      refine lv_iload_n hx hb dX10_shapes_83 rfl (lv_at hl 1 rfl) ?_
      refine lv_iload_n hx hb dX10_shapes_84 rfl (lv_at hl 2 rfl) ?_
      refine lv_iload_n hx hb dX10_shapes_85 rfl (lv_at hl 3 rfl) ?_
      obtain ⟨u29, h30, h⟩ := ob h
      obtain ⟨r31, h32, h⟩ := ob h
      refine xr_V (As := [.int l1, .int l2, .int l3]) (rest := [.int ((3 * l2) + l3), .ref q1]) C0 W0 (ctX10_handOf l G h32) (gK_of h30) (rr := (RX10, TX10, 57)) rfl rfl mc_X10_handOf mv_X10_handOf ml_X10_328 ⟨by decide, by decide⟩ rfl hl.1 rfl (Nat.le_of_ble_eq_true rfl) ⟨by decide, by decide⟩ dX10_shapes_86 (fun H locs W0 => ?_)
      refine W.cs (cells' := 0) (slots' := 0) rfl rfl ?_
      refine W.eq (g2 := F0 m 89 ls [.int r31.1, .int ((3 * l2) + l3), .ref q1]) rfl ?_
      refine lv_goto (tgt := 141) hx hb dX10_shapes_89 (by decide) ?_
      exact tX10_shapes_j141 C0 hret hrec hK W0 (lv_sub hl [0, 1, 2, 3] rfl) h
theorem tX10_shapes_l58 {p : Program} {l : Launch} {e : Env} {s : State} {m : MethodId} {args : Array Value} {below : List Frame} {meth : Method} {c : Code} {G : XG} {X0 : XW} (C0 : XC p s m args meth c RX10 cX10_shapes 4 G) (hret : meth.sig.returnType = none) {r : XW} {l0 : Nat} {l1 : Int32} {l2 : Int32} {Q : State → Prop} (hK : ∀ {H : Heap} {locs : List Loc} {ls : Array Slot}, XD G X0 r s H locs → lv_has ls 4 [(0, .ref l0), (1, .int l1), (2, .int l2)] → W p l e { frames := 3, cells := 0, slots := 0, locals := 180 } s m args below meth c H locs 0 0 Q (F0 m 148 ls [])) : ∀ (n : Nat) {y3 : Int32} {X : XW} {H : Heap} {locs : List Loc} {ls : Array Slot}, XD G X0 X s H locs → lv_has ls 4 [(0, .ref l0), (1, .int l1), (2, .int l2), (3, .int y3)] → fX10_shapes_l58 l0 l1 l2 n y3 X = some r → W p l e { frames := 3, cells := 0, slots := 0, locals := 180 } s m args below meth c H locs 0 0 Q (F0 m 58 ls []) := by
  intro n
  induction n with
  | zero =>
    intro y3 X H locs ls W0 hl h
    cases h
  | succ n ih =>
    intro y3 X H locs ls W0 hl h
    exact tX10_shapes_l58_b C0 hret (rec := fX10_shapes_l58 l0 l1 l2 n) (fun W0 hl h => ih W0 hl h) hK W0 hl h
theorem tX10_shapes_l48_b {p : Program} {l : Launch} {e : Env} {s : State} {m : MethodId} {args : Array Value} {below : List Frame} {meth : Method} {c : Code} {G : XG} {X0 : XW} (C0 : XC p s m args meth c RX10 cX10_shapes 4 G) (hret : meth.sig.returnType = none) {r : XW} {l0 : Nat} {l1 : Int32} {Q : State → Prop} {rec : Int32 → XW → Option (XW)} (hrec : ∀ {y2 : Int32} {X : XW} {H : Heap} {locs : List Loc} {ls : Array Slot}, XD G X0 X s H locs → lv_has ls 4 [(0, .ref l0), (1, .int l1), (2, .int y2)] → rec y2 X = some r → W p l e { frames := 3, cells := 0, slots := 0, locals := 180 } s m args below meth c H locs 0 0 Q (F0 m 48 ls [])) (hK : ∀ {H : Heap} {locs : List Loc} {ls : Array Slot}, XD G X0 r s H locs → lv_has ls 4 [(0, .ref l0), (1, .int l1)] → W p l e { frames := 3, cells := 0, slots := 0, locals := 180 } s m args below meth c H locs 0 0 Q (F0 m 154 ls []))  {l2 : Int32} {X : XW} {H : Heap} {locs : List Loc} {ls : Array Slot} (W0 : XD G X0 X s H locs) (hl : lv_has ls 4 [(0, .ref l0), (1, .int l1), (2, .int l2)]) (h : fX10_shapes_l48_b rec l0 l1 l2 X = some r) : W p l e { frames := 3, cells := 0, slots := 0, locals := 180 } s m args below meth c H locs 0 0 Q (F0 m 48 ls []) := by
  have hx := C0.1
  have hb := C0.2.1
  unfold fX10_shapes_l48_b at h
  refine lv_iload_n hx hb dX10_shapes_48 rfl (lv_at hl 2 rfl) ?_
  refine lv_aload_n hx hb dX10_shapes_49 rfl (lv_at hl 0 rfl) ?_
  obtain ⟨v1, h2, h⟩ := ob h
  refine xr_getI C0 W0 cl_X10 47 (by decide) fl_X10_310 rfl h2 dX10_shapes_50 ?_
  refine lv_icmp_ge (tgt := 154) hx hb dX10_shapes_53 (by decide) (fun hcq => ?_) (fun hcq => ?_)
  · have h := it_t hcq h
    cases h
    exact hK W0 (lv_sub hl [0, 1] rfl)
  · have h := it_f hcq h
    refine lv_iconst (v := 0) hx hb dX10_shapes_56 (by decide) ?_
    refine lv_istore_n (lv' := [(3, .int 0), (0, .ref l0), (1, .int l1), (2, .int l2)]) hx hb dX10_shapes_57 rfl hl (by decide) rfl (fun ls hl => ?_)
    obtain ⟨r3, h4, h⟩ := ob h
    refine tX10_shapes_l58 C0 hret (fun {H} {locs} {ls} W0 hl => ?_) FU W0 (lv_sub hl [1, 2, 3, 0] rfl) h4
    refine lv_iinc (v := (l2 + 1)) (lv' := [(2, .int (l2 + 1)), (0, .ref l0), (1, .int l1)]) hx hb dX10_shapes_148 hl (k := 2) rfl (ii (by decide)) (by decide) rfl (fun ls hl => ?_)
    refine lv_goto (tgt := 48) hx hb dX10_shapes_151 (by decide) ?_
    exact hrec W0 (lv_sub hl [1, 2, 0] rfl) h
theorem tX10_shapes_l48 {p : Program} {l : Launch} {e : Env} {s : State} {m : MethodId} {args : Array Value} {below : List Frame} {meth : Method} {c : Code} {G : XG} {X0 : XW} (C0 : XC p s m args meth c RX10 cX10_shapes 4 G) (hret : meth.sig.returnType = none) {r : XW} {l0 : Nat} {l1 : Int32} {Q : State → Prop} (hK : ∀ {H : Heap} {locs : List Loc} {ls : Array Slot}, XD G X0 r s H locs → lv_has ls 4 [(0, .ref l0), (1, .int l1)] → W p l e { frames := 3, cells := 0, slots := 0, locals := 180 } s m args below meth c H locs 0 0 Q (F0 m 154 ls [])) : ∀ (n : Nat) {y2 : Int32} {X : XW} {H : Heap} {locs : List Loc} {ls : Array Slot}, XD G X0 X s H locs → lv_has ls 4 [(0, .ref l0), (1, .int l1), (2, .int y2)] → fX10_shapes_l48 l0 l1 n y2 X = some r → W p l e { frames := 3, cells := 0, slots := 0, locals := 180 } s m args below meth c H locs 0 0 Q (F0 m 48 ls []) := by
  intro n
  induction n with
  | zero =>
    intro y2 X H locs ls W0 hl h
    cases h
  | succ n ih =>
    intro y2 X H locs ls W0 hl h
    exact tX10_shapes_l48_b C0 hret (rec := fX10_shapes_l48 l0 l1 n) (fun W0 hl h => ih W0 hl h) hK W0 hl h
theorem tX10_shapes_l156_b {p : Program} {l : Launch} {e : Env} {s : State} {m : MethodId} {args : Array Value} {below : List Frame} {meth : Method} {c : Code} {G : XG} {X0 : XW} (C0 : XC p s m args meth c RX10 cX10_shapes 4 G) (hret : meth.sig.returnType = none) {r : XW} {l0 : Nat} {l1 : Int32} {Q : State → Prop} {rec : Int32 → XW → Option (XW)} (hrec : ∀ {y2 : Int32} {X : XW} {H : Heap} {locs : List Loc} {ls : Array Slot}, XD G X0 X s H locs → lv_has ls 4 [(0, .ref l0), (1, .int l1), (2, .int y2)] → rec y2 X = some r → W p l e { frames := 3, cells := 0, slots := 0, locals := 180 } s m args below meth c H locs 0 0 Q (F0 m 156 ls [])) (hK : ∀ {H : Heap} {locs : List Loc} {ls : Array Slot}, XD G X0 r s H locs → lv_has ls 4 [(0, .ref l0), (1, .int l1)] → W p l e { frames := 3, cells := 0, slots := 0, locals := 180 } s m args below meth c H locs 0 0 Q (F0 m 179 ls []))  {l2 : Int32} {X : XW} {H : Heap} {locs : List Loc} {ls : Array Slot} (W0 : XD G X0 X s H locs) (hl : lv_has ls 4 [(0, .ref l0), (1, .int l1), (2, .int l2)]) (h : fX10_shapes_l156_b rec l0 l1 l2 X = some r) : W p l e { frames := 3, cells := 0, slots := 0, locals := 180 } s m args below meth c H locs 0 0 Q (F0 m 156 ls []) := by
  have hx := C0.1
  have hb := C0.2.1
  unfold fX10_shapes_l156_b at h
  refine lv_iload_n hx hb dX10_shapes_156 rfl (lv_at hl 2 rfl) ?_
  refine lv_aload_n hx hb dX10_shapes_157 rfl (lv_at hl 0 rfl) ?_
  obtain ⟨v1, h2, h⟩ := ob h
  refine xr_getI C0 W0 cl_X10 47 (by decide) fl_X10_310 rfl h2 dX10_shapes_158 ?_
  refine lv_icmp_ge (tgt := 179) hx hb dX10_shapes_161 (by decide) (fun hcq => ?_) (fun hcq => ?_)
  · have h := it_t hcq h
    cases h
    exact hK W0 (lv_sub hl [0, 1] rfl)
  · have h := it_f hcq h
    refine lv_aload_n hx hb dX10_shapes_164 rfl (lv_at hl 0 rfl) ?_
    refine lv_iload_n hx hb dX10_shapes_165 rfl (lv_at hl 1 rfl) ?_
    refine lv_iload_n hx hb dX10_shapes_166 rfl (lv_at hl 2 rfl) ?_
    refine lv_iload_n hx hb dX10_shapes_167 rfl (lv_at hl 2 rfl) ?_
    refine lv_iconst (v := 1) hx hb dX10_shapes_168 (by decide) ?_
    refine lv_isub hx hb dX10_shapes_169 ?_
    obtain ⟨u3, h4, h⟩ := ob h
    obtain ⟨X5, h6, h⟩ := ob h
    refine xr_V (As := [.int l1, .int l2, .int (l2 - 1)]) (rest := []) C0 W0 (ctX10_nears l G h6) (gK_of h4) (rr := (RX10, TX10, 57)) rfl rfl mc_X10_nears mv_X10_nears ml_X10_331 ⟨by decide, by decide⟩ rfl hl.1 rfl (Nat.le_of_ble_eq_true rfl) ⟨by decide, by decide⟩ dX10_shapes_170 (fun H locs W0 => ?_)
    refine W.cs (cells' := 0) (slots' := 0) rfl rfl ?_
    refine W.eq (g2 := F0 m 173 ls []) rfl ?_
    refine lv_iinc (v := (l2 + 1)) (lv' := [(2, .int (l2 + 1)), (0, .ref l0), (1, .int l1)]) hx hb dX10_shapes_173 hl (k := 2) rfl (ii (by decide)) (by decide) rfl (fun ls hl => ?_)
    refine lv_goto (tgt := 156) hx hb dX10_shapes_176 (by decide) ?_
    exact hrec W0 (lv_sub hl [1, 2, 0] rfl) h
theorem tX10_shapes_l156 {p : Program} {l : Launch} {e : Env} {s : State} {m : MethodId} {args : Array Value} {below : List Frame} {meth : Method} {c : Code} {G : XG} {X0 : XW} (C0 : XC p s m args meth c RX10 cX10_shapes 4 G) (hret : meth.sig.returnType = none) {r : XW} {l0 : Nat} {l1 : Int32} {Q : State → Prop} (hK : ∀ {H : Heap} {locs : List Loc} {ls : Array Slot}, XD G X0 r s H locs → lv_has ls 4 [(0, .ref l0), (1, .int l1)] → W p l e { frames := 3, cells := 0, slots := 0, locals := 180 } s m args below meth c H locs 0 0 Q (F0 m 179 ls [])) : ∀ (n : Nat) {y2 : Int32} {X : XW} {H : Heap} {locs : List Loc} {ls : Array Slot}, XD G X0 X s H locs → lv_has ls 4 [(0, .ref l0), (1, .int l1), (2, .int y2)] → fX10_shapes_l156 l0 l1 n y2 X = some r → W p l e { frames := 3, cells := 0, slots := 0, locals := 180 } s m args below meth c H locs 0 0 Q (F0 m 156 ls []) := by
  intro n
  induction n with
  | zero =>
    intro y2 X H locs ls W0 hl h
    cases h
  | succ n ih =>
    intro y2 X H locs ls W0 hl h
    exact tX10_shapes_l156_b C0 hret (rec := fX10_shapes_l156 l0 l1 n) (fun W0 hl h => ih W0 hl h) hK W0 hl h
theorem tX10_shapes_l186_b {p : Program} {l : Launch} {e : Env} {s : State} {m : MethodId} {args : Array Value} {below : List Frame} {meth : Method} {c : Code} {G : XG} {X0 : XW} (C0 : XC p s m args meth c RX10 cX10_shapes 4 G) (hret : meth.sig.returnType = none) {r : XW} {l0 : Nat} {l1 : Int32} {Q : State → Prop} {rec : Int32 → XW → Option (XW)} (hrec : ∀ {y2 : Int32} {X : XW} {H : Heap} {locs : List Loc} {ls : Array Slot}, XD G X0 X s H locs → lv_has ls 4 [(0, .ref l0), (1, .int l1), (2, .int y2)] → rec y2 X = some r → W p l e { frames := 3, cells := 0, slots := 0, locals := 180 } s m args below meth c H locs 0 0 Q (F0 m 186 ls [])) (hK : ∀ {H : Heap} {locs : List Loc} {ls : Array Slot}, XD G X0 r s H locs → lv_has ls 4 [] → W p l e { frames := 3, cells := 0, slots := 0, locals := 180 } s m args below meth c H locs 0 0 Q (F0 m 205 ls []))  {l2 : Int32} {X : XW} {H : Heap} {locs : List Loc} {ls : Array Slot} (W0 : XD G X0 X s H locs) (hl : lv_has ls 4 [(0, .ref l0), (1, .int l1), (2, .int l2)]) (h : fX10_shapes_l186_b rec l0 l1 l2 X = some r) : W p l e { frames := 3, cells := 0, slots := 0, locals := 180 } s m args below meth c H locs 0 0 Q (F0 m 186 ls []) := by
  have hx := C0.1
  have hb := C0.2.1
  unfold fX10_shapes_l186_b at h
  refine lv_iload_n hx hb dX10_shapes_186 rfl (lv_at hl 2 rfl) ?_
  refine lv_if_lt (tgt := 205) hx hb dX10_shapes_187 (by decide) (fun hcq => ?_) (fun hcq => ?_)
  · have h := it_t hcq h
    cases h
    exact hK W0 (lv_sub hl [] rfl)
  · have h := it_f hcq h
    refine lv_aload_n hx hb dX10_shapes_190 rfl (lv_at hl 0 rfl) ?_
    refine lv_iload_n hx hb dX10_shapes_191 rfl (lv_at hl 1 rfl) ?_
    refine lv_iload_n hx hb dX10_shapes_192 rfl (lv_at hl 2 rfl) ?_
    refine lv_iload_n hx hb dX10_shapes_193 rfl (lv_at hl 2 rfl) ?_
    refine lv_iconst (v := 1) hx hb dX10_shapes_194 (by decide) ?_
    refine lv_iadd hx hb dX10_shapes_195 ?_
    obtain ⟨u1, h2, h⟩ := ob h
    obtain ⟨X3, h4, h⟩ := ob h
    refine xr_V (As := [.int l1, .int l2, .int (l2 + 1)]) (rest := []) C0 W0 (ctX10_nears l G h4) (gK_of h2) (rr := (RX10, TX10, 57)) rfl rfl mc_X10_nears mv_X10_nears ml_X10_331 ⟨by decide, by decide⟩ rfl hl.1 rfl (Nat.le_of_ble_eq_true rfl) ⟨by decide, by decide⟩ dX10_shapes_196 (fun H locs W0 => ?_)
    refine W.cs (cells' := 0) (slots' := 0) rfl rfl ?_
    refine W.eq (g2 := F0 m 199 ls []) rfl ?_
    refine lv_iinc (v := (l2 + (-1))) (lv' := [(2, .int (l2 + (-1))), (0, .ref l0), (1, .int l1)]) hx hb dX10_shapes_199 hl (k := 2) rfl (ii (by decide)) (by decide) rfl (fun ls hl => ?_)
    refine lv_goto (tgt := 186) hx hb dX10_shapes_202 (by decide) ?_
    exact hrec W0 (lv_sub hl [1, 2, 0] rfl) h
theorem tX10_shapes_l186 {p : Program} {l : Launch} {e : Env} {s : State} {m : MethodId} {args : Array Value} {below : List Frame} {meth : Method} {c : Code} {G : XG} {X0 : XW} (C0 : XC p s m args meth c RX10 cX10_shapes 4 G) (hret : meth.sig.returnType = none) {r : XW} {l0 : Nat} {l1 : Int32} {Q : State → Prop} (hK : ∀ {H : Heap} {locs : List Loc} {ls : Array Slot}, XD G X0 r s H locs → lv_has ls 4 [] → W p l e { frames := 3, cells := 0, slots := 0, locals := 180 } s m args below meth c H locs 0 0 Q (F0 m 205 ls [])) : ∀ (n : Nat) {y2 : Int32} {X : XW} {H : Heap} {locs : List Loc} {ls : Array Slot}, XD G X0 X s H locs → lv_has ls 4 [(0, .ref l0), (1, .int l1), (2, .int y2)] → fX10_shapes_l186 l0 l1 n y2 X = some r → W p l e { frames := 3, cells := 0, slots := 0, locals := 180 } s m args below meth c H locs 0 0 Q (F0 m 186 ls []) := by
  intro n
  induction n with
  | zero =>
    intro y2 X H locs ls W0 hl h
    cases h
  | succ n ih =>
    intro y2 X H locs ls W0 hl h
    exact tX10_shapes_l186_b C0 hret (rec := fX10_shapes_l186 l0 l1 n) (fun W0 hl h => ih W0 hl h) hK W0 hl h
theorem ctX10_shapes (l : Launch) (G : XG) {l0 : Nat} {l1 : Int32} {X : XW} {r : XW}  (h : fX10_shapes l0 l1 X = some r) : XM l G yX10_shapes cX10_shapes 4 none 3 180 0 0 [.ref l0, .int l1] X (none, r) := by
  refine xm_of (own := RX10) (by decide) rfl (Nat.le_of_ble_eq_true rfl) ?_
  intro p e s m below meth c ls C0 W0 hret hnm hl
  have hx := C0.1
  have hb := C0.2.1
  have hl : lv_has ls 4 [(0, .ref l0), (1, .int l1)] := hl
  unfold fX10_shapes at h
  refine lv_aload_n hx hb dX10_shapes_0 rfl (lv_at hl 0 rfl) ?_
  refine lv_iload_n hx hb dX10_shapes_1 rfl (lv_at hl 1 rfl) ?_
  obtain ⟨u1, h2, h⟩ := ob h
  obtain ⟨X3, h4, h⟩ := ob h
  refine xr_V (As := [.int l1]) (rest := []) C0 W0 (ctX10_setsOut l G h4) (gK_of h2) (rr := (RX10, TX10, 57)) rfl rfl mc_X10_setsOut mv_X10_setsOut ml_X10_322 ⟨by decide, by decide⟩ rfl hl.1 rfl (Nat.le_of_ble_eq_true rfl) ⟨by decide, by decide⟩ dX10_shapes_2 (fun H locs W0 => ?_)
  refine W.cs (cells' := 0) (slots' := 0) rfl rfl ?_
  refine W.eq (g2 := F0 m 5 ls []) rfl ?_
  refine lv_bipush (v := 24) hx hb dX10_shapes_5 (by decide) ?_
  refine lv_aload_n hx hb dX10_shapes_7 rfl (lv_at hl 0 rfl) ?_
  obtain ⟨v5, h6, h⟩ := ob h
  refine xr_getI C0 W0 cl_X10 10 (by decide) fl_X10_246 rfl h6 dX10_shapes_8 ?_
  refine lv_imul hx hb dX10_shapes_11 ?_
  refine lv_istore_n (lv' := [(2, .int (24 * v5)), (0, .ref l0), (1, .int l1)]) hx hb dX10_shapes_12 rfl hl (by decide) rfl (fun ls hl => ?_)
  obtain ⟨r7, h8, h⟩ := ob h
  refine tX10_shapes_l13 C0 hret (fun {H} {locs} {ls} W0 hl => ?_) FU W0 (lv_sub hl [1, 2, 0] rfl) h8
  refine lv_iconst (v := 0) hx hb dX10_shapes_46 (by decide) ?_
  refine lv_istore_n (lv' := [(2, .int 0), (0, .ref l0), (1, .int l1)]) hx hb dX10_shapes_47 rfl hl (by decide) rfl (fun ls hl => ?_)
  obtain ⟨r9, h10, h⟩ := ob h
  refine tX10_shapes_l48 C0 hret (fun {H} {locs} {ls} W0 hl => ?_) FU W0 (lv_sub hl [1, 2, 0] rfl) h10
  refine lv_iconst (v := 1) hx hb dX10_shapes_154 (by decide) ?_
  refine lv_istore_n (lv' := [(2, .int 1), (0, .ref l0), (1, .int l1)]) hx hb dX10_shapes_155 rfl hl (by decide) rfl (fun ls hl => ?_)
  obtain ⟨r11, h12, h⟩ := ob h
  refine tX10_shapes_l156 C0 hret (fun {H} {locs} {ls} W0 hl => ?_) FU W0 (lv_sub hl [1, 2, 0] rfl) h12
  refine lv_aload_n hx hb dX10_shapes_179 rfl (lv_at hl 0 rfl) ?_
  obtain ⟨v13, h14, h⟩ := ob h
  refine xr_getI C0 W0 cl_X10 47 (by decide) fl_X10_310 rfl h14 dX10_shapes_180 ?_
  refine lv_iconst (v := 2) hx hb dX10_shapes_183 (by decide) ?_
  refine lv_isub hx hb dX10_shapes_184 ?_
  refine lv_istore_n (lv' := [(2, .int (v13 - 2)), (0, .ref l0), (1, .int l1)]) hx hb dX10_shapes_185 rfl hl (by decide) rfl (fun ls hl => ?_)
  obtain ⟨r15, h16, h⟩ := ob h
  refine tX10_shapes_l186 C0 hret (fun {H} {locs} {ls} W0 hl => ?_) FU W0 (lv_sub hl [1, 2, 0] rfl) h16
  exact xr_vret C0 W0 hret (Option.some.inj h).symm dX10_shapes_205
