def fX6_layWord_j229 (rec : Int32 → XW → Option (XW)) (l0 : Nat) (l1 : Nat) (l2 : Int32) (l3 : Int32) (l4 : Int32) (l5 : Int32) (s0 : Int32) (s1 : Int32) (s2 : Nat) (X : XW) : Option (XW) :=
  uI X s2 s1 s0 >>= fun X1 =>
  gR X1 l0 6 1 >>= fun q3 =>
  aQ X1 q3 6 11 >>= fun q5 =>
  gI X1 l0 6 3 >>= fun v7 =>
  uI X1 q5 v7 l2 >>= fun X9 =>
  gI X9 l0 6 3 >>= fun v11 =>
  pI X9 l0 6 3 (v11 + 1) >>= fun X13 =>
  rec (l5 + 1) X13
def fX6_layWord_j186 (rec : Int32 → XW → Option (XW)) (l0 : Nat) (l1 : Nat) (l2 : Int32) (l3 : Int32) (l4 : Int32) (l5 : Int32) (s0 : Int32) (s1 : Int32) (s2 : Nat) (X : XW) : Option (XW) :=
  uI X s2 s1 s0 >>= fun X1 =>
  gR X1 l0 6 1 >>= fun q3 =>
  aQ X1 q3 6 9 >>= fun q5 =>
  gI X1 l0 6 3 >>= fun v7 =>
  uI X1 q5 v7 l3 >>= fun X9 =>
  gR X9 l0 6 1 >>= fun q11 =>
  aQ X9 q11 6 10 >>= fun q13 =>
  gI X9 l0 6 3 >>= fun v15 =>
  gR X9 l0 6 0 >>= fun q17 =>
  gI X9 q17 3 7 >>= fun v19 =>
  if (l3 = (v19 - 1) : Prop) then (fX6_layWord_j229 rec l0 l1 l2 l3 l4 l5 1 v15 q13 X9)
  else (fX6_layWord_j229 rec l0 l1 l2 l3 l4 l5 0 v15 q13 X9)
def fX6_layWord_j160 (rec : Int32 → XW → Option (XW)) (l0 : Nat) (l1 : Nat) (l2 : Int32) (l3 : Int32) (l4 : Int32) (l5 : Int32) (s0 : Int32) (s1 : Int32) (s2 : Nat) (X : XW) : Option (XW) :=
  uI X s2 s1 s0 >>= fun X1 =>
  gR X1 l0 6 1 >>= fun q3 =>
  aQ X1 q3 6 8 >>= fun q5 =>
  gI X1 l0 6 3 >>= fun v7 =>
  gR X1 l1 4 4 >>= fun q9 =>
  aI X1 q9 3 l2 >>= fun v11 =>
  if (v11 = 0 : Prop) then (fX6_layWord_j186 rec l0 l1 l2 l3 l4 l5 0 v7 q5 X1)
  else (fX6_layWord_j186 rec l0 l1 l2 l3 l4 l5 1 v7 q5 X1)
def fX6_layWord_j134 (rec : Int32 → XW → Option (XW)) (l0 : Nat) (l1 : Nat) (l2 : Int32) (l3 : Int32) (l4 : Int32) (l5 : Int32) (s0 : Int32) (s1 : Int32) (s2 : Nat) (X : XW) : Option (XW) :=
  uI X s2 s1 s0 >>= fun X1 =>
  gR X1 l0 6 1 >>= fun q3 =>
  aQ X1 q3 6 7 >>= fun q5 =>
  gI X1 l0 6 3 >>= fun v7 =>
  gR X1 l1 4 3 >>= fun q9 =>
  aI X1 q9 3 l2 >>= fun v11 =>
  if (v11 = 0 : Prop) then (fX6_layWord_j160 rec l0 l1 l2 l3 l4 l5 0 v7 q5 X1)
  else (fX6_layWord_j160 rec l0 l1 l2 l3 l4 l5 1 v7 q5 X1)
def fX6_layWord_j133 (rec : Int32 → XW → Option (XW)) (l0 : Nat) (l1 : Nat) (l2 : Int32) (l3 : Int32) (l4 : Int32) (l5 : Int32) (s0 : Int32) (s1 : Nat) (X : XW) : Option (XW) :=
  fX6_layWord_j134 rec l0 l1 l2 l3 l4 l5 0 s0 s1 X
def fX6_layWord_j100 (rec : Int32 → XW → Option (XW)) (l0 : Nat) (l1 : Nat) (l2 : Int32) (l3 : Int32) (l4 : Int32) (l5 : Int32) (l6 : Int32) (s0 : Int32) (s1 : Int32) (s2 : Nat) (X : XW) : Option (XW) :=
  uI X s2 s1 s0 >>= fun X1 =>
  gR X1 l0 6 1 >>= fun q3 =>
  aQ X1 q3 6 6 >>= fun q5 =>
  gI X1 l0 6 3 >>= fun v7 =>
  if (l6 = 0 : Prop) then (fX6_layWord_j133 rec l0 l1 l2 l3 l4 l5 v7 q5 X1)
  else (gR X1 l0 6 0 >>= fun q9 =>
    gR X1 q9 3 4 >>= fun q11 =>
    aI X1 q11 3 l2 >>= fun v13 =>
    if (v13 = 0 : Prop) then (fX6_layWord_j133 rec l0 l1 l2 l3 l4 l5 v7 q5 X1)
    else (fX6_layWord_j134 rec l0 l1 l2 l3 l4 l5 1 v7 q5 X1))
def fX6_layWord_j30 (rec : Int32 → XW → Option (XW)) (l0 : Nat) (l1 : Nat) (l2 : Int32) (l3 : Int32) (l4 : Int32) (l5 : Int32) (s0 : Int32) (X : XW) : Option (XW) :=
  gR X l0 6 1 >>= fun q1 =>
  aQ X q1 6 3 >>= fun q3 =>
  gI X l0 6 3 >>= fun v5 =>
  gI X l0 6 3 >>= fun v7 =>
  uI X q3 v5 (v7 - l4) >>= fun X9 =>
  gR X9 l0 6 1 >>= fun q11 =>
  aQ X9 q11 6 4 >>= fun q13 =>
  gI X9 l0 6 3 >>= fun v15 =>
  gR X9 l0 6 0 >>= fun q17 =>
  gR X9 q17 3 2 >>= fun q19 =>
  aI X9 q19 1 l3 >>= fun v21 =>
  gI X9 l0 6 3 >>= fun v23 =>
  uI X9 q13 v15 ((v21 - 1) - (v23 - l4)) >>= fun X25 =>
  gR X25 l0 6 1 >>= fun q27 =>
  aQ X25 q27 6 5 >>= fun q29 =>
  gI X25 l0 6 3 >>= fun v31 =>
  if (s0 = 0 : Prop) then (fX6_layWord_j100 rec l0 l1 l2 l3 l4 l5 s0 0 v31 q29 X25)
  else (fX6_layWord_j100 rec l0 l1 l2 l3 l4 l5 s0 1 v31 q29 X25)
def fX6_layWord_l3_b (rec : Int32 → XW → Option (XW)) (l0 : Nat) (l1 : Nat) (l2 : Int32) (l3 : Int32) (l4 : Int32) (l5 : Int32) (X : XW) : Option (XW) :=
  gR X l1 4 0 >>= fun q1 =>
  aI X q1 1 l2 >>= fun v3 =>
  if (v3 ≤ l5 : Prop) then (some (X))
  else (gR X l1 4 1 >>= fun q5 =>
    aI X q5 1 l2 >>= fun v7 =>
    if (l5 = v7 : Prop) then (fX6_layWord_j30 rec l0 l1 l2 l3 l4 l5 1 X)
    else (fX6_layWord_j30 rec l0 l1 l2 l3 l4 l5 0 X))
def fX6_layWord_l3 (l0 : Nat) (l1 : Nat) (l2 : Int32) (l3 : Int32) (l4 : Int32) (n : Nat) : Int32 → XW → Option (XW) := iter (fun rec => fX6_layWord_l3_b rec l0 l1 l2 l3 l4) (fun _ _ => none) n
def fX6_layWord (l0 : Nat) (l1 : Nat) (l2 : Int32) (l3 : Int32) (l4 : Int32) (X : XW) : Option (XW) :=
  fX6_layWord_l3 l0 l1 l2 l3 l4 FU 0 X >>= fun r1 =>
  some r1
theorem tX6_layWord_j229 {p : Program} {l : Launch} {e : Env} {s : State} {m : MethodId} {args : Array Value} {below : List Frame} {meth : Method} {c : Code} {G : XG} {X0 : XW} (C0 : XC p s m args meth c RX6 cX6_layWord 7 G) (hret : meth.sig.returnType = none) {r : XW} {l0 : Nat} {l1 : Nat} {l2 : Int32} {l3 : Int32} {l4 : Int32} {Q : State → Prop} {rec : Int32 → XW → Option (XW)} (hrec : ∀ {y5 : Int32} {X : XW} {H : Heap} {locs : List Loc} {ls : Array Slot}, XD G X0 X s H locs → lv_has ls 7 [(0, .ref l0), (1, .ref l1), (2, .int l2), (3, .int l3), (4, .int l4), (5, .int y5)] → rec y5 X = some r → W p l e { frames := 0, cells := 0, slots := 0, locals := 0 } s m args below meth c H locs 0 0 Q (F0 m 3 ls [])) (hK : ∀ {H : Heap} {locs : List Loc} {ls : Array Slot}, XD G X0 r s H locs → lv_has ls 7 [] → W p l e { frames := 0, cells := 0, slots := 0, locals := 0 } s m args below meth c H locs 0 0 Q (F0 m 259 ls []))  {l5 : Int32} {s0 : Int32} {s1 : Int32} {s2 : Nat} {X : XW} {H : Heap} {locs : List Loc} {ls : Array Slot} (W0 : XD G X0 X s H locs) (hl : lv_has ls 7 [(0, .ref l0), (1, .ref l1), (2, .int l2), (3, .int l3), (4, .int l4), (5, .int l5)]) (h : fX6_layWord_j229 rec l0 l1 l2 l3 l4 l5 s0 s1 s2 X = some r) : W p l e { frames := 0, cells := 0, slots := 0, locals := 0 } s m args below meth c H locs 0 0 Q (F0 m 229 ls [.int s0, .int s1, .ref s2]) := by
  have hx := C0.1
  have hb := C0.2.1
  unfold fX6_layWord_j229 at h
  obtain ⟨X1, h2, h⟩ := ob h
  refine xr_iast C0 W0 h2 dX6_layWord_229 (fun H locs W0 => ?_)
  refine lv_aload_n hx hb dX6_layWord_230 rfl (lv_at hl 0 rfl) ?_
  obtain ⟨q3, h4, h⟩ := ob h
  refine xr_getR C0 W0 cl_X6 1 (by decide) fl_X6_20 rfl h4 dX6_layWord_231 ?_
  refine lv_bipush (v := 11) hx hb dX6_layWord_234 (by decide) ?_
  obtain ⟨q5, h6, h⟩ := ob h
  refine xr_aldq C0 W0 6 (by decide) rfl rfl h6 dX6_layWord_236 ?_
  refine lv_aload_n hx hb dX6_layWord_237 rfl (lv_at hl 0 rfl) ?_
  obtain ⟨v7, h8, h⟩ := ob h
  refine xr_getI C0 W0 cl_X6 3 (by decide) fl_X6_27 rfl h8 dX6_layWord_238 ?_
  refine lv_iload_n hx hb dX6_layWord_241 rfl (lv_at hl 2 rfl) ?_
  obtain ⟨X9, h10, h⟩ := ob h
  refine xr_iast C0 W0 h10 dX6_layWord_242 (fun H locs W0 => ?_)
  refine lv_aload_n hx hb dX6_layWord_243 rfl (lv_at hl 0 rfl) ?_
  refine lv_dup hx hb dX6_layWord_244 rfl ?_
  obtain ⟨v11, h12, h⟩ := ob h
  refine xr_getI C0 W0 cl_X6 3 (by decide) fl_X6_27 rfl h12 dX6_layWord_245 ?_
  refine lv_iconst (v := 1) hx hb dX6_layWord_248 (by decide) ?_
  refine lv_iadd hx hb dX6_layWord_249 ?_
  obtain ⟨X13, h14, h⟩ := ob h
  refine xr_putI C0 W0 cl_X6 3 (by decide) fl_X6_27 rfl rfl rfl (by decide) h14 dX6_layWord_250 (fun H locs W0 => ?_)
  refine lv_iinc (v := (l5 + 1)) (lv' := [(5, .int (l5 + 1)), (0, .ref l0), (1, .ref l1), (2, .int l2), (3, .int l3), (4, .int l4)]) hx hb dX6_layWord_253 hl (k := 5) rfl (ii (by decide)) (by decide) rfl (fun ls hl => ?_)
  refine lv_goto (tgt := 3) hx hb dX6_layWord_256 (by decide) ?_
  exact hrec W0 (lv_sub hl [1, 2, 3, 4, 5, 0] rfl) h
theorem tX6_layWord_j186 {p : Program} {l : Launch} {e : Env} {s : State} {m : MethodId} {args : Array Value} {below : List Frame} {meth : Method} {c : Code} {G : XG} {X0 : XW} (C0 : XC p s m args meth c RX6 cX6_layWord 7 G) (hret : meth.sig.returnType = none) {r : XW} {l0 : Nat} {l1 : Nat} {l2 : Int32} {l3 : Int32} {l4 : Int32} {Q : State → Prop} {rec : Int32 → XW → Option (XW)} (hrec : ∀ {y5 : Int32} {X : XW} {H : Heap} {locs : List Loc} {ls : Array Slot}, XD G X0 X s H locs → lv_has ls 7 [(0, .ref l0), (1, .ref l1), (2, .int l2), (3, .int l3), (4, .int l4), (5, .int y5)] → rec y5 X = some r → W p l e { frames := 0, cells := 0, slots := 0, locals := 0 } s m args below meth c H locs 0 0 Q (F0 m 3 ls [])) (hK : ∀ {H : Heap} {locs : List Loc} {ls : Array Slot}, XD G X0 r s H locs → lv_has ls 7 [] → W p l e { frames := 0, cells := 0, slots := 0, locals := 0 } s m args below meth c H locs 0 0 Q (F0 m 259 ls []))  {l5 : Int32} {s0 : Int32} {s1 : Int32} {s2 : Nat} {X : XW} {H : Heap} {locs : List Loc} {ls : Array Slot} (W0 : XD G X0 X s H locs) (hl : lv_has ls 7 [(0, .ref l0), (1, .ref l1), (2, .int l2), (3, .int l3), (4, .int l4), (5, .int l5)]) (h : fX6_layWord_j186 rec l0 l1 l2 l3 l4 l5 s0 s1 s2 X = some r) : W p l e { frames := 0, cells := 0, slots := 0, locals := 0 } s m args below meth c H locs 0 0 Q (F0 m 186 ls [.int s0, .int s1, .ref s2]) := by
  have hx := C0.1
  have hb := C0.2.1
  unfold fX6_layWord_j186 at h
  obtain ⟨X1, h2, h⟩ := ob h
  refine xr_iast C0 W0 h2 dX6_layWord_186 (fun H locs W0 => ?_)
  refine lv_aload_n hx hb dX6_layWord_187 rfl (lv_at hl 0 rfl) ?_
  obtain ⟨q3, h4, h⟩ := ob h
  refine xr_getR C0 W0 cl_X6 1 (by decide) fl_X6_20 rfl h4 dX6_layWord_188 ?_
  refine lv_bipush (v := 9) hx hb dX6_layWord_191 (by decide) ?_
  obtain ⟨q5, h6, h⟩ := ob h
  refine xr_aldq C0 W0 6 (by decide) rfl rfl h6 dX6_layWord_193 ?_
  refine lv_aload_n hx hb dX6_layWord_194 rfl (lv_at hl 0 rfl) ?_
  obtain ⟨v7, h8, h⟩ := ob h
  refine xr_getI C0 W0 cl_X6 3 (by decide) fl_X6_27 rfl h8 dX6_layWord_195 ?_
  refine lv_iload_n hx hb dX6_layWord_198 rfl (lv_at hl 3 rfl) ?_
  obtain ⟨X9, h10, h⟩ := ob h
  refine xr_iast C0 W0 h10 dX6_layWord_199 (fun H locs W0 => ?_)
  refine lv_aload_n hx hb dX6_layWord_200 rfl (lv_at hl 0 rfl) ?_
  obtain ⟨q11, h12, h⟩ := ob h
  refine xr_getR C0 W0 cl_X6 1 (by decide) fl_X6_20 rfl h12 dX6_layWord_201 ?_
  refine lv_bipush (v := 10) hx hb dX6_layWord_204 (by decide) ?_
  obtain ⟨q13, h14, h⟩ := ob h
  refine xr_aldq C0 W0 6 (by decide) rfl rfl h14 dX6_layWord_206 ?_
  refine lv_aload_n hx hb dX6_layWord_207 rfl (lv_at hl 0 rfl) ?_
  obtain ⟨v15, h16, h⟩ := ob h
  refine xr_getI C0 W0 cl_X6 3 (by decide) fl_X6_27 rfl h16 dX6_layWord_208 ?_
  refine lv_iload_n hx hb dX6_layWord_211 rfl (lv_at hl 3 rfl) ?_
  refine lv_aload_n hx hb dX6_layWord_212 rfl (lv_at hl 0 rfl) ?_
  obtain ⟨q17, h18, h⟩ := ob h
  refine xr_getR C0 W0 cl_X6 0 (by decide) fl_X6_12 rfl h18 dX6_layWord_213 ?_
  obtain ⟨v19, h20, h⟩ := ob h
  refine xr_getI C0 W0 cl_X3 7 (by decide) fl_X6_38 rfl h20 dX6_layWord_216 ?_
  refine lv_iconst (v := 1) hx hb dX6_layWord_219 (by decide) ?_
  refine lv_isub hx hb dX6_layWord_220 ?_
  refine lv_icmp_ne (tgt := 228) hx hb dX6_layWord_221 (by decide) (fun hcq => ?_) (fun hcq => ?_)
  · have h := it_f hcq h
    refine lv_iconst (v := 0) hx hb dX6_layWord_228 (by decide) ?_
    exact tX6_layWord_j229 C0 hret hrec hK W0 (lv_sub hl [0, 1, 2, 3, 4, 5] rfl) h
  · have h := it_t hcq h
    refine lv_iconst (v := 1) hx hb dX6_layWord_224 (by decide) ?_
    refine lv_goto (tgt := 229) hx hb dX6_layWord_225 (by decide) ?_
    exact tX6_layWord_j229 C0 hret hrec hK W0 (lv_sub hl [0, 1, 2, 3, 4, 5] rfl) h
theorem tX6_layWord_j160 {p : Program} {l : Launch} {e : Env} {s : State} {m : MethodId} {args : Array Value} {below : List Frame} {meth : Method} {c : Code} {G : XG} {X0 : XW} (C0 : XC p s m args meth c RX6 cX6_layWord 7 G) (hret : meth.sig.returnType = none) {r : XW} {l0 : Nat} {l1 : Nat} {l2 : Int32} {l3 : Int32} {l4 : Int32} {Q : State → Prop} {rec : Int32 → XW → Option (XW)} (hrec : ∀ {y5 : Int32} {X : XW} {H : Heap} {locs : List Loc} {ls : Array Slot}, XD G X0 X s H locs → lv_has ls 7 [(0, .ref l0), (1, .ref l1), (2, .int l2), (3, .int l3), (4, .int l4), (5, .int y5)] → rec y5 X = some r → W p l e { frames := 0, cells := 0, slots := 0, locals := 0 } s m args below meth c H locs 0 0 Q (F0 m 3 ls [])) (hK : ∀ {H : Heap} {locs : List Loc} {ls : Array Slot}, XD G X0 r s H locs → lv_has ls 7 [] → W p l e { frames := 0, cells := 0, slots := 0, locals := 0 } s m args below meth c H locs 0 0 Q (F0 m 259 ls []))  {l5 : Int32} {s0 : Int32} {s1 : Int32} {s2 : Nat} {X : XW} {H : Heap} {locs : List Loc} {ls : Array Slot} (W0 : XD G X0 X s H locs) (hl : lv_has ls 7 [(0, .ref l0), (1, .ref l1), (2, .int l2), (3, .int l3), (4, .int l4), (5, .int l5)]) (h : fX6_layWord_j160 rec l0 l1 l2 l3 l4 l5 s0 s1 s2 X = some r) : W p l e { frames := 0, cells := 0, slots := 0, locals := 0 } s m args below meth c H locs 0 0 Q (F0 m 160 ls [.int s0, .int s1, .ref s2]) := by
  have hx := C0.1
  have hb := C0.2.1
  unfold fX6_layWord_j160 at h
  obtain ⟨X1, h2, h⟩ := ob h
  refine xr_iast C0 W0 h2 dX6_layWord_160 (fun H locs W0 => ?_)
  refine lv_aload_n hx hb dX6_layWord_161 rfl (lv_at hl 0 rfl) ?_
  obtain ⟨q3, h4, h⟩ := ob h
  refine xr_getR C0 W0 cl_X6 1 (by decide) fl_X6_20 rfl h4 dX6_layWord_162 ?_
  refine lv_bipush (v := 8) hx hb dX6_layWord_165 (by decide) ?_
  obtain ⟨q5, h6, h⟩ := ob h
  refine xr_aldq C0 W0 6 (by decide) rfl rfl h6 dX6_layWord_167 ?_
  refine lv_aload_n hx hb dX6_layWord_168 rfl (lv_at hl 0 rfl) ?_
  obtain ⟨v7, h8, h⟩ := ob h
  refine xr_getI C0 W0 cl_X6 3 (by decide) fl_X6_27 rfl h8 dX6_layWord_169 ?_
  refine lv_aload_n hx hb dX6_layWord_172 rfl (lv_at hl 1 rfl) ?_
  obtain ⟨q9, h10, h⟩ := ob h
  refine xr_getR C0 W0 cl_X4 4 (by decide) fl_X6_82 rfl h10 dX6_layWord_173 ?_
  refine lv_iload_n hx hb dX6_layWord_176 rfl (lv_at hl 2 rfl) ?_
  obtain ⟨v11, h12, h⟩ := ob h
  refine xr_zald C0 W0 h12 dX6_layWord_177 ?_
  refine lv_if_eq (tgt := 185) hx hb dX6_layWord_178 (by decide) (fun hcq => ?_) (fun hcq => ?_)
  · have h := it_t hcq h
    refine lv_iconst (v := 0) hx hb dX6_layWord_185 (by decide) ?_
    exact tX6_layWord_j186 C0 hret hrec hK W0 (lv_sub hl [0, 1, 2, 3, 4, 5] rfl) h
  · have h := it_f hcq h
    refine lv_iconst (v := 1) hx hb dX6_layWord_181 (by decide) ?_
    refine lv_goto (tgt := 186) hx hb dX6_layWord_182 (by decide) ?_
    exact tX6_layWord_j186 C0 hret hrec hK W0 (lv_sub hl [0, 1, 2, 3, 4, 5] rfl) h
theorem tX6_layWord_j134 {p : Program} {l : Launch} {e : Env} {s : State} {m : MethodId} {args : Array Value} {below : List Frame} {meth : Method} {c : Code} {G : XG} {X0 : XW} (C0 : XC p s m args meth c RX6 cX6_layWord 7 G) (hret : meth.sig.returnType = none) {r : XW} {l0 : Nat} {l1 : Nat} {l2 : Int32} {l3 : Int32} {l4 : Int32} {Q : State → Prop} {rec : Int32 → XW → Option (XW)} (hrec : ∀ {y5 : Int32} {X : XW} {H : Heap} {locs : List Loc} {ls : Array Slot}, XD G X0 X s H locs → lv_has ls 7 [(0, .ref l0), (1, .ref l1), (2, .int l2), (3, .int l3), (4, .int l4), (5, .int y5)] → rec y5 X = some r → W p l e { frames := 0, cells := 0, slots := 0, locals := 0 } s m args below meth c H locs 0 0 Q (F0 m 3 ls [])) (hK : ∀ {H : Heap} {locs : List Loc} {ls : Array Slot}, XD G X0 r s H locs → lv_has ls 7 [] → W p l e { frames := 0, cells := 0, slots := 0, locals := 0 } s m args below meth c H locs 0 0 Q (F0 m 259 ls []))  {l5 : Int32} {s0 : Int32} {s1 : Int32} {s2 : Nat} {X : XW} {H : Heap} {locs : List Loc} {ls : Array Slot} (W0 : XD G X0 X s H locs) (hl : lv_has ls 7 [(0, .ref l0), (1, .ref l1), (2, .int l2), (3, .int l3), (4, .int l4), (5, .int l5)]) (h : fX6_layWord_j134 rec l0 l1 l2 l3 l4 l5 s0 s1 s2 X = some r) : W p l e { frames := 0, cells := 0, slots := 0, locals := 0 } s m args below meth c H locs 0 0 Q (F0 m 134 ls [.int s0, .int s1, .ref s2]) := by
  have hx := C0.1
  have hb := C0.2.1
  unfold fX6_layWord_j134 at h
  obtain ⟨X1, h2, h⟩ := ob h
  refine xr_iast C0 W0 h2 dX6_layWord_134 (fun H locs W0 => ?_)
  refine lv_aload_n hx hb dX6_layWord_135 rfl (lv_at hl 0 rfl) ?_
  obtain ⟨q3, h4, h⟩ := ob h
  refine xr_getR C0 W0 cl_X6 1 (by decide) fl_X6_20 rfl h4 dX6_layWord_136 ?_
  refine lv_bipush (v := 7) hx hb dX6_layWord_139 (by decide) ?_
  obtain ⟨q5, h6, h⟩ := ob h
  refine xr_aldq C0 W0 6 (by decide) rfl rfl h6 dX6_layWord_141 ?_
  refine lv_aload_n hx hb dX6_layWord_142 rfl (lv_at hl 0 rfl) ?_
  obtain ⟨v7, h8, h⟩ := ob h
  refine xr_getI C0 W0 cl_X6 3 (by decide) fl_X6_27 rfl h8 dX6_layWord_143 ?_
  refine lv_aload_n hx hb dX6_layWord_146 rfl (lv_at hl 1 rfl) ?_
  obtain ⟨q9, h10, h⟩ := ob h
  refine xr_getR C0 W0 cl_X4 3 (by decide) fl_X6_79 rfl h10 dX6_layWord_147 ?_
  refine lv_iload_n hx hb dX6_layWord_150 rfl (lv_at hl 2 rfl) ?_
  obtain ⟨v11, h12, h⟩ := ob h
  refine xr_zald C0 W0 h12 dX6_layWord_151 ?_
  refine lv_if_eq (tgt := 159) hx hb dX6_layWord_152 (by decide) (fun hcq => ?_) (fun hcq => ?_)
  · have h := it_t hcq h
    refine lv_iconst (v := 0) hx hb dX6_layWord_159 (by decide) ?_
    exact tX6_layWord_j160 C0 hret hrec hK W0 (lv_sub hl [0, 1, 2, 3, 4, 5] rfl) h
  · have h := it_f hcq h
    refine lv_iconst (v := 1) hx hb dX6_layWord_155 (by decide) ?_
    refine lv_goto (tgt := 160) hx hb dX6_layWord_156 (by decide) ?_
    exact tX6_layWord_j160 C0 hret hrec hK W0 (lv_sub hl [0, 1, 2, 3, 4, 5] rfl) h
theorem tX6_layWord_j133 {p : Program} {l : Launch} {e : Env} {s : State} {m : MethodId} {args : Array Value} {below : List Frame} {meth : Method} {c : Code} {G : XG} {X0 : XW} (C0 : XC p s m args meth c RX6 cX6_layWord 7 G) (hret : meth.sig.returnType = none) {r : XW} {l0 : Nat} {l1 : Nat} {l2 : Int32} {l3 : Int32} {l4 : Int32} {Q : State → Prop} {rec : Int32 → XW → Option (XW)} (hrec : ∀ {y5 : Int32} {X : XW} {H : Heap} {locs : List Loc} {ls : Array Slot}, XD G X0 X s H locs → lv_has ls 7 [(0, .ref l0), (1, .ref l1), (2, .int l2), (3, .int l3), (4, .int l4), (5, .int y5)] → rec y5 X = some r → W p l e { frames := 0, cells := 0, slots := 0, locals := 0 } s m args below meth c H locs 0 0 Q (F0 m 3 ls [])) (hK : ∀ {H : Heap} {locs : List Loc} {ls : Array Slot}, XD G X0 r s H locs → lv_has ls 7 [] → W p l e { frames := 0, cells := 0, slots := 0, locals := 0 } s m args below meth c H locs 0 0 Q (F0 m 259 ls []))  {l5 : Int32} {s0 : Int32} {s1 : Nat} {X : XW} {H : Heap} {locs : List Loc} {ls : Array Slot} (W0 : XD G X0 X s H locs) (hl : lv_has ls 7 [(0, .ref l0), (1, .ref l1), (2, .int l2), (3, .int l3), (4, .int l4), (5, .int l5)]) (h : fX6_layWord_j133 rec l0 l1 l2 l3 l4 l5 s0 s1 X = some r) : W p l e { frames := 0, cells := 0, slots := 0, locals := 0 } s m args below meth c H locs 0 0 Q (F0 m 133 ls [.int s0, .ref s1]) := by
  have hx := C0.1
  have hb := C0.2.1
  unfold fX6_layWord_j133 at h
  refine lv_iconst (v := 0) hx hb dX6_layWord_133 (by decide) ?_
  exact tX6_layWord_j134 C0 hret hrec hK W0 (lv_sub hl [0, 1, 2, 3, 4, 5] rfl) h
theorem tX6_layWord_j100 {p : Program} {l : Launch} {e : Env} {s : State} {m : MethodId} {args : Array Value} {below : List Frame} {meth : Method} {c : Code} {G : XG} {X0 : XW} (C0 : XC p s m args meth c RX6 cX6_layWord 7 G) (hret : meth.sig.returnType = none) {r : XW} {l0 : Nat} {l1 : Nat} {l2 : Int32} {l3 : Int32} {l4 : Int32} {Q : State → Prop} {rec : Int32 → XW → Option (XW)} (hrec : ∀ {y5 : Int32} {X : XW} {H : Heap} {locs : List Loc} {ls : Array Slot}, XD G X0 X s H locs → lv_has ls 7 [(0, .ref l0), (1, .ref l1), (2, .int l2), (3, .int l3), (4, .int l4), (5, .int y5)] → rec y5 X = some r → W p l e { frames := 0, cells := 0, slots := 0, locals := 0 } s m args below meth c H locs 0 0 Q (F0 m 3 ls [])) (hK : ∀ {H : Heap} {locs : List Loc} {ls : Array Slot}, XD G X0 r s H locs → lv_has ls 7 [] → W p l e { frames := 0, cells := 0, slots := 0, locals := 0 } s m args below meth c H locs 0 0 Q (F0 m 259 ls []))  {l5 : Int32} {l6 : Int32} {s0 : Int32} {s1 : Int32} {s2 : Nat} {X : XW} {H : Heap} {locs : List Loc} {ls : Array Slot} (W0 : XD G X0 X s H locs) (hl : lv_has ls 7 [(0, .ref l0), (1, .ref l1), (2, .int l2), (3, .int l3), (4, .int l4), (5, .int l5), (6, .int l6)]) (h : fX6_layWord_j100 rec l0 l1 l2 l3 l4 l5 l6 s0 s1 s2 X = some r) : W p l e { frames := 0, cells := 0, slots := 0, locals := 0 } s m args below meth c H locs 0 0 Q (F0 m 100 ls [.int s0, .int s1, .ref s2]) := by
  have hx := C0.1
  have hb := C0.2.1
  unfold fX6_layWord_j100 at h
  obtain ⟨X1, h2, h⟩ := ob h
  refine xr_iast C0 W0 h2 dX6_layWord_100 (fun H locs W0 => ?_)
  refine lv_aload_n hx hb dX6_layWord_101 rfl (lv_at hl 0 rfl) ?_
  obtain ⟨q3, h4, h⟩ := ob h
  refine xr_getR C0 W0 cl_X6 1 (by decide) fl_X6_20 rfl h4 dX6_layWord_102 ?_
  refine lv_bipush (v := 6) hx hb dX6_layWord_105 (by decide) ?_
  obtain ⟨q5, h6, h⟩ := ob h
  refine xr_aldq C0 W0 6 (by decide) rfl rfl h6 dX6_layWord_107 ?_
  refine lv_aload_n hx hb dX6_layWord_108 rfl (lv_at hl 0 rfl) ?_
  obtain ⟨v7, h8, h⟩ := ob h
  refine xr_getI C0 W0 cl_X6 3 (by decide) fl_X6_27 rfl h8 dX6_layWord_109 ?_
  refine lv_iload hx hb dX6_layWord_112 (lv_at hl 6 rfl) ?_
  refine lv_if_eq (tgt := 133) hx hb dX6_layWord_114 (by decide) (fun hcq => ?_) (fun hcq => ?_)
  · have h := it_t hcq h
    exact tX6_layWord_j133 C0 hret hrec hK W0 (lv_sub hl [0, 1, 2, 3, 4, 5] rfl) h
  · have h := it_f hcq h
    refine lv_aload_n hx hb dX6_layWord_117 rfl (lv_at hl 0 rfl) ?_
    obtain ⟨q9, h10, h⟩ := ob h
    refine xr_getR C0 W0 cl_X6 0 (by decide) fl_X6_12 rfl h10 dX6_layWord_118 ?_
    obtain ⟨q11, h12, h⟩ := ob h
    refine xr_getR C0 W0 cl_X3 4 (by decide) fl_X6_75 rfl h12 dX6_layWord_121 ?_
    refine lv_iload_n hx hb dX6_layWord_124 rfl (lv_at hl 2 rfl) ?_
    obtain ⟨v13, h14, h⟩ := ob h
    refine xr_zald C0 W0 h14 dX6_layWord_125 ?_
    refine lv_if_eq (tgt := 133) hx hb dX6_layWord_126 (by decide) (fun hcq => ?_) (fun hcq => ?_)
    · have h := it_t hcq h
      exact tX6_layWord_j133 C0 hret hrec hK W0 (lv_sub hl [0, 1, 2, 3, 4, 5] rfl) h
    · have h := it_f hcq h
      refine lv_iconst (v := 1) hx hb dX6_layWord_129 (by decide) ?_
      refine lv_goto (tgt := 134) hx hb dX6_layWord_130 (by decide) ?_
      exact tX6_layWord_j134 C0 hret hrec hK W0 (lv_sub hl [0, 1, 2, 3, 4, 5] rfl) h
theorem tX6_layWord_j30 {p : Program} {l : Launch} {e : Env} {s : State} {m : MethodId} {args : Array Value} {below : List Frame} {meth : Method} {c : Code} {G : XG} {X0 : XW} (C0 : XC p s m args meth c RX6 cX6_layWord 7 G) (hret : meth.sig.returnType = none) {r : XW} {l0 : Nat} {l1 : Nat} {l2 : Int32} {l3 : Int32} {l4 : Int32} {Q : State → Prop} {rec : Int32 → XW → Option (XW)} (hrec : ∀ {y5 : Int32} {X : XW} {H : Heap} {locs : List Loc} {ls : Array Slot}, XD G X0 X s H locs → lv_has ls 7 [(0, .ref l0), (1, .ref l1), (2, .int l2), (3, .int l3), (4, .int l4), (5, .int y5)] → rec y5 X = some r → W p l e { frames := 0, cells := 0, slots := 0, locals := 0 } s m args below meth c H locs 0 0 Q (F0 m 3 ls [])) (hK : ∀ {H : Heap} {locs : List Loc} {ls : Array Slot}, XD G X0 r s H locs → lv_has ls 7 [] → W p l e { frames := 0, cells := 0, slots := 0, locals := 0 } s m args below meth c H locs 0 0 Q (F0 m 259 ls []))  {l5 : Int32} {s0 : Int32} {X : XW} {H : Heap} {locs : List Loc} {ls : Array Slot} (W0 : XD G X0 X s H locs) (hl : lv_has ls 7 [(0, .ref l0), (1, .ref l1), (2, .int l2), (3, .int l3), (4, .int l4), (5, .int l5)]) (h : fX6_layWord_j30 rec l0 l1 l2 l3 l4 l5 s0 X = some r) : W p l e { frames := 0, cells := 0, slots := 0, locals := 0 } s m args below meth c H locs 0 0 Q (F0 m 30 ls [.int s0]) := by
  have hx := C0.1
  have hb := C0.2.1
  unfold fX6_layWord_j30 at h
  refine lv_istore (lv' := [(6, .int s0), (0, .ref l0), (1, .ref l1), (2, .int l2), (3, .int l3), (4, .int l4), (5, .int l5)]) hx hb dX6_layWord_30 hl (by decide) rfl (fun ls hl => ?_)
  refine lv_aload_n hx hb dX6_layWord_32 rfl (lv_at hl 1 rfl) ?_
  obtain ⟨q1, h2, h⟩ := ob h
  refine xr_getR C0 W0 cl_X6 1 (by decide) fl_X6_20 rfl h2 dX6_layWord_33 ?_
  refine lv_iconst (v := 3) hx hb dX6_layWord_36 (by decide) ?_
  obtain ⟨q3, h4, h⟩ := ob h
  refine xr_aldq C0 W0 6 (by decide) rfl rfl h4 dX6_layWord_37 ?_
  refine lv_aload_n hx hb dX6_layWord_38 rfl (lv_at hl 1 rfl) ?_
  obtain ⟨v5, h6, h⟩ := ob h
  refine xr_getI C0 W0 cl_X6 3 (by decide) fl_X6_27 rfl h6 dX6_layWord_39 ?_
  refine lv_aload_n hx hb dX6_layWord_42 rfl (lv_at hl 1 rfl) ?_
  obtain ⟨v7, h8, h⟩ := ob h
  refine xr_getI C0 W0 cl_X6 3 (by decide) fl_X6_27 rfl h8 dX6_layWord_43 ?_
  refine lv_iload hx hb dX6_layWord_46 (lv_at hl 5 rfl) ?_
  refine lv_isub hx hb dX6_layWord_48 ?_
  obtain ⟨X9, h10, h⟩ := ob h
  refine xr_iast C0 W0 h10 dX6_layWord_49 (fun H locs W0 => ?_)
  refine lv_aload_n hx hb dX6_layWord_50 rfl (lv_at hl 1 rfl) ?_
  obtain ⟨q11, h12, h⟩ := ob h
  refine xr_getR C0 W0 cl_X6 1 (by decide) fl_X6_20 rfl h12 dX6_layWord_51 ?_
  refine lv_iconst (v := 4) hx hb dX6_layWord_54 (by decide) ?_
  obtain ⟨q13, h14, h⟩ := ob h
  refine xr_aldq C0 W0 6 (by decide) rfl rfl h14 dX6_layWord_55 ?_
  refine lv_aload_n hx hb dX6_layWord_56 rfl (lv_at hl 1 rfl) ?_
  obtain ⟨v15, h16, h⟩ := ob h
  refine xr_getI C0 W0 cl_X6 3 (by decide) fl_X6_27 rfl h16 dX6_layWord_57 ?_
  refine lv_aload_n hx hb dX6_layWord_60 rfl (lv_at hl 1 rfl) ?_
  obtain ⟨q17, h18, h⟩ := ob h
  refine xr_getR C0 W0 cl_X6 0 (by decide) fl_X6_12 rfl h18 dX6_layWord_61 ?_
  obtain ⟨q19, h20, h⟩ := ob h
  refine xr_getR C0 W0 cl_X3 2 (by decide) fl_X6_72 rfl h20 dX6_layWord_64 ?_
  refine lv_iload_n hx hb dX6_layWord_67 rfl (lv_at hl 4 rfl) ?_
  obtain ⟨v21, h22, h⟩ := ob h
  refine xr_iald C0 W0 h22 dX6_layWord_68 ?_
  refine lv_iconst (v := 1) hx hb dX6_layWord_69 (by decide) ?_
  refine lv_isub hx hb dX6_layWord_70 ?_
  refine lv_aload_n hx hb dX6_layWord_71 rfl (lv_at hl 1 rfl) ?_
  obtain ⟨v23, h24, h⟩ := ob h
  refine xr_getI C0 W0 cl_X6 3 (by decide) fl_X6_27 rfl h24 dX6_layWord_72 ?_
  refine lv_iload hx hb dX6_layWord_75 (lv_at hl 5 rfl) ?_
  refine lv_isub hx hb dX6_layWord_77 ?_
  refine lv_isub hx hb dX6_layWord_78 ?_
  obtain ⟨X25, h26, h⟩ := ob h
  refine xr_iast C0 W0 h26 dX6_layWord_79 (fun H locs W0 => ?_)
  refine lv_aload_n hx hb dX6_layWord_80 rfl (lv_at hl 1 rfl) ?_
  obtain ⟨q27, h28, h⟩ := ob h
  refine xr_getR C0 W0 cl_X6 1 (by decide) fl_X6_20 rfl h28 dX6_layWord_81 ?_
  refine lv_iconst (v := 5) hx hb dX6_layWord_84 (by decide) ?_
  obtain ⟨q29, h30, h⟩ := ob h
  refine xr_aldq C0 W0 6 (by decide) rfl rfl h30 dX6_layWord_85 ?_
  refine lv_aload_n hx hb dX6_layWord_86 rfl (lv_at hl 1 rfl) ?_
  obtain ⟨v31, h32, h⟩ := ob h
  refine xr_getI C0 W0 cl_X6 3 (by decide) fl_X6_27 rfl h32 dX6_layWord_87 ?_
  refine lv_iload hx hb dX6_layWord_90 (lv_at hl 0 rfl) ?_
  refine lv_if_eq (tgt := 99) hx hb dX6_layWord_92 (by decide) (fun hcq => ?_) (fun hcq => ?_)
  · have h := it_t hcq h
    refine lv_iconst (v := 0) hx hb dX6_layWord_99 (by decide) ?_
    exact tX6_layWord_j100 C0 hret hrec hK W0 (lv_sub hl [1, 2, 3, 4, 5, 6, 0] rfl) h
  · have h := it_f hcq h
    refine lv_iconst (v := 1) hx hb dX6_layWord_95 (by decide) ?_
    refine lv_goto (tgt := 100) hx hb dX6_layWord_96 (by decide) ?_
    exact tX6_layWord_j100 C0 hret hrec hK W0 (lv_sub hl [1, 2, 3, 4, 5, 6, 0] rfl) h
theorem tX6_layWord_l3_b {p : Program} {l : Launch} {e : Env} {s : State} {m : MethodId} {args : Array Value} {below : List Frame} {meth : Method} {c : Code} {G : XG} {X0 : XW} (C0 : XC p s m args meth c RX6 cX6_layWord 7 G) (hret : meth.sig.returnType = none) {r : XW} {l0 : Nat} {l1 : Nat} {l2 : Int32} {l3 : Int32} {l4 : Int32} {Q : State → Prop} {rec : Int32 → XW → Option (XW)} (hrec : ∀ {y5 : Int32} {X : XW} {H : Heap} {locs : List Loc} {ls : Array Slot}, XD G X0 X s H locs → lv_has ls 7 [(0, .ref l0), (1, .ref l1), (2, .int l2), (3, .int l3), (4, .int l4), (5, .int y5)] → rec y5 X = some r → W p l e { frames := 0, cells := 0, slots := 0, locals := 0 } s m args below meth c H locs 0 0 Q (F0 m 3 ls [])) (hK : ∀ {H : Heap} {locs : List Loc} {ls : Array Slot}, XD G X0 r s H locs → lv_has ls 7 [] → W p l e { frames := 0, cells := 0, slots := 0, locals := 0 } s m args below meth c H locs 0 0 Q (F0 m 259 ls []))  {l5 : Int32} {X : XW} {H : Heap} {locs : List Loc} {ls : Array Slot} (W0 : XD G X0 X s H locs) (hl : lv_has ls 7 [(0, .ref l0), (1, .ref l1), (2, .int l2), (3, .int l3), (4, .int l4), (5, .int l5)]) (h : fX6_layWord_l3_b rec l0 l1 l2 l3 l4 l5 X = some r) : W p l e { frames := 0, cells := 0, slots := 0, locals := 0 } s m args below meth c H locs 0 0 Q (F0 m 3 ls []) := by
  have hx := C0.1
  have hb := C0.2.1
  unfold fX6_layWord_l3_b at h
  refine lv_iload hx hb dX6_layWord_3 (lv_at hl 5 rfl) ?_
  refine lv_aload_n hx hb dX6_layWord_5 rfl (lv_at hl 1 rfl) ?_
  obtain ⟨q1, h2, h⟩ := ob h
  refine xr_getR C0 W0 cl_X4 0 (by decide) fl_X6_66 rfl h2 dX6_layWord_6 ?_
  refine lv_iload_n hx hb dX6_layWord_9 rfl (lv_at hl 2 rfl) ?_
  obtain ⟨v3, h4, h⟩ := ob h
  refine xr_iald C0 W0 h4 dX6_layWord_10 ?_
  refine lv_icmp_ge (tgt := 259) hx hb dX6_layWord_11 (by decide) (fun hcq => ?_) (fun hcq => ?_)
  · have h := it_t hcq h
    cases h
    exact hK W0 (lv_sub hl [] rfl)
  · have h := it_f hcq h
    refine lv_iload hx hb dX6_layWord_14 (lv_at hl 5 rfl) ?_
    refine lv_aload_n hx hb dX6_layWord_16 rfl (lv_at hl 1 rfl) ?_
    obtain ⟨q5, h6, h⟩ := ob h
    refine xr_getR C0 W0 cl_X4 1 (by decide) fl_X6_69 rfl h6 dX6_layWord_17 ?_
    refine lv_iload_n hx hb dX6_layWord_20 rfl (lv_at hl 2 rfl) ?_
    obtain ⟨v7, h8, h⟩ := ob h
    refine xr_iald C0 W0 h8 dX6_layWord_21 ?_
    refine lv_icmp_ne (tgt := 29) hx hb dX6_layWord_22 (by decide) (fun hcq => ?_) (fun hcq => ?_)
    · have h := it_f hcq h
      refine lv_iconst (v := 0) hx hb dX6_layWord_29 (by decide) ?_
      exact tX6_layWord_j30 C0 hret hrec hK W0 (lv_sub hl [0, 1, 2, 3, 4, 5] rfl) h
    · have h := it_t hcq h
      refine lv_iconst (v := 1) hx hb dX6_layWord_25 (by decide) ?_
      refine lv_goto (tgt := 30) hx hb dX6_layWord_26 (by decide) ?_
      exact tX6_layWord_j30 C0 hret hrec hK W0 (lv_sub hl [0, 1, 2, 3, 4, 5] rfl) h
theorem tX6_layWord_l3 {p : Program} {l : Launch} {e : Env} {s : State} {m : MethodId} {args : Array Value} {below : List Frame} {meth : Method} {c : Code} {G : XG} {X0 : XW} (C0 : XC p s m args meth c RX6 cX6_layWord 7 G) (hret : meth.sig.returnType = none) {r : XW} {l0 : Nat} {l1 : Nat} {l2 : Int32} {l3 : Int32} {l4 : Int32} {Q : State → Prop} (hK : ∀ {H : Heap} {locs : List Loc} {ls : Array Slot}, XD G X0 r s H locs → lv_has ls 7 [] → W p l e { frames := 0, cells := 0, slots := 0, locals := 0 } s m args below meth c H locs 0 0 Q (F0 m 259 ls [])) : ∀ (n : Nat) {y5 : Int32} {X : XW} {H : Heap} {locs : List Loc} {ls : Array Slot}, XD G X0 X s H locs → lv_has ls 7 [(0, .ref l0), (1, .ref l1), (2, .int l2), (3, .int l3), (4, .int l4), (5, .int y5)] → fX6_layWord_l3 l0 l1 l2 l3 l4 n y5 X = some r → W p l e { frames := 0, cells := 0, slots := 0, locals := 0 } s m args below meth c H locs 0 0 Q (F0 m 3 ls []) := by
  intro n
  induction n with
  | zero =>
    intro y5 X H locs ls W0 hl h
    cases h
  | succ n ih =>
    intro y5 X H locs ls W0 hl h
    exact tX6_layWord_l3_b C0 hret (rec := fX6_layWord_l3 l0 l1 l2 l3 l4 n) (fun W0 hl h => ih W0 hl h) hK W0 hl h
theorem ctX6_layWord (l : Launch) (G : XG) {l0 : Nat} {l1 : Nat} {l2 : Int32} {l3 : Int32} {l4 : Int32} {X : XW} {r : XW}  (h : fX6_layWord l0 l1 l2 l3 l4 X = some r) : XM l G yX6_layWord cX6_layWord 7 none 0 0 0 0 [.ref l0, .ref l1, .int l2, .int l3, .int l4] X (none, r) := by
  refine xm_of (own := RX6) (by decide) rfl (Nat.le_of_ble_eq_true rfl) ?_
  intro p e s m below meth c ls C0 W0 hret hnm hl
  have hx := C0.1
  have hb := C0.2.1
  have hl : lv_has ls 7 [(0, .ref l0), (1, .ref l1), (2, .int l2), (3, .int l3), (4, .int l4)] := hl
  unfold fX6_layWord at h
  refine lv_iconst (v := 0) hx hb dX6_layWord_0 (by decide) ?_
  refine lv_istore (lv' := [(5, .int 0), (0, .ref l0), (1, .ref l1), (2, .int l2), (3, .int l3), (4, .int l4)]) hx hb dX6_layWord_1 hl (by decide) rfl (fun ls hl => ?_)
  obtain ⟨r1, h2, h⟩ := ob h
  refine tX6_layWord_l3 C0 hret (fun {H} {locs} {ls} W0 hl => ?_) FU W0 (lv_sub hl [1, 2, 3, 4, 5, 0] rfl) h2
  exact xr_vret C0 W0 hret (Option.some.inj h).symm dX6_layWord_259
def fX6_layOut_l65_b (rec : Int32 → XW → Option (XW)) (l0 : Nat) (l1 : Nat) (l3 : Int32) (l4 : Int32) (l5 : Int32) (l6 : Int32) (X : XW) : Option (XW) :=
  if (l4 ≤ l6 : Prop) then (some (X))
  else (gK X l0 6 >>= fun u1 =>
    fX6_layWord l0 l1 l6 l3 l5 X >>= fun X3 =>
    rec (l6 + 1) X3)
def fX6_layOut_l65 (l0 : Nat) (l1 : Nat) (l3 : Int32) (l4 : Int32) (l5 : Int32) (n : Nat) : Int32 → XW → Option (XW) := iter (fun rec => fX6_layOut_l65_b rec l0 l1 l3 l4 l5) (fun _ _ => none) n
def fX6_layOut_l16_b (rec : Int32 → XW → Option (XW)) (l0 : Nat) (l1 : Nat) (l3 : Int32) (X : XW) : Option (XW) :=
  gR X l0 6 0 >>= fun q1 =>
  gI X q1 3 7 >>= fun v3 =>
  if (v3 ≤ l3 : Prop) then (some (X))
  else (gR X l0 6 0 >>= fun q5 =>
    gR X q5 3 0 >>= fun q7 =>
    aI X q7 1 l3 >>= fun v9 =>
    gR X l0 6 0 >>= fun q11 =>
    gR X q11 3 1 >>= fun q13 =>
    aI X q13 1 l3 >>= fun v15 =>
    gI X l0 6 3 >>= fun v17 =>
    gR X l0 6 0 >>= fun q19 =>
    gR X q19 3 0 >>= fun q21 =>
    aI X q21 1 l3 >>= fun v23 =>
    fX6_layOut_l65 l0 l1 l3 (v9 + v15) v17 FU v23 X >>= fun r25 =>
    rec (l3 + 1) r25)
def fX6_layOut_l16 (l0 : Nat) (l1 : Nat) (n : Nat) : Int32 → XW → Option (XW) := iter (fun rec => fX6_layOut_l16_b rec l0 l1) (fun _ _ => none) n
def fX6_layOut_l96_b (rec : Int32 → XW → Option (XW)) (l0 : Nat) (l1 : Nat) (l3 : Int32) (X : XW) : Option (XW) :=
  if (3 ≤ l3 : Prop) then (some (X))
  else (gR X l0 6 1 >>= fun q1 =>
    aQ X q1 6 l3 >>= fun q3 =>
    sA 2 l3 >>= fun v5 =>
    fJ7_fill_53178 q3 v5 X >>= fun X7 =>
    rec (l3 + 1) X7)
def fX6_layOut_l96 (l0 : Nat) (l1 : Nat) (n : Nat) : Int32 → XW → Option (XW) := iter (fun rec => fX6_layOut_l96_b rec l0 l1) (fun _ _ => none) n
def fX6_layOut (l0 : Nat) (l1 : Nat) (l2 : Int32) (X : XW) : Option (XW) :=
  gR X l0 6 0 >>= fun q1 =>
  gK X q1 3 >>= fun u3 =>
  fX3_partWords q1 l1 l2 X >>= fun X5 =>
  pI X5 l0 6 3 0 >>= fun X7 =>
  fX6_layOut_l16 l0 l1 FU 0 X7 >>= fun r9 =>
  fX6_layOut_l96 l0 l1 FU 0 r9 >>= fun r11 =>
  gR r11 l0 6 1 >>= fun q13 =>
  aQ r11 q13 6 12 >>= fun q15 =>
  gI r11 l1 4 8 >>= fun v17 =>
  fJ7_fill_53178 q15 v17 r11 >>= fun X19 =>
  some X19
theorem tX6_layOut_l65_b {p : Program} {l : Launch} {e : Env} {s : State} {m : MethodId} {args : Array Value} {below : List Frame} {meth : Method} {c : Code} {G : XG} {X0 : XW} (C0 : XC p s m args meth c RX6 cX6_layOut 7 G) (hret : meth.sig.returnType = none) {r : XW} {l0 : Nat} {l1 : Nat} {l3 : Int32} {l4 : Int32} {l5 : Int32} {Q : State → Prop} {rec : Int32 → XW → Option (XW)} (hrec : ∀ {y6 : Int32} {X : XW} {H : Heap} {locs : List Loc} {ls : Array Slot}, XD G X0 X s H locs → lv_has ls 7 [(0, .ref l0), (1, .ref l1), (3, .int l3), (4, .int l4), (5, .int l5), (6, .int y6)] → rec y6 X = some r → W p l e { frames := 3, cells := 0, slots := 0, locals := 180 } s m args below meth c H locs 0 0 Q (F0 m 65 ls [])) (hK : ∀ {H : Heap} {locs : List Loc} {ls : Array Slot}, XD G X0 r s H locs → lv_has ls 7 [(0, .ref l0), (1, .ref l1), (3, .int l3)] → W p l e { frames := 3, cells := 0, slots := 0, locals := 180 } s m args below meth c H locs 0 0 Q (F0 m 88 ls []))  {l6 : Int32} {X : XW} {H : Heap} {locs : List Loc} {ls : Array Slot} (W0 : XD G X0 X s H locs) (hl : lv_has ls 7 [(0, .ref l0), (1, .ref l1), (3, .int l3), (4, .int l4), (5, .int l5), (6, .int l6)]) (h : fX6_layOut_l65_b rec l0 l1 l3 l4 l5 l6 X = some r) : W p l e { frames := 3, cells := 0, slots := 0, locals := 180 } s m args below meth c H locs 0 0 Q (F0 m 65 ls []) := by
  have hx := C0.1
  have hb := C0.2.1
  unfold fX6_layOut_l65_b at h
  refine lv_iload hx hb dX6_layOut_65 (lv_at hl 5 rfl) ?_
  refine lv_iload hx hb dX6_layOut_67 (lv_at hl 3 rfl) ?_
  refine lv_icmp_ge (tgt := 88) hx hb dX6_layOut_69 (by decide) (fun hcq => ?_) (fun hcq => ?_)
  · have h := it_t hcq h
    cases h
    exact hK W0 (lv_sub hl [0, 1, 2] rfl)
  · have h := it_f hcq h
    refine lv_aload_n hx hb dX6_layOut_72 rfl (lv_at hl 0 rfl) ?_
    refine lv_aload_n hx hb dX6_layOut_73 rfl (lv_at hl 1 rfl) ?_
    refine lv_iload hx hb dX6_layOut_74 (lv_at hl 5 rfl) ?_
    refine lv_iload_n hx hb dX6_layOut_76 rfl (lv_at hl 2 rfl) ?_
    refine lv_iload hx hb dX6_layOut_77 (lv_at hl 4 rfl) ?_
    obtain ⟨u1, h2, h⟩ := ob h
    obtain ⟨X3, h4, h⟩ := ob h
    refine xr_V (As := [.ref l1, .int l6, .int l3, .int l5]) (rest := []) C0 W0 (ctX6_layWord l G h4) (gK_of h2) (rr := (RX6, TX6, 5)) rfl rfl mc_X6_layWord mv_X6_layWord ml_X6_48 ⟨by decide, by decide⟩ rfl hl.1 rfl (Nat.le_of_ble_eq_true rfl) ⟨by decide, by decide⟩ dX6_layOut_79 (fun H locs W0 => ?_)
    refine W.cs (cells' := 0) (slots' := 0) rfl rfl ?_
    refine W.eq (g2 := F0 m 82 ls []) rfl ?_
    refine lv_iinc (v := (l6 + 1)) (lv' := [(6, .int (l6 + 1)), (0, .ref l0), (1, .ref l1), (3, .int l3), (4, .int l4), (5, .int l5)]) hx hb dX6_layOut_82 hl (k := 5) rfl (ii (by decide)) (by decide) rfl (fun ls hl => ?_)
    refine lv_goto (tgt := 65) hx hb dX6_layOut_85 (by decide) ?_
    exact hrec W0 (lv_sub hl [1, 2, 3, 4, 5, 0] rfl) h
theorem tX6_layOut_l65 {p : Program} {l : Launch} {e : Env} {s : State} {m : MethodId} {args : Array Value} {below : List Frame} {meth : Method} {c : Code} {G : XG} {X0 : XW} (C0 : XC p s m args meth c RX6 cX6_layOut 7 G) (hret : meth.sig.returnType = none) {r : XW} {l0 : Nat} {l1 : Nat} {l3 : Int32} {l4 : Int32} {l5 : Int32} {Q : State → Prop} (hK : ∀ {H : Heap} {locs : List Loc} {ls : Array Slot}, XD G X0 r s H locs → lv_has ls 7 [(0, .ref l0), (1, .ref l1), (3, .int l3)] → W p l e { frames := 3, cells := 0, slots := 0, locals := 180 } s m args below meth c H locs 0 0 Q (F0 m 88 ls [])) : ∀ (n : Nat) {y6 : Int32} {X : XW} {H : Heap} {locs : List Loc} {ls : Array Slot}, XD G X0 X s H locs → lv_has ls 7 [(0, .ref l0), (1, .ref l1), (3, .int l3), (4, .int l4), (5, .int l5), (6, .int y6)] → fX6_layOut_l65 l0 l1 l3 l4 l5 n y6 X = some r → W p l e { frames := 3, cells := 0, slots := 0, locals := 180 } s m args below meth c H locs 0 0 Q (F0 m 65 ls []) := by
  intro n
  induction n with
  | zero =>
    intro y6 X H locs ls W0 hl h
    cases h
  | succ n ih =>
    intro y6 X H locs ls W0 hl h
    exact tX6_layOut_l65_b C0 hret (rec := fX6_layOut_l65 l0 l1 l3 l4 l5 n) (fun W0 hl h => ih W0 hl h) hK W0 hl h
theorem tX6_layOut_l16_b {p : Program} {l : Launch} {e : Env} {s : State} {m : MethodId} {args : Array Value} {below : List Frame} {meth : Method} {c : Code} {G : XG} {X0 : XW} (C0 : XC p s m args meth c RX6 cX6_layOut 7 G) (hret : meth.sig.returnType = none) {r : XW} {l0 : Nat} {l1 : Nat} {Q : State → Prop} {rec : Int32 → XW → Option (XW)} (hrec : ∀ {y3 : Int32} {X : XW} {H : Heap} {locs : List Loc} {ls : Array Slot}, XD G X0 X s H locs → lv_has ls 7 [(0, .ref l0), (1, .ref l1), (3, .int y3)] → rec y3 X = some r → W p l e { frames := 3, cells := 0, slots := 0, locals := 180 } s m args below meth c H locs 0 0 Q (F0 m 16 ls [])) (hK : ∀ {H : Heap} {locs : List Loc} {ls : Array Slot}, XD G X0 r s H locs → lv_has ls 7 [(0, .ref l0), (1, .ref l1)] → W p l e { frames := 3, cells := 0, slots := 0, locals := 180 } s m args below meth c H locs 0 0 Q (F0 m 94 ls []))  {l3 : Int32} {X : XW} {H : Heap} {locs : List Loc} {ls : Array Slot} (W0 : XD G X0 X s H locs) (hl : lv_has ls 7 [(0, .ref l0), (1, .ref l1), (3, .int l3)]) (h : fX6_layOut_l16_b rec l0 l1 l3 X = some r) : W p l e { frames := 3, cells := 0, slots := 0, locals := 180 } s m args below meth c H locs 0 0 Q (F0 m 16 ls []) := by
  have hx := C0.1
  have hb := C0.2.1
  unfold fX6_layOut_l16_b at h
  refine lv_iload_n hx hb dX6_layOut_16 rfl (lv_at hl 2 rfl) ?_
  refine lv_aload_n hx hb dX6_layOut_17 rfl (lv_at hl 0 rfl) ?_
  obtain ⟨q1, h2, h⟩ := ob h
  refine xr_getR C0 W0 cl_X6 0 (by decide) fl_X6_12 rfl h2 dX6_layOut_18 ?_
  obtain ⟨v3, h4, h⟩ := ob h
  refine xr_getI C0 W0 cl_X3 7 (by decide) fl_X6_38 rfl h4 dX6_layOut_21 ?_
  refine lv_icmp_ge (tgt := 94) hx hb dX6_layOut_24 (by decide) (fun hcq => ?_) (fun hcq => ?_)
  · have h := it_t hcq h
    cases h
    exact hK W0 (lv_sub hl [0, 1] rfl)
  · have h := it_f hcq h
    refine lv_aload_n hx hb dX6_layOut_27 rfl (lv_at hl 0 rfl) ?_
    obtain ⟨q5, h6, h⟩ := ob h
    refine xr_getR C0 W0 cl_X6 0 (by decide) fl_X6_12 rfl h6 dX6_layOut_28 ?_
    obtain ⟨q7, h8, h⟩ := ob h
    refine xr_getR C0 W0 cl_X3 0 (by decide) fl_X6_41 rfl h8 dX6_layOut_31 ?_
    refine lv_iload_n hx hb dX6_layOut_34 rfl (lv_at hl 2 rfl) ?_
    obtain ⟨v9, h10, h⟩ := ob h
    refine xr_iald C0 W0 h10 dX6_layOut_35 ?_
    refine lv_aload_n hx hb dX6_layOut_36 rfl (lv_at hl 0 rfl) ?_
    obtain ⟨q11, h12, h⟩ := ob h
    refine xr_getR C0 W0 cl_X6 0 (by decide) fl_X6_12 rfl h12 dX6_layOut_37 ?_
    obtain ⟨q13, h14, h⟩ := ob h
    refine xr_getR C0 W0 cl_X3 1 (by decide) fl_X6_45 rfl h14 dX6_layOut_40 ?_
    refine lv_iload_n hx hb dX6_layOut_43 rfl (lv_at hl 2 rfl) ?_
    obtain ⟨v15, h16, h⟩ := ob h
    refine xr_iald C0 W0 h16 dX6_layOut_44 ?_
    refine lv_iadd hx hb dX6_layOut_45 ?_
    refine lv_istore (lv' := [(4, .int (v9 + v15)), (0, .ref l0), (1, .ref l1), (3, .int l3)]) hx hb dX6_layOut_46 hl (by decide) rfl (fun ls hl => ?_)
    refine lv_aload_n hx hb dX6_layOut_48 rfl (lv_at hl 1 rfl) ?_
    obtain ⟨v17, h18, h⟩ := ob h
    refine xr_getI C0 W0 cl_X6 3 (by decide) fl_X6_27 rfl h18 dX6_layOut_49 ?_
    refine lv_istore (lv' := [(5, .int v17), (4, .int (v9 + v15)), (0, .ref l0), (1, .ref l1), (3, .int l3)]) hx hb dX6_layOut_52 hl (by decide) rfl (fun ls hl => ?_)
    refine lv_aload_n hx hb dX6_layOut_54 rfl (lv_at hl 2 rfl) ?_
    obtain ⟨q19, h20, h⟩ := ob h
    refine xr_getR C0 W0 cl_X6 0 (by decide) fl_X6_12 rfl h20 dX6_layOut_55 ?_
    obtain ⟨q21, h22, h⟩ := ob h
    refine xr_getR C0 W0 cl_X3 0 (by decide) fl_X6_41 rfl h22 dX6_layOut_58 ?_
    refine lv_iload_n hx hb dX6_layOut_61 rfl (lv_at hl 4 rfl) ?_
    obtain ⟨v23, h24, h⟩ := ob h
    refine xr_iald C0 W0 h24 dX6_layOut_62 ?_
    refine lv_istore (lv' := [(6, .int v23), (5, .int v17), (4, .int (v9 + v15)), (0, .ref l0), (1, .ref l1), (3, .int l3)]) hx hb dX6_layOut_63 hl (by decide) rfl (fun ls hl => ?_)
    obtain ⟨r25, h26, h⟩ := ob h
    refine tX6_layOut_l65 C0 hret (fun {H} {locs} {ls} W0 hl => ?_) FU W0 (lv_sub hl [3, 4, 5, 2, 1, 0] rfl) h26
    refine lv_iinc (v := (l3 + 1)) (lv' := [(3, .int (l3 + 1)), (0, .ref l0), (1, .ref l1)]) hx hb dX6_layOut_88 hl (k := 2) rfl (ii (by decide)) (by decide) rfl (fun ls hl => ?_)
    refine lv_goto (tgt := 16) hx hb dX6_layOut_91 (by decide) ?_
    exact hrec W0 (lv_sub hl [1, 2, 0] rfl) h
theorem tX6_layOut_l16 {p : Program} {l : Launch} {e : Env} {s : State} {m : MethodId} {args : Array Value} {below : List Frame} {meth : Method} {c : Code} {G : XG} {X0 : XW} (C0 : XC p s m args meth c RX6 cX6_layOut 7 G) (hret : meth.sig.returnType = none) {r : XW} {l0 : Nat} {l1 : Nat} {Q : State → Prop} (hK : ∀ {H : Heap} {locs : List Loc} {ls : Array Slot}, XD G X0 r s H locs → lv_has ls 7 [(0, .ref l0), (1, .ref l1)] → W p l e { frames := 3, cells := 0, slots := 0, locals := 180 } s m args below meth c H locs 0 0 Q (F0 m 94 ls [])) : ∀ (n : Nat) {y3 : Int32} {X : XW} {H : Heap} {locs : List Loc} {ls : Array Slot}, XD G X0 X s H locs → lv_has ls 7 [(0, .ref l0), (1, .ref l1), (3, .int y3)] → fX6_layOut_l16 l0 l1 n y3 X = some r → W p l e { frames := 3, cells := 0, slots := 0, locals := 180 } s m args below meth c H locs 0 0 Q (F0 m 16 ls []) := by
  intro n
  induction n with
  | zero =>
    intro y3 X H locs ls W0 hl h
    cases h
  | succ n ih =>
    intro y3 X H locs ls W0 hl h
    exact tX6_layOut_l16_b C0 hret (rec := fX6_layOut_l16 l0 l1 n) (fun W0 hl h => ih W0 hl h) hK W0 hl h
theorem tX6_layOut_l96_b {p : Program} {l : Launch} {e : Env} {s : State} {m : MethodId} {args : Array Value} {below : List Frame} {meth : Method} {c : Code} {G : XG} {X0 : XW} (C0 : XC p s m args meth c RX6 cX6_layOut 7 G) (hret : meth.sig.returnType = none) {r : XW} {l0 : Nat} {l1 : Nat} {Q : State → Prop} {rec : Int32 → XW → Option (XW)} (hrec : ∀ {y3 : Int32} {X : XW} {H : Heap} {locs : List Loc} {ls : Array Slot}, XD G X0 X s H locs → lv_has ls 7 [(0, .ref l0), (1, .ref l1), (3, .int y3)] → rec y3 X = some r → W p l e { frames := 3, cells := 0, slots := 0, locals := 180 } s m args below meth c H locs 0 0 Q (F0 m 96 ls [])) (hK : ∀ {H : Heap} {locs : List Loc} {ls : Array Slot}, XD G X0 r s H locs → lv_has ls 7 [(0, .ref l0), (1, .ref l1)] → W p l e { frames := 3, cells := 0, slots := 0, locals := 180 } s m args below meth c H locs 0 0 Q (F0 m 121 ls []))  {l3 : Int32} {X : XW} {H : Heap} {locs : List Loc} {ls : Array Slot} (W0 : XD G X0 X s H locs) (hl : lv_has ls 7 [(0, .ref l0), (1, .ref l1), (3, .int l3)]) (h : fX6_layOut_l96_b rec l0 l1 l3 X = some r) : W p l e { frames := 3, cells := 0, slots := 0, locals := 180 } s m args below meth c H locs 0 0 Q (F0 m 96 ls []) := by
  have hx := C0.1
  have hb := C0.2.1
  unfold fX6_layOut_l96_b at h
  refine lv_iload_n hx hb dX6_layOut_96 rfl (lv_at hl 2 rfl) ?_
  refine lv_iconst (v := 3) hx hb dX6_layOut_97 (by decide) ?_
  refine lv_icmp_ge (tgt := 121) hx hb dX6_layOut_98 (by decide) (fun hcq => ?_) (fun hcq => ?_)
  · have h := it_t hcq h
    cases h
    exact hK W0 (lv_sub hl [0, 1] rfl)
  · have h := it_f hcq h
    refine lv_aload_n hx hb dX6_layOut_101 rfl (lv_at hl 0 rfl) ?_
    obtain ⟨q1, h2, h⟩ := ob h
    refine xr_getR C0 W0 cl_X6 1 (by decide) fl_X6_20 rfl h2 dX6_layOut_102 ?_
    refine lv_iload_n hx hb dX6_layOut_105 rfl (lv_at hl 2 rfl) ?_
    obtain ⟨q3, h4, h⟩ := ob h
    refine xr_aldq C0 W0 6 (by decide) rfl rfl h4 dX6_layOut_106 ?_
    refine xr_getsN C0 W0 2 (by decide) (xnw_643 C0.2.2.2.2.2.1.2) dX6_layOut_107 ?_
    refine lv_iload_n hx hb dX6_layOut_110 rfl (lv_at hl 2 rfl) ?_
    obtain ⟨v5, h6, h⟩ := ob h
    refine xr_sald C0 W0 2 (by decide) h6 dX6_layOut_111 ?_
    obtain ⟨X7, h8, h⟩ := ob h
    refine xr_S (As := [.ref q3, .int v5]) (rest := []) C0 W0 (ctJ7_fill_53178 l G h8) mc_J7_fill_53178 ms_J7_fill_53178 ml_X6_55 ⟨by decide, by decide⟩ rfl hl.1 rfl (Nat.le_of_ble_eq_true rfl) ⟨by decide, by decide⟩ dX6_layOut_112 (fun H locs W0 => ?_)
    refine W.cs (cells' := 0) (slots' := 0) rfl rfl ?_
    refine W.eq (g2 := F0 m 115 ls []) rfl ?_
    refine lv_iinc (v := (l3 + 1)) (lv' := [(3, .int (l3 + 1)), (0, .ref l0), (1, .ref l1)]) hx hb dX6_layOut_115 hl (k := 2) rfl (ii (by decide)) (by decide) rfl (fun ls hl => ?_)
    refine lv_goto (tgt := 96) hx hb dX6_layOut_118 (by decide) ?_
    exact hrec W0 (lv_sub hl [1, 2, 0] rfl) h
theorem tX6_layOut_l96 {p : Program} {l : Launch} {e : Env} {s : State} {m : MethodId} {args : Array Value} {below : List Frame} {meth : Method} {c : Code} {G : XG} {X0 : XW} (C0 : XC p s m args meth c RX6 cX6_layOut 7 G) (hret : meth.sig.returnType = none) {r : XW} {l0 : Nat} {l1 : Nat} {Q : State → Prop} (hK : ∀ {H : Heap} {locs : List Loc} {ls : Array Slot}, XD G X0 r s H locs → lv_has ls 7 [(0, .ref l0), (1, .ref l1)] → W p l e { frames := 3, cells := 0, slots := 0, locals := 180 } s m args below meth c H locs 0 0 Q (F0 m 121 ls [])) : ∀ (n : Nat) {y3 : Int32} {X : XW} {H : Heap} {locs : List Loc} {ls : Array Slot}, XD G X0 X s H locs → lv_has ls 7 [(0, .ref l0), (1, .ref l1), (3, .int y3)] → fX6_layOut_l96 l0 l1 n y3 X = some r → W p l e { frames := 3, cells := 0, slots := 0, locals := 180 } s m args below meth c H locs 0 0 Q (F0 m 96 ls []) := by
  intro n
  induction n with
  | zero =>
    intro y3 X H locs ls W0 hl h
    cases h
  | succ n ih =>
    intro y3 X H locs ls W0 hl h
    exact tX6_layOut_l96_b C0 hret (rec := fX6_layOut_l96 l0 l1 n) (fun W0 hl h => ih W0 hl h) hK W0 hl h
theorem ctX6_layOut (l : Launch) (G : XG) {l0 : Nat} {l1 : Nat} {l2 : Int32} {X : XW} {r : XW}  (h : fX6_layOut l0 l1 l2 X = some r) : XM l G yX6_layOut cX6_layOut 7 none 3 180 0 0 [.ref l0, .ref l1, .int l2] X (none, r) := by
  refine xm_of (own := RX6) (by decide) rfl (Nat.le_of_ble_eq_true rfl) ?_
  intro p e s m below meth c ls C0 W0 hret hnm hl
  have hx := C0.1
  have hb := C0.2.1
  have hl : lv_has ls 7 [(0, .ref l0), (1, .ref l1), (2, .int l2)] := hl
  unfold fX6_layOut at h
  refine lv_aload_n hx hb dX6_layOut_0 rfl (lv_at hl 0 rfl) ?_
  obtain ⟨q1, h2, h⟩ := ob h
  refine xr_getR C0 W0 cl_X6 0 (by decide) fl_X6_12 rfl h2 dX6_layOut_1 ?_
  refine lv_aload_n hx hb dX6_layOut_4 rfl (lv_at hl 1 rfl) ?_
  refine lv_iload_n hx hb dX6_layOut_5 rfl (lv_at hl 2 rfl) ?_
  obtain ⟨u3, h4, h⟩ := ob h
  obtain ⟨X5, h6, h⟩ := ob h
  refine xr_V (As := [.ref l1, .int l2]) (rest := []) C0 W0 (ctX3_partWords l G h6) (gK_of h4) (rr := (RX3, TX3, 8)) rfl rfl mc_X3_partWords mv_X3_partWords ml_X6_34 ⟨by decide, by decide⟩ rfl hl.1 rfl (Nat.le_of_ble_eq_true rfl) ⟨by decide, by decide⟩ dX6_layOut_6 (fun H locs W0 => ?_)
  refine W.cs (cells' := 0) (slots' := 0) rfl rfl ?_
  refine W.eq (g2 := F0 m 9 ls []) rfl ?_
  refine lv_aload_n hx hb dX6_layOut_9 rfl (lv_at hl 0 rfl) ?_
  refine lv_iconst (v := 0) hx hb dX6_layOut_10 (by decide) ?_
  obtain ⟨X7, h8, h⟩ := ob h
  refine xr_putI C0 W0 cl_X6 3 (by decide) fl_X6_27 rfl rfl rfl (by decide) h8 dX6_layOut_11 (fun H locs W0 => ?_)
  refine lv_iconst (v := 0) hx hb dX6_layOut_14 (by decide) ?_
  refine lv_istore_n (lv' := [(3, .int 0), (0, .ref l0), (1, .ref l1), (2, .int l2)]) hx hb dX6_layOut_15 rfl hl (by decide) rfl (fun ls hl => ?_)
  obtain ⟨r9, h10, h⟩ := ob h
  refine tX6_layOut_l16 C0 hret (fun {H} {locs} {ls} W0 hl => ?_) FU W0 (lv_sub hl [1, 2, 0] rfl) h10
  refine lv_iconst (v := 0) hx hb dX6_layOut_94 (by decide) ?_
  refine lv_istore_n (lv' := [(3, .int 0), (0, .ref l0), (1, .ref l1)]) hx hb dX6_layOut_95 rfl hl (by decide) rfl (fun ls hl => ?_)
  obtain ⟨r11, h12, h⟩ := ob h
  refine tX6_layOut_l96 C0 hret (fun {H} {locs} {ls} W0 hl => ?_) FU W0 (lv_sub hl [1, 2, 0] rfl) h12
  refine lv_aload_n hx hb dX6_layOut_121 rfl (lv_at hl 0 rfl) ?_
  obtain ⟨q13, h14, h⟩ := ob h
  refine xr_getR C0 W0 cl_X6 1 (by decide) fl_X6_20 rfl h14 dX6_layOut_122 ?_
  refine lv_bipush (v := 12) hx hb dX6_layOut_125 (by decide) ?_
  obtain ⟨q15, h16, h⟩ := ob h
  refine xr_aldq C0 W0 6 (by decide) rfl rfl h16 dX6_layOut_127 ?_
  refine lv_aload_n hx hb dX6_layOut_128 rfl (lv_at hl 1 rfl) ?_
  obtain ⟨v17, h18, h⟩ := ob h
  refine xr_getI C0 W0 cl_X4 8 (by decide) fl_X6_61 rfl h18 dX6_layOut_129 ?_
  obtain ⟨X19, h20, h⟩ := ob h
  refine xr_S (As := [.ref q15, .int v17]) (rest := []) C0 W0 (ctJ7_fill_53178 l G h20) mc_J7_fill_53178 ms_J7_fill_53178 ml_X6_55 ⟨by decide, by decide⟩ rfl hl.1 rfl (Nat.le_of_ble_eq_true rfl) ⟨by decide, by decide⟩ dX6_layOut_132 (fun H locs W0 => ?_)
  refine W.cs (cells' := 0) (slots' := 0) rfl rfl ?_
  refine W.eq (g2 := F0 m 135 ls []) rfl ?_
  exact xr_vret C0 W0 hret (Option.some.inj h).symm dX6_layOut_135
def fX9_bringWithin (l0 : Int32) (l1 : Int32) (l2 : Int32) (X : XW) : Option (Int32 × XW) :=
  some ((iMx l1 (iMn l2 l0)), X)
theorem ctX9_bringWithin (l : Launch) (G : XG) {l0 : Int32} {l1 : Int32} {l2 : Int32} {X : XW} {r : Int32 × XW}  (h : fX9_bringWithin l0 l1 l2 X = some r) : XM l G yX9_bringWithin cX9_bringWithin 3 (some .int) 1 60 0 0 [.int l0, .int l1, .int l2] X (some (.int r.1), r.2) := by
  refine xm_of (own := RX9) (by decide) rfl (Nat.le_of_ble_eq_true rfl) ?_
  intro p e s m below meth c ls C0 W0 hret hnm hl
  have hx := C0.1
  have hb := C0.2.1
  have hl : lv_has ls 3 [(0, .int l0), (1, .int l1), (2, .int l2)] := hl
  unfold fX9_bringWithin at h
  refine lv_iload_n hx hb dX9_bringWithin_0 rfl (lv_at hl 1 rfl) ?_
  refine lv_iload_n hx hb dX9_bringWithin_1 rfl (lv_at hl 2 rfl) ?_
  refine lv_iload_n hx hb dX9_bringWithin_2 rfl (lv_at hl 0 rfl) ?_
  refine xr_mmin C0 hl.1 (xws_t 676 (by decide +kernel) rfl) (by decide) (Nat.le_of_ble_eq_true rfl) (Nat.le_of_ble_eq_true rfl) (Nat.le_of_ble_eq_true rfl) dX9_bringWithin_3 ?_
  refine xr_mmax C0 hl.1 (xws_t 677 (by decide +kernel) rfl) (by decide) (Nat.le_of_ble_eq_true rfl) (Nat.le_of_ble_eq_true rfl) (Nat.le_of_ble_eq_true rfl) dX9_bringWithin_6 ?_
  exact xr_iret C0 W0 hret (Option.some.inj h) dX9_bringWithin_9
def fX6_applyLine_j120  (l0 : Nat) (l4 : Int32) (l5 : Int32) (s0 : Int32) (X : XW) : Option (XW) :=
  gR X l0 6 1 >>= fun q1 =>
  aQ X q1 6 l5 >>= fun q3 =>
  sA 3 l5 >>= fun v5 =>
  sA 4 l5 >>= fun v7 =>
  fX9_bringWithin s0 v5 v7 X >>= fun r9 =>
  uI r9.2 q3 l4 r9.1 >>= fun X11 =>
  some X11
def fX6_applyLine_j65  (l0 : Nat) (l1 : Nat) (l2 : Int32) (l3 : Nat) (l4 : Int32) (l5 : Int32) (X : XW) : Option (XW) :=
  gR X l1 5 5 >>= fun q1 =>
  gR X l1 5 2 >>= fun q3 =>
  aI X q3 1 l2 >>= fun v5 =>
  gR X l1 5 3 >>= fun q7 =>
  aI X q7 1 l2 >>= fun v9 =>
  gR X l0 6 1 >>= fun q11 =>
  gK X l3 0 >>= fun u13 =>
  fX0_workOut l3 q1 v5 v9 q11 l4 X >>= fun r15 =>
  gR r15.2 l1 5 0 >>= fun q17 =>
  aI r15.2 q17 3 l2 >>= fun v19 =>
  if (v19 = 0 : Prop) then (fX6_applyLine_j120 l0 l4 l5 r15.1 r15.2)
  else (gR r15.2 l0 6 1 >>= fun q21 =>
    aQ r15.2 q21 6 l5 >>= fun q23 =>
    aI r15.2 q23 1 l4 >>= fun v25 =>
    fX6_applyLine_j120 l0 l4 l5 (v25 + r15.1) r15.2)
def fX6_applyLine_j28  (l0 : Nat) (l1 : Nat) (l2 : Int32) (l3 : Nat) (l4 : Int32) (l5 : Int32) (s0 : Int32) (X : XW) : Option (XW) :=
  if (s0 = 0 : Prop) then (fX6_applyLine_j65 l0 l1 l2 l3 l4 l5 X)
  else (gR X l1 5 5 >>= fun q1 =>
    gR X l1 5 3 >>= fun q3 =>
    aI X q3 1 l2 >>= fun v5 =>
    gR X l1 5 4 >>= fun q7 =>
    aI X q7 1 l2 >>= fun v9 =>
    gR X l0 6 1 >>= fun q11 =>
    gK X l3 0 >>= fun u13 =>
    fX0_workOut l3 q1 v5 v9 q11 l4 X >>= fun r15 =>
    if (r15.1 = 0 : Prop) then (some r15.2)
    else (fX6_applyLine_j65 l0 l1 l2 l3 l4 l5 r15.2))
def fX6_applyLine (l0 : Nat) (l1 : Nat) (l2 : Int32) (l3 : Nat) (l4 : Int32) (X : XW) : Option (XW) :=
  gR X l1 5 1 >>= fun q1 =>
  aI X q1 1 l2 >>= fun v3 =>
  gR X l1 5 3 >>= fun q5 =>
  aI X q5 1 l2 >>= fun v7 =>
  gR X l1 5 4 >>= fun q9 =>
  aI X q9 1 l2 >>= fun v11 =>
  if (v11 ≤ v7 : Prop) then (fX6_applyLine_j28 l0 l1 l2 l3 l4 v3 0 X)
  else (fX6_applyLine_j28 l0 l1 l2 l3 l4 v3 1 X)
theorem tX6_applyLine_j120 {p : Program} {l : Launch} {e : Env} {s : State} {m : MethodId} {args : Array Value} {below : List Frame} {meth : Method} {c : Code} {G : XG} {X0 : XW} (C0 : XC p s m args meth c RX6 cX6_applyLine 9 G) (hret : meth.sig.returnType = none) {r : XW} {l0 : Nat} {l4 : Int32} {l5 : Int32} {s0 : Int32} {X : XW} {H : Heap} {locs : List Loc} {ls : Array Slot} (W0 : XD G X0 X s H locs) (hl : lv_has ls 9 [(0, .ref l0), (4, .int l4), (5, .int l5)]) (h : fX6_applyLine_j120 l0 l4 l5 s0 X = some r) : W p l e { frames := 2, cells := 0, slots := 0, locals := 120 } s m args below meth c H locs 0 0 (MQ below (XQ G X0 (none, r)) args s 0 0 (xAd X0)) (F0 m 120 ls [.int s0]) := by
  have hx := C0.1
  have hb := C0.2.1
  unfold fX6_applyLine_j120 at h
  refine lv_istore (lv' := [(8, .int s0), (0, .ref l0), (4, .int l4), (5, .int l5)]) hx hb dX6_applyLine_120 hl (by decide) rfl (fun ls hl => ?_)
  refine lv_aload_n hx hb dX6_applyLine_122 rfl (lv_at hl 1 rfl) ?_
  obtain ⟨q1, h2, h⟩ := ob h
  refine xr_getR C0 W0 cl_X6 1 (by decide) fl_X6_20 rfl h2 dX6_applyLine_123 ?_
  refine lv_iload hx hb dX6_applyLine_126 (lv_at hl 3 rfl) ?_
  obtain ⟨q3, h4, h⟩ := ob h
  refine xr_aldq C0 W0 6 (by decide) rfl rfl h4 dX6_applyLine_128 ?_
  refine lv_iload hx hb dX6_applyLine_129 (lv_at hl 2 rfl) ?_
  refine lv_iload hx hb dX6_applyLine_131 (lv_at hl 0 rfl) ?_
  refine xr_getsN C0 W0 3 (by decide) (xnw_669 C0.2.2.2.2.2.1.2) dX6_applyLine_133 ?_
  refine lv_iload hx hb dX6_applyLine_136 (lv_at hl 3 rfl) ?_
  obtain ⟨v5, h6, h⟩ := ob h
  refine xr_sald C0 W0 3 (by decide) h6 dX6_applyLine_138 ?_
  refine xr_getsN C0 W0 4 (by decide) (xnw_671 C0.2.2.2.2.2.1.2) dX6_applyLine_139 ?_
  refine lv_iload hx hb dX6_applyLine_142 (lv_at hl 3 rfl) ?_
  obtain ⟨v7, h8, h⟩ := ob h
  refine xr_sald C0 W0 4 (by decide) h8 dX6_applyLine_144 ?_
  obtain ⟨r9, h10, h⟩ := ob h
  refine xr_SN (As := [.int s0, .int v5, .int v7]) (rest := [.int l4, .ref q3]) C0 W0 (ctX9_bringWithin l G h10) mc_X9_bringWithin ms_X9_bringWithin (xnw_673 C0.2.2.2.2.2.1.2) ⟨by decide, by decide⟩ rfl hl.1 rfl (Nat.le_of_ble_eq_true rfl) ⟨by decide, by decide⟩ dX6_applyLine_145 (fun H locs W0 => ?_)
  refine W.cs (cells' := 0) (slots' := 0) rfl rfl ?_
  refine W.eq (g2 := F0 m 148 ls [.int r9.1, .int l4, .ref q3]) rfl ?_
  obtain ⟨X11, h12, h⟩ := ob h
  refine xr_iast C0 W0 h12 dX6_applyLine_148 (fun H locs W0 => ?_)
  exact xr_vret C0 W0 hret (Option.some.inj h).symm dX6_applyLine_149
theorem tX6_applyLine_j65 {p : Program} {l : Launch} {e : Env} {s : State} {m : MethodId} {args : Array Value} {below : List Frame} {meth : Method} {c : Code} {G : XG} {X0 : XW} (C0 : XC p s m args meth c RX6 cX6_applyLine 9 G) (hret : meth.sig.returnType = none) {r : XW} {l0 : Nat} {l1 : Nat} {l2 : Int32} {l3 : Nat} {l4 : Int32} {l5 : Int32} {X : XW} {H : Heap} {locs : List Loc} {ls : Array Slot} (W0 : XD G X0 X s H locs) (hl : lv_has ls 9 [(0, .ref l0), (1, .ref l1), (2, .int l2), (3, .ref l3), (4, .int l4), (5, .int l5)]) (h : fX6_applyLine_j65 l0 l1 l2 l3 l4 l5 X = some r) : W p l e { frames := 2, cells := 0, slots := 0, locals := 120 } s m args below meth c H locs 0 0 (MQ below (XQ G X0 (none, r)) args s 0 0 (xAd X0)) (F0 m 65 ls []) := by
  have hx := C0.1
  have hb := C0.2.1
  unfold fX6_applyLine_j65 at h
  refine lv_aload_n hx hb dX6_applyLine_65 rfl (lv_at hl 3 rfl) ?_
  refine lv_aload_n hx hb dX6_applyLine_66 rfl (lv_at hl 1 rfl) ?_
  obtain ⟨q1, h2, h⟩ := ob h
  refine xr_getR C0 W0 cl_X5 5 (by decide) fl_X6_103 rfl h2 dX6_applyLine_67 ?_
  refine lv_aload_n hx hb dX6_applyLine_70 rfl (lv_at hl 1 rfl) ?_
  obtain ⟨q3, h4, h⟩ := ob h
  refine xr_getR C0 W0 cl_X5 2 (by decide) fl_X6_112 rfl h4 dX6_applyLine_71 ?_
  refine lv_iload_n hx hb dX6_applyLine_74 rfl (lv_at hl 2 rfl) ?_
  obtain ⟨v5, h6, h⟩ := ob h
  refine xr_iald C0 W0 h6 dX6_applyLine_75 ?_
  refine lv_aload_n hx hb dX6_applyLine_76 rfl (lv_at hl 1 rfl) ?_
  obtain ⟨q7, h8, h⟩ := ob h
  refine xr_getR C0 W0 cl_X5 3 (by decide) fl_X6_97 rfl h8 dX6_applyLine_77 ?_
  refine lv_iload_n hx hb dX6_applyLine_80 rfl (lv_at hl 2 rfl) ?_
  obtain ⟨v9, h10, h⟩ := ob h
  refine xr_iald C0 W0 h10 dX6_applyLine_81 ?_
  refine lv_aload_n hx hb dX6_applyLine_82 rfl (lv_at hl 0 rfl) ?_
  obtain ⟨q11, h12, h⟩ := ob h
  refine xr_getR C0 W0 cl_X6 1 (by decide) fl_X6_20 rfl h12 dX6_applyLine_83 ?_
  refine lv_iload hx hb dX6_applyLine_86 (lv_at hl 4 rfl) ?_
  obtain ⟨u13, h14, h⟩ := ob h
  obtain ⟨r15, h16, h⟩ := ob h
  refine xr_V (As := [.ref q1, .int v5, .int v9, .ref q11, .int l4]) (rest := []) C0 W0 (ctX0_workOut l G h16) (gK_of h14) (rr := (RX0, TX0, 2)) rfl rfl mc_X0_workOut mv_X0_workOut ml_X6_106 ⟨by decide, by decide⟩ rfl hl.1 rfl (Nat.le_of_ble_eq_true rfl) ⟨by decide, by decide⟩ dX6_applyLine_88 (fun H locs W0 => ?_)
  refine W.cs (cells' := 0) (slots' := 0) rfl rfl ?_
  refine W.eq (g2 := F0 m 91 ls [.int r15.1]) rfl ?_
  refine lv_istore (lv' := [(7, .int r15.1), (0, .ref l0), (1, .ref l1), (2, .int l2), (3, .ref l3), (4, .int l4), (5, .int l5)]) hx hb dX6_applyLine_91 hl (by decide) rfl (fun ls hl => ?_)
  refine lv_aload_n hx hb dX6_applyLine_93 rfl (lv_at hl 2 rfl) ?_
  obtain ⟨q17, h18, h⟩ := ob h
  refine xr_getR C0 W0 cl_X5 0 (by decide) fl_X6_115 rfl h18 dX6_applyLine_94 ?_
  refine lv_iload_n hx hb dX6_applyLine_97 rfl (lv_at hl 3 rfl) ?_
  obtain ⟨v19, h20, h⟩ := ob h
  refine xr_zald C0 W0 h20 dX6_applyLine_98 ?_
  refine lv_if_eq (tgt := 118) hx hb dX6_applyLine_99 (by decide) (fun hcq => ?_) (fun hcq => ?_)
  · have h := it_t hcq h
    refine lv_iload hx hb dX6_applyLine_118 (lv_at hl 0 rfl) ?_
    exact tX6_applyLine_j120 C0 hret W0 (lv_sub hl [1, 5, 6] rfl) h
  · have h := it_f hcq h
    refine lv_aload_n hx hb dX6_applyLine_102 rfl (lv_at hl 1 rfl) ?_
    obtain ⟨q21, h22, h⟩ := ob h
    refine xr_getR C0 W0 cl_X6 1 (by decide) fl_X6_20 rfl h22 dX6_applyLine_103 ?_
    refine lv_iload hx hb dX6_applyLine_106 (lv_at hl 6 rfl) ?_
    obtain ⟨q23, h24, h⟩ := ob h
    refine xr_aldq C0 W0 6 (by decide) rfl rfl h24 dX6_applyLine_108 ?_
    refine lv_iload hx hb dX6_applyLine_109 (lv_at hl 5 rfl) ?_
    obtain ⟨v25, h26, h⟩ := ob h
    refine xr_iald C0 W0 h26 dX6_applyLine_111 ?_
    refine lv_iload hx hb dX6_applyLine_112 (lv_at hl 0 rfl) ?_
    refine lv_iadd hx hb dX6_applyLine_114 ?_
    refine lv_goto (tgt := 120) hx hb dX6_applyLine_115 (by decide) ?_
    exact tX6_applyLine_j120 C0 hret W0 (lv_sub hl [1, 5, 6] rfl) h
theorem tX6_applyLine_j28 {p : Program} {l : Launch} {e : Env} {s : State} {m : MethodId} {args : Array Value} {below : List Frame} {meth : Method} {c : Code} {G : XG} {X0 : XW} (C0 : XC p s m args meth c RX6 cX6_applyLine 9 G) (hret : meth.sig.returnType = none) {r : XW} {l0 : Nat} {l1 : Nat} {l2 : Int32} {l3 : Nat} {l4 : Int32} {l5 : Int32} {s0 : Int32} {X : XW} {H : Heap} {locs : List Loc} {ls : Array Slot} (W0 : XD G X0 X s H locs) (hl : lv_has ls 9 [(0, .ref l0), (1, .ref l1), (2, .int l2), (3, .ref l3), (4, .int l4), (5, .int l5)]) (h : fX6_applyLine_j28 l0 l1 l2 l3 l4 l5 s0 X = some r) : W p l e { frames := 2, cells := 0, slots := 0, locals := 120 } s m args below meth c H locs 0 0 (MQ below (XQ G X0 (none, r)) args s 0 0 (xAd X0)) (F0 m 28 ls [.int s0]) := by
  have hx := C0.1
  have hb := C0.2.1
  unfold fX6_applyLine_j28 at h
  refine lv_istore (lv' := [(6, .int s0), (0, .ref l0), (1, .ref l1), (2, .int l2), (3, .ref l3), (4, .int l4), (5, .int l5)]) hx hb dX6_applyLine_28 hl (by decide) rfl (fun ls hl => ?_)
  refine lv_iload hx hb dX6_applyLine_30 (lv_at hl 0 rfl) ?_
  refine lv_if_eq (tgt := 65) hx hb dX6_applyLine_32 (by decide) (fun hcq => ?_) (fun hcq => ?_)
  · have h := it_t hcq h
    exact tX6_applyLine_j65 C0 hret W0 (lv_sub hl [1, 2, 3, 4, 5, 6] rfl) h
  · have h := it_f hcq h
    refine lv_aload_n hx hb dX6_applyLine_35 rfl (lv_at hl 4 rfl) ?_
    refine lv_aload_n hx hb dX6_applyLine_36 rfl (lv_at hl 2 rfl) ?_
    obtain ⟨q1, h2, h⟩ := ob h
    refine xr_getR C0 W0 cl_X5 5 (by decide) fl_X6_103 rfl h2 dX6_applyLine_37 ?_
    refine lv_aload_n hx hb dX6_applyLine_40 rfl (lv_at hl 2 rfl) ?_
    obtain ⟨q3, h4, h⟩ := ob h
    refine xr_getR C0 W0 cl_X5 3 (by decide) fl_X6_97 rfl h4 dX6_applyLine_41 ?_
    refine lv_iload_n hx hb dX6_applyLine_44 rfl (lv_at hl 3 rfl) ?_
    obtain ⟨v5, h6, h⟩ := ob h
    refine xr_iald C0 W0 h6 dX6_applyLine_45 ?_
    refine lv_aload_n hx hb dX6_applyLine_46 rfl (lv_at hl 2 rfl) ?_
    obtain ⟨q7, h8, h⟩ := ob h
    refine xr_getR C0 W0 cl_X5 4 (by decide) fl_X6_100 rfl h8 dX6_applyLine_47 ?_
    refine lv_iload_n hx hb dX6_applyLine_50 rfl (lv_at hl 3 rfl) ?_
    obtain ⟨v9, h10, h⟩ := ob h
    refine xr_iald C0 W0 h10 dX6_applyLine_51 ?_
    refine lv_aload_n hx hb dX6_applyLine_52 rfl (lv_at hl 1 rfl) ?_
    obtain ⟨q11, h12, h⟩ := ob h
    refine xr_getR C0 W0 cl_X6 1 (by decide) fl_X6_20 rfl h12 dX6_applyLine_53 ?_
    refine lv_iload hx hb dX6_applyLine_56 (lv_at hl 5 rfl) ?_
    obtain ⟨u13, h14, h⟩ := ob h
    obtain ⟨r15, h16, h⟩ := ob h
    refine xr_V (As := [.ref q1, .int v5, .int v9, .ref q11, .int l4]) (rest := []) C0 W0 (ctX0_workOut l G h16) (gK_of h14) (rr := (RX0, TX0, 2)) rfl rfl mc_X0_workOut mv_X0_workOut ml_X6_106 ⟨by decide, by decide⟩ rfl hl.1 rfl (Nat.le_of_ble_eq_true rfl) ⟨by decide, by decide⟩ dX6_applyLine_58 (fun H locs W0 => ?_)
    refine W.cs (cells' := 0) (slots' := 0) rfl rfl ?_
    refine W.eq (g2 := F0 m 61 ls [.int r15.1]) rfl ?_
    refine lv_if_ne (tgt := 65) hx hb dX6_applyLine_61 (by decide) (fun hcq => ?_) (fun hcq => ?_)
    · have h := it_f hcq h
      exact tX6_applyLine_j65 C0 hret W0 (lv_sub hl [1, 2, 3, 4, 5, 6] rfl) h
    · have h := it_t hcq h
      exact xr_vret C0 W0 hret (Option.some.inj h).symm dX6_applyLine_64
theorem ctX6_applyLine (l : Launch) (G : XG) {l0 : Nat} {l1 : Nat} {l2 : Int32} {l3 : Nat} {l4 : Int32} {X : XW} {r : XW}  (h : fX6_applyLine l0 l1 l2 l3 l4 X = some r) : XM l G yX6_applyLine cX6_applyLine 9 none 2 120 0 0 [.ref l0, .ref l1, .int l2, .ref l3, .int l4] X (none, r) := by
  refine xm_of (own := RX6) (by decide) rfl (Nat.le_of_ble_eq_true rfl) ?_
  intro p e s m below meth c ls C0 W0 hret hnm hl
  have hx := C0.1
  have hb := C0.2.1
  have hl : lv_has ls 9 [(0, .ref l0), (1, .ref l1), (2, .int l2), (3, .ref l3), (4, .int l4)] := hl
  unfold fX6_applyLine at h
  refine lv_aload_n hx hb dX6_applyLine_0 rfl (lv_at hl 1 rfl) ?_
  obtain ⟨q1, h2, h⟩ := ob h
  refine xr_getR C0 W0 cl_X5 1 (by decide) fl_X6_94 rfl h2 dX6_applyLine_1 ?_
  refine lv_iload_n hx hb dX6_applyLine_4 rfl (lv_at hl 2 rfl) ?_
  obtain ⟨v3, h4, h⟩ := ob h
  refine xr_iald C0 W0 h4 dX6_applyLine_5 ?_
  refine lv_istore (lv' := [(5, .int v3), (0, .ref l0), (1, .ref l1), (2, .int l2), (3, .ref l3), (4, .int l4)]) hx hb dX6_applyLine_6 hl (by decide) rfl (fun ls hl => ?_)
  refine lv_aload_n hx hb dX6_applyLine_8 rfl (lv_at hl 2 rfl) ?_
  obtain ⟨q5, h6, h⟩ := ob h
  refine xr_getR C0 W0 cl_X5 3 (by decide) fl_X6_97 rfl h6 dX6_applyLine_9 ?_
  refine lv_iload_n hx hb dX6_applyLine_12 rfl (lv_at hl 3 rfl) ?_
  obtain ⟨v7, h8, h⟩ := ob h
  refine xr_iald C0 W0 h8 dX6_applyLine_13 ?_
  refine lv_aload_n hx hb dX6_applyLine_14 rfl (lv_at hl 2 rfl) ?_
  obtain ⟨q9, h10, h⟩ := ob h
  refine xr_getR C0 W0 cl_X5 4 (by decide) fl_X6_100 rfl h10 dX6_applyLine_15 ?_
  refine lv_iload_n hx hb dX6_applyLine_18 rfl (lv_at hl 3 rfl) ?_
  obtain ⟨v11, h12, h⟩ := ob h
  refine xr_iald C0 W0 h12 dX6_applyLine_19 ?_
  refine lv_icmp_ge (tgt := 27) hx hb dX6_applyLine_20 (by decide) (fun hcq => ?_) (fun hcq => ?_)
  · have h := it_t hcq h
    refine lv_iconst (v := 0) hx hb dX6_applyLine_27 (by decide) ?_
    exact tX6_applyLine_j28 C0 hret W0 (lv_sub hl [1, 2, 3, 4, 5, 0] rfl) h
  · have h := it_f hcq h
    refine lv_iconst (v := 1) hx hb dX6_applyLine_23 (by decide) ?_
    refine lv_goto (tgt := 28) hx hb dX6_applyLine_24 (by decide) ?_
    exact tX6_applyLine_j28 C0 hret W0 (lv_sub hl [1, 2, 3, 4, 5, 0] rfl) h
def fX6_applyLines_l13_b (rec : Int32 → XW → Option (XW)) (l0 : Nat) (l1 : Nat) (l2 : Nat) (l3 : Int32) (l4 : Int32) (X : XW) : Option (XW) :=
  gI X l0 6 3 >>= fun v1 =>
  if (v1 ≤ l4 : Prop) then (some (X))
  else (gK X l0 6 >>= fun u3 =>
    fX6_applyLine l0 l1 l3 l2 l4 X >>= fun X5 =>
    rec (l4 + 1) X5)
def fX6_applyLines_l13 (l0 : Nat) (l1 : Nat) (l2 : Nat) (l3 : Int32) (n : Nat) : Int32 → XW → Option (XW) := iter (fun rec => fX6_applyLines_l13_b rec l0 l1 l2 l3) (fun _ _ => none) n
def fX6_applyLines_l2_b (rec : Int32 → XW → Option (XW)) (l0 : Nat) (l1 : Nat) (l2 : Nat) (l3 : Int32) (X : XW) : Option (XW) :=
  gI X l1 5 6 >>= fun v1 =>
  if (v1 ≤ l3 : Prop) then (some (X))
  else (fX6_applyLines_l13 l0 l1 l2 l3 FU 0 X >>= fun r3 =>
    rec (l3 + 1) r3)
def fX6_applyLines_l2 (l0 : Nat) (l1 : Nat) (l2 : Nat) (n : Nat) : Int32 → XW → Option (XW) := iter (fun rec => fX6_applyLines_l2_b rec l0 l1 l2) (fun _ _ => none) n
def fX6_applyLines (l0 : Nat) (l1 : Nat) (l2 : Nat) (X : XW) : Option (XW) :=
  fX6_applyLines_l2 l0 l1 l2 FU 0 X >>= fun r1 =>
  some r1
theorem tX6_applyLines_l13_b {p : Program} {l : Launch} {e : Env} {s : State} {m : MethodId} {args : Array Value} {below : List Frame} {meth : Method} {c : Code} {G : XG} {X0 : XW} (C0 : XC p s m args meth c RX6 cX6_applyLines 5 G) (hret : meth.sig.returnType = none) {r : XW} {l0 : Nat} {l1 : Nat} {l2 : Nat} {l3 : Int32} {Q : State → Prop} {rec : Int32 → XW → Option (XW)} (hrec : ∀ {y4 : Int32} {X : XW} {H : Heap} {locs : List Loc} {ls : Array Slot}, XD G X0 X s H locs → lv_has ls 5 [(0, .ref l0), (1, .ref l1), (2, .ref l2), (3, .int l3), (4, .int y4)] → rec y4 X = some r → W p l e { frames := 3, cells := 0, slots := 0, locals := 180 } s m args below meth c H locs 0 0 Q (F0 m 13 ls [])) (hK : ∀ {H : Heap} {locs : List Loc} {ls : Array Slot}, XD G X0 r s H locs → lv_has ls 5 [(0, .ref l0), (1, .ref l1), (2, .ref l2), (3, .int l3)] → W p l e { frames := 3, cells := 0, slots := 0, locals := 180 } s m args below meth c H locs 0 0 Q (F0 m 37 ls []))  {l4 : Int32} {X : XW} {H : Heap} {locs : List Loc} {ls : Array Slot} (W0 : XD G X0 X s H locs) (hl : lv_has ls 5 [(0, .ref l0), (1, .ref l1), (2, .ref l2), (3, .int l3), (4, .int l4)]) (h : fX6_applyLines_l13_b rec l0 l1 l2 l3 l4 X = some r) : W p l e { frames := 3, cells := 0, slots := 0, locals := 180 } s m args below meth c H locs 0 0 Q (F0 m 13 ls []) := by
  have hx := C0.1
  have hb := C0.2.1
  unfold fX6_applyLines_l13_b at h
  refine lv_iload hx hb dX6_applyLines_13 (lv_at hl 4 rfl) ?_
  refine lv_aload_n hx hb dX6_applyLines_15 rfl (lv_at hl 0 rfl) ?_
  obtain ⟨v1, h2, h⟩ := ob h
  refine xr_getI C0 W0 cl_X6 3 (by decide) fl_X6_27 rfl h2 dX6_applyLines_16 ?_
  refine lv_icmp_ge (tgt := 37) hx hb dX6_applyLines_19 (by decide) (fun hcq => ?_) (fun hcq => ?_)
  · have h := it_t hcq h
    cases h
    exact hK W0 (lv_sub hl [0, 1, 2, 3] rfl)
  · have h := it_f hcq h
    refine lv_aload_n hx hb dX6_applyLines_22 rfl (lv_at hl 0 rfl) ?_
    refine lv_aload_n hx hb dX6_applyLines_23 rfl (lv_at hl 1 rfl) ?_
    refine lv_iload_n hx hb dX6_applyLines_24 rfl (lv_at hl 3 rfl) ?_
    refine lv_aload_n hx hb dX6_applyLines_25 rfl (lv_at hl 2 rfl) ?_
    refine lv_iload hx hb dX6_applyLines_26 (lv_at hl 4 rfl) ?_
    obtain ⟨u3, h4, h⟩ := ob h
    obtain ⟨X5, h6, h⟩ := ob h
    refine xr_V (As := [.ref l1, .int l3, .ref l2, .int l4]) (rest := []) C0 W0 (ctX6_applyLine l G h6) (gK_of h4) (rr := (RX6, TX6, 5)) rfl rfl mc_X6_applyLine mv_X6_applyLine ml_X6_90 ⟨by decide, by decide⟩ rfl hl.1 rfl (Nat.le_of_ble_eq_true rfl) ⟨by decide, by decide⟩ dX6_applyLines_28 (fun H locs W0 => ?_)
    refine W.cs (cells' := 0) (slots' := 0) rfl rfl ?_
    refine W.eq (g2 := F0 m 31 ls []) rfl ?_
    refine lv_iinc (v := (l4 + 1)) (lv' := [(4, .int (l4 + 1)), (0, .ref l0), (1, .ref l1), (2, .ref l2), (3, .int l3)]) hx hb dX6_applyLines_31 hl (k := 4) rfl (ii (by decide)) (by decide) rfl (fun ls hl => ?_)
    refine lv_goto (tgt := 13) hx hb dX6_applyLines_34 (by decide) ?_
    exact hrec W0 (lv_sub hl [1, 2, 3, 4, 0] rfl) h
theorem tX6_applyLines_l13 {p : Program} {l : Launch} {e : Env} {s : State} {m : MethodId} {args : Array Value} {below : List Frame} {meth : Method} {c : Code} {G : XG} {X0 : XW} (C0 : XC p s m args meth c RX6 cX6_applyLines 5 G) (hret : meth.sig.returnType = none) {r : XW} {l0 : Nat} {l1 : Nat} {l2 : Nat} {l3 : Int32} {Q : State → Prop} (hK : ∀ {H : Heap} {locs : List Loc} {ls : Array Slot}, XD G X0 r s H locs → lv_has ls 5 [(0, .ref l0), (1, .ref l1), (2, .ref l2), (3, .int l3)] → W p l e { frames := 3, cells := 0, slots := 0, locals := 180 } s m args below meth c H locs 0 0 Q (F0 m 37 ls [])) : ∀ (n : Nat) {y4 : Int32} {X : XW} {H : Heap} {locs : List Loc} {ls : Array Slot}, XD G X0 X s H locs → lv_has ls 5 [(0, .ref l0), (1, .ref l1), (2, .ref l2), (3, .int l3), (4, .int y4)] → fX6_applyLines_l13 l0 l1 l2 l3 n y4 X = some r → W p l e { frames := 3, cells := 0, slots := 0, locals := 180 } s m args below meth c H locs 0 0 Q (F0 m 13 ls []) := by
  intro n
  induction n with
  | zero =>
    intro y4 X H locs ls W0 hl h
    cases h
  | succ n ih =>
    intro y4 X H locs ls W0 hl h
    exact tX6_applyLines_l13_b C0 hret (rec := fX6_applyLines_l13 l0 l1 l2 l3 n) (fun W0 hl h => ih W0 hl h) hK W0 hl h
theorem tX6_applyLines_l2_b {p : Program} {l : Launch} {e : Env} {s : State} {m : MethodId} {args : Array Value} {below : List Frame} {meth : Method} {c : Code} {G : XG} {X0 : XW} (C0 : XC p s m args meth c RX6 cX6_applyLines 5 G) (hret : meth.sig.returnType = none) {r : XW} {l0 : Nat} {l1 : Nat} {l2 : Nat} {Q : State → Prop} {rec : Int32 → XW → Option (XW)} (hrec : ∀ {y3 : Int32} {X : XW} {H : Heap} {locs : List Loc} {ls : Array Slot}, XD G X0 X s H locs → lv_has ls 5 [(0, .ref l0), (1, .ref l1), (2, .ref l2), (3, .int y3)] → rec y3 X = some r → W p l e { frames := 3, cells := 0, slots := 0, locals := 180 } s m args below meth c H locs 0 0 Q (F0 m 2 ls [])) (hK : ∀ {H : Heap} {locs : List Loc} {ls : Array Slot}, XD G X0 r s H locs → lv_has ls 5 [] → W p l e { frames := 3, cells := 0, slots := 0, locals := 180 } s m args below meth c H locs 0 0 Q (F0 m 43 ls []))  {l3 : Int32} {X : XW} {H : Heap} {locs : List Loc} {ls : Array Slot} (W0 : XD G X0 X s H locs) (hl : lv_has ls 5 [(0, .ref l0), (1, .ref l1), (2, .ref l2), (3, .int l3)]) (h : fX6_applyLines_l2_b rec l0 l1 l2 l3 X = some r) : W p l e { frames := 3, cells := 0, slots := 0, locals := 180 } s m args below meth c H locs 0 0 Q (F0 m 2 ls []) := by
  have hx := C0.1
  have hb := C0.2.1
  unfold fX6_applyLines_l2_b at h
  refine lv_iload_n hx hb dX6_applyLines_2 rfl (lv_at hl 3 rfl) ?_
  refine lv_aload_n hx hb dX6_applyLines_3 rfl (lv_at hl 1 rfl) ?_
  obtain ⟨v1, h2, h⟩ := ob h
  refine xr_getI C0 W0 cl_X5 6 (by decide) fl_X6_85 rfl h2 dX6_applyLines_4 ?_
  refine lv_icmp_ge (tgt := 43) hx hb dX6_applyLines_7 (by decide) (fun hcq => ?_) (fun hcq => ?_)
  · have h := it_t hcq h
    cases h
    exact hK W0 (lv_sub hl [] rfl)
  · have h := it_f hcq h
    refine lv_iconst (v := 0) hx hb dX6_applyLines_10 (by decide) ?_
    refine lv_istore (lv' := [(4, .int 0), (0, .ref l0), (1, .ref l1), (2, .ref l2), (3, .int l3)]) hx hb dX6_applyLines_11 hl (by decide) rfl (fun ls hl => ?_)
    obtain ⟨r3, h4, h⟩ := ob h
    refine tX6_applyLines_l13 C0 hret (fun {H} {locs} {ls} W0 hl => ?_) FU W0 (lv_sub hl [1, 2, 3, 4, 0] rfl) h4
    refine lv_iinc (v := (l3 + 1)) (lv' := [(3, .int (l3 + 1)), (0, .ref l0), (1, .ref l1), (2, .ref l2)]) hx hb dX6_applyLines_37 hl (k := 3) rfl (ii (by decide)) (by decide) rfl (fun ls hl => ?_)
    refine lv_goto (tgt := 2) hx hb dX6_applyLines_40 (by decide) ?_
    exact hrec W0 (lv_sub hl [1, 2, 3, 0] rfl) h
theorem tX6_applyLines_l2 {p : Program} {l : Launch} {e : Env} {s : State} {m : MethodId} {args : Array Value} {below : List Frame} {meth : Method} {c : Code} {G : XG} {X0 : XW} (C0 : XC p s m args meth c RX6 cX6_applyLines 5 G) (hret : meth.sig.returnType = none) {r : XW} {l0 : Nat} {l1 : Nat} {l2 : Nat} {Q : State → Prop} (hK : ∀ {H : Heap} {locs : List Loc} {ls : Array Slot}, XD G X0 r s H locs → lv_has ls 5 [] → W p l e { frames := 3, cells := 0, slots := 0, locals := 180 } s m args below meth c H locs 0 0 Q (F0 m 43 ls [])) : ∀ (n : Nat) {y3 : Int32} {X : XW} {H : Heap} {locs : List Loc} {ls : Array Slot}, XD G X0 X s H locs → lv_has ls 5 [(0, .ref l0), (1, .ref l1), (2, .ref l2), (3, .int y3)] → fX6_applyLines_l2 l0 l1 l2 n y3 X = some r → W p l e { frames := 3, cells := 0, slots := 0, locals := 180 } s m args below meth c H locs 0 0 Q (F0 m 2 ls []) := by
  intro n
  induction n with
  | zero =>
    intro y3 X H locs ls W0 hl h
    cases h
  | succ n ih =>
    intro y3 X H locs ls W0 hl h
    exact tX6_applyLines_l2_b C0 hret (rec := fX6_applyLines_l2 l0 l1 l2 n) (fun W0 hl h => ih W0 hl h) hK W0 hl h
theorem ctX6_applyLines (l : Launch) (G : XG) {l0 : Nat} {l1 : Nat} {l2 : Nat} {X : XW} {r : XW}  (h : fX6_applyLines l0 l1 l2 X = some r) : XM l G yX6_applyLines cX6_applyLines 5 none 3 180 0 0 [.ref l0, .ref l1, .ref l2] X (none, r) := by
  refine xm_of (own := RX6) (by decide) rfl (Nat.le_of_ble_eq_true rfl) ?_
  intro p e s m below meth c ls C0 W0 hret hnm hl
  have hx := C0.1
  have hb := C0.2.1
  have hl : lv_has ls 5 [(0, .ref l0), (1, .ref l1), (2, .ref l2)] := hl
  unfold fX6_applyLines at h
  refine lv_iconst (v := 0) hx hb dX6_applyLines_0 (by decide) ?_
  refine lv_istore_n (lv' := [(3, .int 0), (0, .ref l0), (1, .ref l1), (2, .ref l2)]) hx hb dX6_applyLines_1 rfl hl (by decide) rfl (fun ls hl => ?_)
  obtain ⟨r1, h2, h⟩ := ob h
  refine tX6_applyLines_l2 C0 hret (fun {H} {locs} {ls} W0 hl => ?_) FU W0 (lv_sub hl [1, 2, 3, 0] rfl) h2
  exact xr_vret C0 W0 hret (Option.some.inj h).symm dX6_applyLines_43
def fX6_applyMarks_j45 (rec : Int32 → XW → Option (XW)) (l0 : Nat) (l1 : Nat) (l2 : Int32) (l3 : Int32) (X : XW) : Option (XW) :=
  rec (l3 + 1) X
def fX6_applyMarks_l9_b (rec : Int32 → XW → Option (XW)) (l0 : Nat) (l1 : Nat) (l2 : Int32) (l3 : Int32) (X : XW) : Option (XW) :=
  gI X l0 6 3 >>= fun v1 =>
  if (v1 ≤ l3 : Prop) then (some (X))
  else (gR X l1 4 5 >>= fun q3 =>
    aQ X q3 6 l2 >>= fun q5 =>
    aI X q5 1 l3 >>= fun v7 =>
    if (v7 = (-1) : Prop) then (fX6_applyMarks_j45 rec l0 l1 l2 l3 X)
    else (gR X l0 6 1 >>= fun q9 =>
      aQ X q9 6 l2 >>= fun q11 =>
      gR X l1 4 5 >>= fun q13 =>
      aQ X q13 6 l2 >>= fun q15 =>
      aI X q15 1 l3 >>= fun v17 =>
      uI X q11 l3 v17 >>= fun X19 =>
      fX6_applyMarks_j45 rec l0 l1 l2 l3 X19))
def fX6_applyMarks_l9 (l0 : Nat) (l1 : Nat) (l2 : Int32) (n : Nat) : Int32 → XW → Option (XW) := iter (fun rec => fX6_applyMarks_l9_b rec l0 l1 l2) (fun _ _ => none) n
def fX6_applyMarks_l2_b (rec : Int32 → XW → Option (XW)) (l0 : Nat) (l1 : Nat) (l2 : Int32) (X : XW) : Option (XW) :=
  if (3 ≤ l2 : Prop) then (some (X))
  else (fX6_applyMarks_l9 l0 l1 l2 FU 0 X >>= fun r1 =>
    rec (l2 + 1) r1)
def fX6_applyMarks_l2 (l0 : Nat) (l1 : Nat) (n : Nat) : Int32 → XW → Option (XW) := iter (fun rec => fX6_applyMarks_l2_b rec l0 l1) (fun _ _ => none) n
def fX6_applyMarks (l0 : Nat) (l1 : Nat) (X : XW) : Option (XW) :=
  fX6_applyMarks_l2 l0 l1 FU 0 X >>= fun r1 =>
  some r1
theorem tX6_applyMarks_j45 {p : Program} {l : Launch} {e : Env} {s : State} {m : MethodId} {args : Array Value} {below : List Frame} {meth : Method} {c : Code} {G : XG} {X0 : XW} (C0 : XC p s m args meth c RX6 cX6_applyMarks 4 G) (hret : meth.sig.returnType = none) {r : XW} {l0 : Nat} {l1 : Nat} {l2 : Int32} {Q : State → Prop} {rec : Int32 → XW → Option (XW)} (hrec : ∀ {y3 : Int32} {X : XW} {H : Heap} {locs : List Loc} {ls : Array Slot}, XD G X0 X s H locs → lv_has ls 4 [(0, .ref l0), (1, .ref l1), (2, .int l2), (3, .int y3)] → rec y3 X = some r → W p l e { frames := 0, cells := 0, slots := 0, locals := 0 } s m args below meth c H locs 0 0 Q (F0 m 9 ls [])) (hK : ∀ {H : Heap} {locs : List Loc} {ls : Array Slot}, XD G X0 r s H locs → lv_has ls 4 [(0, .ref l0), (1, .ref l1), (2, .int l2)] → W p l e { frames := 0, cells := 0, slots := 0, locals := 0 } s m args below meth c H locs 0 0 Q (F0 m 51 ls []))  {l3 : Int32} {X : XW} {H : Heap} {locs : List Loc} {ls : Array Slot} (W0 : XD G X0 X s H locs) (hl : lv_has ls 4 [(0, .ref l0), (1, .ref l1), (2, .int l2), (3, .int l3)]) (h : fX6_applyMarks_j45 rec l0 l1 l2 l3 X = some r) : W p l e { frames := 0, cells := 0, slots := 0, locals := 0 } s m args below meth c H locs 0 0 Q (F0 m 45 ls []) := by
  have hx := C0.1
  have hb := C0.2.1
  unfold fX6_applyMarks_j45 at h
  refine lv_iinc (v := (l3 + 1)) (lv' := [(3, .int (l3 + 1)), (0, .ref l0), (1, .ref l1), (2, .int l2)]) hx hb dX6_applyMarks_45 hl (k := 3) rfl (ii (by decide)) (by decide) rfl (fun ls hl => ?_)
  refine lv_goto (tgt := 9) hx hb dX6_applyMarks_48 (by decide) ?_
  exact hrec W0 (lv_sub hl [1, 2, 3, 0] rfl) h
theorem tX6_applyMarks_l9_b {p : Program} {l : Launch} {e : Env} {s : State} {m : MethodId} {args : Array Value} {below : List Frame} {meth : Method} {c : Code} {G : XG} {X0 : XW} (C0 : XC p s m args meth c RX6 cX6_applyMarks 4 G) (hret : meth.sig.returnType = none) {r : XW} {l0 : Nat} {l1 : Nat} {l2 : Int32} {Q : State → Prop} {rec : Int32 → XW → Option (XW)} (hrec : ∀ {y3 : Int32} {X : XW} {H : Heap} {locs : List Loc} {ls : Array Slot}, XD G X0 X s H locs → lv_has ls 4 [(0, .ref l0), (1, .ref l1), (2, .int l2), (3, .int y3)] → rec y3 X = some r → W p l e { frames := 0, cells := 0, slots := 0, locals := 0 } s m args below meth c H locs 0 0 Q (F0 m 9 ls [])) (hK : ∀ {H : Heap} {locs : List Loc} {ls : Array Slot}, XD G X0 r s H locs → lv_has ls 4 [(0, .ref l0), (1, .ref l1), (2, .int l2)] → W p l e { frames := 0, cells := 0, slots := 0, locals := 0 } s m args below meth c H locs 0 0 Q (F0 m 51 ls []))  {l3 : Int32} {X : XW} {H : Heap} {locs : List Loc} {ls : Array Slot} (W0 : XD G X0 X s H locs) (hl : lv_has ls 4 [(0, .ref l0), (1, .ref l1), (2, .int l2), (3, .int l3)]) (h : fX6_applyMarks_l9_b rec l0 l1 l2 l3 X = some r) : W p l e { frames := 0, cells := 0, slots := 0, locals := 0 } s m args below meth c H locs 0 0 Q (F0 m 9 ls []) := by
  have hx := C0.1
  have hb := C0.2.1
  unfold fX6_applyMarks_l9_b at h
  refine lv_iload_n hx hb dX6_applyMarks_9 rfl (lv_at hl 3 rfl) ?_
  refine lv_aload_n hx hb dX6_applyMarks_10 rfl (lv_at hl 0 rfl) ?_
  obtain ⟨v1, h2, h⟩ := ob h
  refine xr_getI C0 W0 cl_X6 3 (by decide) fl_X6_27 rfl h2 dX6_applyMarks_11 ?_
  refine lv_icmp_ge (tgt := 51) hx hb dX6_applyMarks_14 (by decide) (fun hcq => ?_) (fun hcq => ?_)
  · have h := it_t hcq h
    cases h
    exact hK W0 (lv_sub hl [0, 1, 2] rfl)
  · have h := it_f hcq h
    refine lv_aload_n hx hb dX6_applyMarks_17 rfl (lv_at hl 1 rfl) ?_
    obtain ⟨q3, h4, h⟩ := ob h
    refine xr_getR C0 W0 cl_X4 5 (by decide) fl_X6_128 rfl h4 dX6_applyMarks_18 ?_
    refine lv_iload_n hx hb dX6_applyMarks_21 rfl (lv_at hl 2 rfl) ?_
    obtain ⟨q5, h6, h⟩ := ob h
    refine xr_aldq C0 W0 6 (by decide) rfl rfl h6 dX6_applyMarks_22 ?_
    refine lv_iload_n hx hb dX6_applyMarks_23 rfl (lv_at hl 3 rfl) ?_
    obtain ⟨v7, h8, h⟩ := ob h
    refine xr_iald C0 W0 h8 dX6_applyMarks_24 ?_
    refine lv_iconst (v := (-1)) hx hb dX6_applyMarks_25 (by decide) ?_
    refine lv_icmp_eq (tgt := 45) hx hb dX6_applyMarks_26 (by decide) (fun hcq => ?_) (fun hcq => ?_)
    · have h := it_t hcq h
      exact tX6_applyMarks_j45 C0 hret hrec hK W0 (lv_sub hl [0, 1, 2, 3] rfl) h
    · have h := it_f hcq h
      refine lv_aload_n hx hb dX6_applyMarks_29 rfl (lv_at hl 0 rfl) ?_
      obtain ⟨q9, h10, h⟩ := ob h
      refine xr_getR C0 W0 cl_X6 1 (by decide) fl_X6_20 rfl h10 dX6_applyMarks_30 ?_
      refine lv_iload_n hx hb dX6_applyMarks_33 rfl (lv_at hl 2 rfl) ?_
      obtain ⟨q11, h12, h⟩ := ob h
      refine xr_aldq C0 W0 6 (by decide) rfl rfl h12 dX6_applyMarks_34 ?_
      refine lv_iload_n hx hb dX6_applyMarks_35 rfl (lv_at hl 3 rfl) ?_
      refine lv_aload_n hx hb dX6_applyMarks_36 rfl (lv_at hl 1 rfl) ?_
      obtain ⟨q13, h14, h⟩ := ob h
      refine xr_getR C0 W0 cl_X4 5 (by decide) fl_X6_128 rfl h14 dX6_applyMarks_37 ?_
      refine lv_iload_n hx hb dX6_applyMarks_40 rfl (lv_at hl 2 rfl) ?_
      obtain ⟨q15, h16, h⟩ := ob h
      refine xr_aldq C0 W0 6 (by decide) rfl rfl h16 dX6_applyMarks_41 ?_
      refine lv_iload_n hx hb dX6_applyMarks_42 rfl (lv_at hl 3 rfl) ?_
      obtain ⟨v17, h18, h⟩ := ob h
      refine xr_iald C0 W0 h18 dX6_applyMarks_43 ?_
      obtain ⟨X19, h20, h⟩ := ob h
      refine xr_iast C0 W0 h20 dX6_applyMarks_44 (fun H locs W0 => ?_)
      exact tX6_applyMarks_j45 C0 hret hrec hK W0 (lv_sub hl [0, 1, 2, 3] rfl) h
theorem tX6_applyMarks_l9 {p : Program} {l : Launch} {e : Env} {s : State} {m : MethodId} {args : Array Value} {below : List Frame} {meth : Method} {c : Code} {G : XG} {X0 : XW} (C0 : XC p s m args meth c RX6 cX6_applyMarks 4 G) (hret : meth.sig.returnType = none) {r : XW} {l0 : Nat} {l1 : Nat} {l2 : Int32} {Q : State → Prop} (hK : ∀ {H : Heap} {locs : List Loc} {ls : Array Slot}, XD G X0 r s H locs → lv_has ls 4 [(0, .ref l0), (1, .ref l1), (2, .int l2)] → W p l e { frames := 0, cells := 0, slots := 0, locals := 0 } s m args below meth c H locs 0 0 Q (F0 m 51 ls [])) : ∀ (n : Nat) {y3 : Int32} {X : XW} {H : Heap} {locs : List Loc} {ls : Array Slot}, XD G X0 X s H locs → lv_has ls 4 [(0, .ref l0), (1, .ref l1), (2, .int l2), (3, .int y3)] → fX6_applyMarks_l9 l0 l1 l2 n y3 X = some r → W p l e { frames := 0, cells := 0, slots := 0, locals := 0 } s m args below meth c H locs 0 0 Q (F0 m 9 ls []) := by
  intro n
  induction n with
  | zero =>
    intro y3 X H locs ls W0 hl h
    cases h
  | succ n ih =>
    intro y3 X H locs ls W0 hl h
    exact tX6_applyMarks_l9_b C0 hret (rec := fX6_applyMarks_l9 l0 l1 l2 n) (fun W0 hl h => ih W0 hl h) hK W0 hl h
theorem tX6_applyMarks_l2_b {p : Program} {l : Launch} {e : Env} {s : State} {m : MethodId} {args : Array Value} {below : List Frame} {meth : Method} {c : Code} {G : XG} {X0 : XW} (C0 : XC p s m args meth c RX6 cX6_applyMarks 4 G) (hret : meth.sig.returnType = none) {r : XW} {l0 : Nat} {l1 : Nat} {Q : State → Prop} {rec : Int32 → XW → Option (XW)} (hrec : ∀ {y2 : Int32} {X : XW} {H : Heap} {locs : List Loc} {ls : Array Slot}, XD G X0 X s H locs → lv_has ls 4 [(0, .ref l0), (1, .ref l1), (2, .int y2)] → rec y2 X = some r → W p l e { frames := 0, cells := 0, slots := 0, locals := 0 } s m args below meth c H locs 0 0 Q (F0 m 2 ls [])) (hK : ∀ {H : Heap} {locs : List Loc} {ls : Array Slot}, XD G X0 r s H locs → lv_has ls 4 [] → W p l e { frames := 0, cells := 0, slots := 0, locals := 0 } s m args below meth c H locs 0 0 Q (F0 m 57 ls []))  {l2 : Int32} {X : XW} {H : Heap} {locs : List Loc} {ls : Array Slot} (W0 : XD G X0 X s H locs) (hl : lv_has ls 4 [(0, .ref l0), (1, .ref l1), (2, .int l2)]) (h : fX6_applyMarks_l2_b rec l0 l1 l2 X = some r) : W p l e { frames := 0, cells := 0, slots := 0, locals := 0 } s m args below meth c H locs 0 0 Q (F0 m 2 ls []) := by
  have hx := C0.1
  have hb := C0.2.1
  unfold fX6_applyMarks_l2_b at h
  refine lv_iload_n hx hb dX6_applyMarks_2 rfl (lv_at hl 2 rfl) ?_
  refine lv_iconst (v := 3) hx hb dX6_applyMarks_3 (by decide) ?_
  refine lv_icmp_ge (tgt := 57) hx hb dX6_applyMarks_4 (by decide) (fun hcq => ?_) (fun hcq => ?_)
  · have h := it_t hcq h
    cases h
    exact hK W0 (lv_sub hl [] rfl)
  · have h := it_f hcq h
    refine lv_iconst (v := 0) hx hb dX6_applyMarks_7 (by decide) ?_
    refine lv_istore_n (lv' := [(3, .int 0), (0, .ref l0), (1, .ref l1), (2, .int l2)]) hx hb dX6_applyMarks_8 rfl hl (by decide) rfl (fun ls hl => ?_)
    obtain ⟨r1, h2, h⟩ := ob h
    refine tX6_applyMarks_l9 C0 hret (fun {H} {locs} {ls} W0 hl => ?_) FU W0 (lv_sub hl [1, 2, 3, 0] rfl) h2
    refine lv_iinc (v := (l2 + 1)) (lv' := [(2, .int (l2 + 1)), (0, .ref l0), (1, .ref l1)]) hx hb dX6_applyMarks_51 hl (k := 2) rfl (ii (by decide)) (by decide) rfl (fun ls hl => ?_)
    refine lv_goto (tgt := 2) hx hb dX6_applyMarks_54 (by decide) ?_
    exact hrec W0 (lv_sub hl [1, 2, 0] rfl) h
theorem tX6_applyMarks_l2 {p : Program} {l : Launch} {e : Env} {s : State} {m : MethodId} {args : Array Value} {below : List Frame} {meth : Method} {c : Code} {G : XG} {X0 : XW} (C0 : XC p s m args meth c RX6 cX6_applyMarks 4 G) (hret : meth.sig.returnType = none) {r : XW} {l0 : Nat} {l1 : Nat} {Q : State → Prop} (hK : ∀ {H : Heap} {locs : List Loc} {ls : Array Slot}, XD G X0 r s H locs → lv_has ls 4 [] → W p l e { frames := 0, cells := 0, slots := 0, locals := 0 } s m args below meth c H locs 0 0 Q (F0 m 57 ls [])) : ∀ (n : Nat) {y2 : Int32} {X : XW} {H : Heap} {locs : List Loc} {ls : Array Slot}, XD G X0 X s H locs → lv_has ls 4 [(0, .ref l0), (1, .ref l1), (2, .int y2)] → fX6_applyMarks_l2 l0 l1 n y2 X = some r → W p l e { frames := 0, cells := 0, slots := 0, locals := 0 } s m args below meth c H locs 0 0 Q (F0 m 2 ls []) := by
  intro n
  induction n with
  | zero =>
    intro y2 X H locs ls W0 hl h
    cases h
  | succ n ih =>
    intro y2 X H locs ls W0 hl h
    exact tX6_applyMarks_l2_b C0 hret (rec := fX6_applyMarks_l2 l0 l1 n) (fun W0 hl h => ih W0 hl h) hK W0 hl h
theorem ctX6_applyMarks (l : Launch) (G : XG) {l0 : Nat} {l1 : Nat} {X : XW} {r : XW}  (h : fX6_applyMarks l0 l1 X = some r) : XM l G yX6_applyMarks cX6_applyMarks 4 none 0 0 0 0 [.ref l0, .ref l1] X (none, r) := by
  refine xm_of (own := RX6) (by decide) rfl (Nat.le_of_ble_eq_true rfl) ?_
  intro p e s m below meth c ls C0 W0 hret hnm hl
  have hx := C0.1
  have hb := C0.2.1
  have hl : lv_has ls 4 [(0, .ref l0), (1, .ref l1)] := hl
  unfold fX6_applyMarks at h
  refine lv_iconst (v := 0) hx hb dX6_applyMarks_0 (by decide) ?_
  refine lv_istore_n (lv' := [(2, .int 0), (0, .ref l0), (1, .ref l1)]) hx hb dX6_applyMarks_1 rfl hl (by decide) rfl (fun ls hl => ?_)
  obtain ⟨r1, h2, h⟩ := ob h
  refine tX6_applyMarks_l2 C0 hret (fun {H} {locs} {ls} W0 hl => ?_) FU W0 (lv_sub hl [1, 2, 0] rfl) h2
  exact xr_vret C0 W0 hret (Option.some.inj h).symm dX6_applyMarks_57
