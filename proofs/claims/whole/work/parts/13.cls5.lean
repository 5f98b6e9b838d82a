def fX6_bringNear (l0 : Int32) (l1 : Int32) (l2 : Int32) (X : XW) : Option (Int32 × XW) :=
  fX9_bringWithin l0 (l1 - l2) (l1 + l2) X >>= fun r1 =>
  some (r1.1, r1.2)
theorem ctX6_bringNear (l : Launch) (G : XG) {l0 : Int32} {l1 : Int32} {l2 : Int32} {X : XW} {r : Int32 × XW}  (h : fX6_bringNear l0 l1 l2 X = some r) : XM l G yX6_bringNear cX6_bringNear 3 (some .int) 2 120 0 0 [.int l0, .int l1, .int l2] X (some (.int r.1), r.2) := by
  refine xm_of (own := RX6) (by decide) rfl (Nat.le_of_ble_eq_true rfl) ?_
  intro p e s m below meth c ls C0 W0 hret hnm hl
  have hx := C0.1
  have hb := C0.2.1
  have hl : lv_has ls 3 [(0, .int l0), (1, .int l1), (2, .int l2)] := hl
  unfold fX6_bringNear at h
  refine lv_iload_n hx hb dX6_bringNear_0 rfl (lv_at hl 0 rfl) ?_
  refine lv_iload_n hx hb dX6_bringNear_1 rfl (lv_at hl 1 rfl) ?_
  refine lv_iload_n hx hb dX6_bringNear_2 rfl (lv_at hl 2 rfl) ?_
  refine lv_isub hx hb dX6_bringNear_3 ?_
  refine lv_iload_n hx hb dX6_bringNear_4 rfl (lv_at hl 1 rfl) ?_
  refine lv_iload_n hx hb dX6_bringNear_5 rfl (lv_at hl 2 rfl) ?_
  refine lv_iadd hx hb dX6_bringNear_6 ?_
  obtain ⟨r1, h2, h⟩ := ob h
  refine xr_SN (As := [.int l0, .int (l1 - l2), .int (l1 + l2)]) (rest := []) C0 W0 (ctX9_bringWithin l G h2) mc_X9_bringWithin ms_X9_bringWithin (xnw_673 C0.2.2.2.2.2.1.2) ⟨by decide, by decide⟩ rfl hl.1 rfl (Nat.le_of_ble_eq_true rfl) ⟨by decide, by decide⟩ dX6_bringNear_7 (fun H locs W0 => ?_)
  refine W.cs (cells' := 0) (slots' := 0) rfl rfl ?_
  refine W.eq (g2 := F0 m 10 ls [.int r1.1]) rfl ?_
  exact xr_iret C0 W0 hret (Option.some.inj h) dX6_bringNear_10
def fX6_settleHeights_j55 (rec : Int32 → XW → Option (XW)) (l0 : Nat) (l2 : Nat) (l3 : Nat) (l4 : Nat) (l5 : Int32) (X : XW) : Option (XW) :=
  rec (l5 + 1) X
def fX6_settleHeights_l18_b (rec : Int32 → XW → Option (XW)) (l0 : Nat) (l2 : Nat) (l3 : Nat) (l4 : Nat) (l5 : Int32) (X : XW) : Option (XW) :=
  gI X l0 6 3 >>= fun v1 =>
  if (v1 ≤ l5 : Prop) then (some (X))
  else (aI X l4 1 l5 >>= fun v3 =>
    if (v3 = (-1) : Prop) then (aI X l3 1 l5 >>= fun v5 =>
      gI X l2 2 1 >>= fun v7 =>
      gI X l2 2 2 >>= fun v9 =>
      fX9_bringWithin v5 v7 v9 X >>= fun r11 =>
      uI r11.2 l3 l5 r11.1 >>= fun X13 =>
      fX6_settleHeights_j55 rec l0 l2 l3 l4 l5 X13)
    else (fX6_settleHeights_j55 rec l0 l2 l3 l4 l5 X))
def fX6_settleHeights_l18 (l0 : Nat) (l2 : Nat) (l3 : Nat) (l4 : Nat) (n : Nat) : Int32 → XW → Option (XW) := iter (fun rec => fX6_settleHeights_l18_b rec l0 l2 l3 l4) (fun _ _ => none) n
def fX6_settleHeights_j103 (rec : Int32 → XW → Option (XW)) (l0 : Nat) (l2 : Nat) (l3 : Nat) (l4 : Nat) (l5 : Int32) (X : XW) : Option (XW) :=
  rec (l5 + 1) X
def fX6_settleHeights_l64_b (rec : Int32 → XW → Option (XW)) (l0 : Nat) (l2 : Nat) (l3 : Nat) (l4 : Nat) (l5 : Int32) (X : XW) : Option (XW) :=
  gI X l0 6 3 >>= fun v1 =>
  if (v1 ≤ l5 : Prop) then (some (X))
  else (aI X l4 1 l5 >>= fun v3 =>
    if (v3 = (-1) : Prop) then (aI X l3 1 l5 >>= fun v5 =>
      aI X l3 1 (l5 - 1) >>= fun v7 =>
      gI X l2 2 3 >>= fun v9 =>
      fX6_bringNear v5 v7 v9 X >>= fun r11 =>
      uI r11.2 l3 l5 r11.1 >>= fun X13 =>
      fX6_settleHeights_j103 rec l0 l2 l3 l4 l5 X13)
    else (fX6_settleHeights_j103 rec l0 l2 l3 l4 l5 X))
def fX6_settleHeights_l64 (l0 : Nat) (l2 : Nat) (l3 : Nat) (l4 : Nat) (n : Nat) : Int32 → XW → Option (XW) := iter (fun rec => fX6_settleHeights_l64_b rec l0 l2 l3 l4) (fun _ _ => none) n
def fX6_settleHeights_j152 (rec : Int32 → XW → Option (XW)) (l0 : Nat) (l2 : Nat) (l3 : Nat) (l4 : Nat) (l5 : Int32) (X : XW) : Option (XW) :=
  rec (l5 + (-1)) X
def fX6_settleHeights_l117_b (rec : Int32 → XW → Option (XW)) (l0 : Nat) (l2 : Nat) (l3 : Nat) (l4 : Nat) (l5 : Int32) (X : XW) : Option (XW) :=
  if (l5 < 0 : Prop) then (some (X))
  else (aI X l4 1 l5 >>= fun v1 =>
    if (v1 = (-1) : Prop) then (aI X l3 1 l5 >>= fun v3 =>
      aI X l3 1 (l5 + 1) >>= fun v5 =>
      gI X l2 2 3 >>= fun v7 =>
      fX6_bringNear v3 v5 v7 X >>= fun r9 =>
      uI r9.2 l3 l5 r9.1 >>= fun X11 =>
      fX6_settleHeights_j152 rec l0 l2 l3 l4 l5 X11)
    else (fX6_settleHeights_j152 rec l0 l2 l3 l4 l5 X))
def fX6_settleHeights_l117 (l0 : Nat) (l2 : Nat) (l3 : Nat) (l4 : Nat) (n : Nat) : Int32 → XW → Option (XW) := iter (fun rec => fX6_settleHeights_l117_b rec l0 l2 l3 l4) (fun _ _ => none) n
def fX6_settleHeights_j209 (rec : Int32 → XW → Option (XW)) (l0 : Nat) (l2 : Nat) (l3 : Nat) (l5 : Int32) (s0 : Int32) (s1 : Nat) (X : XW) : Option (XW) :=
  pZ X s1 6 4 s0 >>= fun X1 =>
  rec (l5 + 1) X1
def fX6_settleHeights_j208 (rec : Int32 → XW → Option (XW)) (l0 : Nat) (l2 : Nat) (l3 : Nat) (l5 : Int32) (s0 : Nat) (X : XW) : Option (XW) :=
  fX6_settleHeights_j209 rec l0 l2 l3 l5 0 s0 X
def fX6_settleHeights_l166_b (rec : Int32 → XW → Option (XW)) (l0 : Nat) (l2 : Nat) (l3 : Nat) (l5 : Int32) (X : XW) : Option (XW) :=
  gI X l0 6 3 >>= fun v1 =>
  if (v1 ≤ l5 : Prop) then (some (X))
  else (gI X l0 6 4 >>= fun v3 =>
    if (v3 = 0 : Prop) then (fX6_settleHeights_j208 rec l0 l2 l3 l5 l0 X)
    else (aI X l3 1 l5 >>= fun v5 =>
      aI X l3 1 (l5 - 1) >>= fun v7 =>
      gI X l2 2 3 >>= fun v9 =>
      if (v9 < (iAb (v5 - v7)) : Prop) then (fX6_settleHeights_j208 rec l0 l2 l3 l5 l0 X)
      else (fX6_settleHeights_j209 rec l0 l2 l3 l5 1 l0 X)))
def fX6_settleHeights_l166 (l0 : Nat) (l2 : Nat) (l3 : Nat) (n : Nat) : Int32 → XW → Option (XW) := iter (fun rec => fX6_settleHeights_l166_b rec l0 l2 l3) (fun _ _ => none) n
def fX6_settleHeights (l0 : Nat) (l1 : Nat) (l2 : Nat) (X : XW) : Option (XW) :=
  gR X l0 6 1 >>= fun q1 =>
  aQ X q1 6 1 >>= fun q3 =>
  gR X l1 4 5 >>= fun q5 =>
  aQ X q5 6 1 >>= fun q7 =>
  fX6_settleHeights_l18 l0 l2 q3 q7 FU 0 X >>= fun r9 =>
  fX6_settleHeights_l64 l0 l2 q3 q7 FU 1 r9 >>= fun r11 =>
  gI r11 l0 6 3 >>= fun v13 =>
  fX6_settleHeights_l117 l0 l2 q3 q7 FU (v13 - 2) r11 >>= fun r15 =>
  pZ r15 l0 6 4 1 >>= fun X17 =>
  fX6_settleHeights_l166 l0 l2 q3 FU 1 X17 >>= fun r19 =>
  some r19
theorem tX6_settleHeights_j55 {p : Program} {l : Launch} {e : Env} {s : State} {m : MethodId} {args : Array Value} {below : List Frame} {meth : Method} {c : Code} {G : XG} {X0 : XW} (C0 : XC p s m args meth c RX6 cX6_settleHeights 6 G) (hret : meth.sig.returnType = none) {r : XW} {l0 : Nat} {l2 : Nat} {l3 : Nat} {l4 : Nat} {Q : State → Prop} {rec : Int32 → XW → Option (XW)} (hrec : ∀ {y5 : Int32} {X : XW} {H : Heap} {locs : List Loc} {ls : Array Slot}, XD G X0 X s H locs → lv_has ls 6 [(0, .ref l0), (2, .ref l2), (3, .ref l3), (4, .ref l4), (5, .int y5)] → rec y5 X = some r → W p l e { frames := 3, cells := 0, slots := 0, locals := 180 } s m args below meth c H locs 0 0 Q (F0 m 18 ls [])) (hK : ∀ {H : Heap} {locs : List Loc} {ls : Array Slot}, XD G X0 r s H locs → lv_has ls 6 [(0, .ref l0), (2, .ref l2), (3, .ref l3), (4, .ref l4)] → W p l e { frames := 3, cells := 0, slots := 0, locals := 180 } s m args below meth c H locs 0 0 Q (F0 m 61 ls []))  {l5 : Int32} {X : XW} {H : Heap} {locs : List Loc} {ls : Array Slot} (W0 : XD G X0 X s H locs) (hl : lv_has ls 6 [(0, .ref l0), (2, .ref l2), (3, .ref l3), (4, .ref l4), (5, .int l5)]) (h : fX6_settleHeights_j55 rec l0 l2 l3 l4 l5 X = some r) : W p l e { frames := 3, cells := 0, slots := 0, locals := 180 } s m args below meth c H locs 0 0 Q (F0 m 55 ls []) := by
  have hx := C0.1
  have hb := C0.2.1
  unfold fX6_settleHeights_j55 at h
  refine lv_iinc (v := (l5 + 1)) (lv' := [(5, .int (l5 + 1)), (0, .ref l0), (2, .ref l2), (3, .ref l3), (4, .ref l4)]) hx hb dX6_settleHeights_55 hl (k := 4) rfl (ii (by decide)) (by decide) rfl (fun ls hl => ?_)
  refine lv_goto (tgt := 18) hx hb dX6_settleHeights_58 (by decide) ?_
  exact hrec W0 (lv_sub hl [1, 2, 3, 4, 0] rfl) h
theorem tX6_settleHeights_l18_b {p : Program} {l : Launch} {e : Env} {s : State} {m : MethodId} {args : Array Value} {below : List Frame} {meth : Method} {c : Code} {G : XG} {X0 : XW} (C0 : XC p s m args meth c RX6 cX6_settleHeights 6 G) (hret : meth.sig.returnType = none) {r : XW} {l0 : Nat} {l2 : Nat} {l3 : Nat} {l4 : Nat} {Q : State → Prop} {rec : Int32 → XW → Option (XW)} (hrec : ∀ {y5 : Int32} {X : XW} {H : Heap} {locs : List Loc} {ls : Array Slot}, XD G X0 X s H locs → lv_has ls 6 [(0, .ref l0), (2, .ref l2), (3, .ref l3), (4, .ref l4), (5, .int y5)] → rec y5 X = some r → W p l e { frames := 3, cells := 0, slots := 0, locals := 180 } s m args below meth c H locs 0 0 Q (F0 m 18 ls [])) (hK : ∀ {H : Heap} {locs : List Loc} {ls : Array Slot}, XD G X0 r s H locs → lv_has ls 6 [(0, .ref l0), (2, .ref l2), (3, .ref l3), (4, .ref l4)] → W p l e { frames := 3, cells := 0, slots := 0, locals := 180 } s m args below meth c H locs 0 0 Q (F0 m 61 ls []))  {l5 : Int32} {X : XW} {H : Heap} {locs : List Loc} {ls : Array Slot} (W0 : XD G X0 X s H locs) (hl : lv_has ls 6 [(0, .ref l0), (2, .ref l2), (3, .ref l3), (4, .ref l4), (5, .int l5)]) (h : fX6_settleHeights_l18_b rec l0 l2 l3 l4 l5 X = some r) : W p l e { frames := 3, cells := 0, slots := 0, locals := 180 } s m args below meth c H locs 0 0 Q (F0 m 18 ls []) := by
  have hx := C0.1
  have hb := C0.2.1
  unfold fX6_settleHeights_l18_b at h
  refine lv_iload hx hb dX6_settleHeights_18 (lv_at hl 4 rfl) ?_
  refine lv_aload_n hx hb dX6_settleHeights_20 rfl (lv_at hl 0 rfl) ?_
  obtain ⟨v1, h2, h⟩ := ob h
  refine xr_getI C0 W0 cl_X6 3 (by decide) fl_X6_27 rfl h2 dX6_settleHeights_21 ?_
  refine lv_icmp_ge (tgt := 61) hx hb dX6_settleHeights_24 (by decide) (fun hcq => ?_) (fun hcq => ?_)
  · have h := it_t hcq h
    cases h
    exact hK W0 (lv_sub hl [0, 1, 2, 3] rfl)
  · have h := it_f hcq h
    refine lv_aload hx hb dX6_settleHeights_27 (lv_at hl 3 rfl) ?_
    refine lv_iload hx hb dX6_settleHeights_29 (lv_at hl 4 rfl) ?_
    obtain ⟨v3, h4, h⟩ := ob h
    refine xr_iald C0 W0 h4 dX6_settleHeights_31 ?_
    refine lv_iconst (v := (-1)) hx hb dX6_settleHeights_32 (by decide) ?_
    refine lv_icmp_ne (tgt := 55) hx hb dX6_settleHeights_33 (by decide) (fun hcq => ?_) (fun hcq => ?_)
    · have h := it_f hcq h
      exact tX6_settleHeights_j55 C0 hret hrec hK W0 (lv_sub hl [0, 1, 2, 3, 4] rfl) h
    · have h := it_t hcq h
      refine lv_aload_n hx hb dX6_settleHeights_36 rfl (lv_at hl 2 rfl) ?_
      refine lv_iload hx hb dX6_settleHeights_37 (lv_at hl 4 rfl) ?_
      refine lv_aload_n hx hb dX6_settleHeights_39 rfl (lv_at hl 2 rfl) ?_
      refine lv_iload hx hb dX6_settleHeights_40 (lv_at hl 4 rfl) ?_
      obtain ⟨v5, h6, h⟩ := ob h
      refine xr_iald C0 W0 h6 dX6_settleHeights_42 ?_
      refine lv_aload_n hx hb dX6_settleHeights_43 rfl (lv_at hl 1 rfl) ?_
      obtain ⟨v7, h8, h⟩ := ob h
      refine xr_getI C0 W0 cl_X2 1 (by decide) fl_X6_131 rfl h8 dX6_settleHeights_44 ?_
      refine lv_aload_n hx hb dX6_settleHeights_47 rfl (lv_at hl 1 rfl) ?_
      obtain ⟨v9, h10, h⟩ := ob h
      refine xr_getI C0 W0 cl_X2 2 (by decide) fl_X6_136 rfl h10 dX6_settleHeights_48 ?_
      obtain ⟨r11, h12, h⟩ := ob h
      refine xr_SN (As := [.int v5, .int v7, .int v9]) (rest := [.int l5, .ref l3]) C0 W0 (ctX9_bringWithin l G h12) mc_X9_bringWithin ms_X9_bringWithin (xnw_673 C0.2.2.2.2.2.1.2) ⟨by decide, by decide⟩ rfl hl.1 rfl (Nat.le_of_ble_eq_true rfl) ⟨by decide, by decide⟩ dX6_settleHeights_51 (fun H locs W0 => ?_)
      refine W.cs (cells' := 0) (slots' := 0) rfl rfl ?_
      refine W.eq (g2 := F0 m 54 ls [.int r11.1, .int l5, .ref l3]) rfl ?_
      obtain ⟨X13, h14, h⟩ := ob h
      refine xr_iast C0 W0 h14 dX6_settleHeights_54 (fun H locs W0 => ?_)
      exact tX6_settleHeights_j55 C0 hret hrec hK W0 (lv_sub hl [0, 1, 2, 3, 4] rfl) h
theorem tX6_settleHeights_l18 {p : Program} {l : Launch} {e : Env} {s : State} {m : MethodId} {args : Array Value} {below : List Frame} {meth : Method} {c : Code} {G : XG} {X0 : XW} (C0 : XC p s m args meth c RX6 cX6_settleHeights 6 G) (hret : meth.sig.returnType = none) {r : XW} {l0 : Nat} {l2 : Nat} {l3 : Nat} {l4 : Nat} {Q : State → Prop} (hK : ∀ {H : Heap} {locs : List Loc} {ls : Array Slot}, XD G X0 r s H locs → lv_has ls 6 [(0, .ref l0), (2, .ref l2), (3, .ref l3), (4, .ref l4)] → W p l e { frames := 3, cells := 0, slots := 0, locals := 180 } s m args below meth c H locs 0 0 Q (F0 m 61 ls [])) : ∀ (n : Nat) {y5 : Int32} {X : XW} {H : Heap} {locs : List Loc} {ls : Array Slot}, XD G X0 X s H locs → lv_has ls 6 [(0, .ref l0), (2, .ref l2), (3, .ref l3), (4, .ref l4), (5, .int y5)] → fX6_settleHeights_l18 l0 l2 l3 l4 n y5 X = some r → W p l e { frames := 3, cells := 0, slots := 0, locals := 180 } s m args below meth c H locs 0 0 Q (F0 m 18 ls []) := by
  intro n
  induction n with
  | zero =>
    intro y5 X H locs ls W0 hl h
    cases h
  | succ n ih =>
    intro y5 X H locs ls W0 hl h
    exact tX6_settleHeights_l18_b C0 hret (rec := fX6_settleHeights_l18 l0 l2 l3 l4 n) (fun W0 hl h => ih W0 hl h) hK W0 hl h
theorem tX6_settleHeights_j103 {p : Program} {l : Launch} {e : Env} {s : State} {m : MethodId} {args : Array Value} {below : List Frame} {meth : Method} {c : Code} {G : XG} {X0 : XW} (C0 : XC p s m args meth c RX6 cX6_settleHeights 6 G) (hret : meth.sig.returnType = none) {r : XW} {l0 : Nat} {l2 : Nat} {l3 : Nat} {l4 : Nat} {Q : State → Prop} {rec : Int32 → XW → Option (XW)} (hrec : ∀ {y5 : Int32} {X : XW} {H : Heap} {locs : List Loc} {ls : Array Slot}, XD G X0 X s H locs → lv_has ls 6 [(0, .ref l0), (2, .ref l2), (3, .ref l3), (4, .ref l4), (5, .int y5)] → rec y5 X = some r → W p l e { frames := 3, cells := 0, slots := 0, locals := 180 } s m args below meth c H locs 0 0 Q (F0 m 64 ls [])) (hK : ∀ {H : Heap} {locs : List Loc} {ls : Array Slot}, XD G X0 r s H locs → lv_has ls 6 [(0, .ref l0), (2, .ref l2), (3, .ref l3), (4, .ref l4)] → W p l e { frames := 3, cells := 0, slots := 0, locals := 180 } s m args below meth c H locs 0 0 Q (F0 m 109 ls []))  {l5 : Int32} {X : XW} {H : Heap} {locs : List Loc} {ls : Array Slot} (W0 : XD G X0 X s H locs) (hl : lv_has ls 6 [(0, .ref l0), (2, .ref l2), (3, .ref l3), (4, .ref l4), (5, .int l5)]) (h : fX6_settleHeights_j103 rec l0 l2 l3 l4 l5 X = some r) : W p l e { frames := 3, cells := 0, slots := 0, locals := 180 } s m args below meth c H locs 0 0 Q (F0 m 103 ls []) := by
  have hx := C0.1
  have hb := C0.2.1
  unfold fX6_settleHeights_j103 at h
  refine lv_iinc (v := (l5 + 1)) (lv' := [(5, .int (l5 + 1)), (0, .ref l0), (2, .ref l2), (3, .ref l3), (4, .ref l4)]) hx hb dX6_settleHeights_103 hl (k := 4) rfl (ii (by decide)) (by decide) rfl (fun ls hl => ?_)
  refine lv_goto (tgt := 64) hx hb dX6_settleHeights_106 (by decide) ?_
  exact hrec W0 (lv_sub hl [1, 2, 3, 4, 0] rfl) h
theorem tX6_settleHeights_l64_b {p : Program} {l : Launch} {e : Env} {s : State} {m : MethodId} {args : Array Value} {below : List Frame} {meth : Method} {c : Code} {G : XG} {X0 : XW} (C0 : XC p s m args meth c RX6 cX6_settleHeights 6 G) (hret : meth.sig.returnType = none) {r : XW} {l0 : Nat} {l2 : Nat} {l3 : Nat} {l4 : Nat} {Q : State → Prop} {rec : Int32 → XW → Option (XW)} (hrec : ∀ {y5 : Int32} {X : XW} {H : Heap} {locs : List Loc} {ls : Array Slot}, XD G X0 X s H locs → lv_has ls 6 [(0, .ref l0), (2, .ref l2), (3, .ref l3), (4, .ref l4), (5, .int y5)] → rec y5 X = some r → W p l e { frames := 3, cells := 0, slots := 0, locals := 180 } s m args below meth c H locs 0 0 Q (F0 m 64 ls [])) (hK : ∀ {H : Heap} {locs : List Loc} {ls : Array Slot}, XD G X0 r s H locs → lv_has ls 6 [(0, .ref l0), (2, .ref l2), (3, .ref l3), (4, .ref l4)] → W p l e { frames := 3, cells := 0, slots := 0, locals := 180 } s m args below meth c H locs 0 0 Q (F0 m 109 ls []))  {l5 : Int32} {X : XW} {H : Heap} {locs : List Loc} {ls : Array Slot} (W0 : XD G X0 X s H locs) (hl : lv_has ls 6 [(0, .ref l0), (2, .ref l2), (3, .ref l3), (4, .ref l4), (5, .int l5)]) (h : fX6_settleHeights_l64_b rec l0 l2 l3 l4 l5 X = some r) : W p l e { frames := 3, cells := 0, slots := 0, locals := 180 } s m args below meth c H locs 0 0 Q (F0 m 64 ls []) := by
  have hx := C0.1
  have hb := C0.2.1
  unfold fX6_settleHeights_l64_b at h
  refine lv_iload hx hb dX6_settleHeights_64 (lv_at hl 4 rfl) ?_
  refine lv_aload_n hx hb dX6_settleHeights_66 rfl (lv_at hl 0 rfl) ?_
  obtain ⟨v1, h2, h⟩ := ob h
  refine xr_getI C0 W0 cl_X6 3 (by decide) fl_X6_27 rfl h2 dX6_settleHeights_67 ?_
  refine lv_icmp_ge (tgt := 109) hx hb dX6_settleHeights_70 (by decide) (fun hcq => ?_) (fun hcq => ?_)
  · have h := it_t hcq h
    cases h
    exact hK W0 (lv_sub hl [0, 1, 2, 3] rfl)
  · have h := it_f hcq h
    refine lv_aload hx hb dX6_settleHeights_73 (lv_at hl 3 rfl) ?_
    refine lv_iload hx hb dX6_settleHeights_75 (lv_at hl 4 rfl) ?_
    obtain ⟨v3, h4, h⟩ := ob h
    refine xr_iald C0 W0 h4 dX6_settleHeights_77 ?_
    refine lv_iconst (v := (-1)) hx hb dX6_settleHeights_78 (by decide) ?_
    refine lv_icmp_ne (tgt := 103) hx hb dX6_settleHeights_79 (by decide) (fun hcq => ?_) (fun hcq => ?_)
    · have h := it_f hcq h
      exact tX6_settleHeights_j103 C0 hret hrec hK W0 (lv_sub hl [0, 1, 2, 3, 4] rfl) h
    · have h := it_t hcq h
      refine lv_aload_n hx hb dX6_settleHeights_82 rfl (lv_at hl 2 rfl) ?_
      refine lv_iload hx hb dX6_settleHeights_83 (lv_at hl 4 rfl) ?_
      refine lv_aload_n hx hb dX6_settleHeights_85 rfl (lv_at hl 2 rfl) ?_
      refine lv_iload hx hb dX6_settleHeights_86 (lv_at hl 4 rfl) ?_
      obtain ⟨v5, h6, h⟩ := ob h
      refine xr_iald C0 W0 h6 dX6_settleHeights_88 ?_
      refine lv_aload_n hx hb dX6_settleHeights_89 rfl (lv_at hl 2 rfl) ?_
      refine lv_iload hx hb dX6_settleHeights_90 (lv_at hl 4 rfl) ?_
      refine lv_iconst (v := 1) hx hb dX6_settleHeights_92 (by decide) ?_
      refine lv_isub hx hb dX6_settleHeights_93 ?_
      obtain ⟨v7, h8, h⟩ := ob h
      refine xr_iald C0 W0 h8 dX6_settleHeights_94 ?_
      refine lv_aload_n hx hb dX6_settleHeights_95 rfl (lv_at hl 1 rfl) ?_
      obtain ⟨v9, h10, h⟩ := ob h
      refine xr_getI C0 W0 cl_X2 3 (by decide) fl_X6_139 rfl h10 dX6_settleHeights_96 ?_
      obtain ⟨r11, h12, h⟩ := ob h
      refine xr_S (As := [.int v5, .int v7, .int v9]) (rest := [.int l5, .ref l3]) C0 W0 (ctX6_bringNear l G h12) mc_X6_bringNear ms_X6_bringNear ml_X6_142 ⟨by decide, by decide⟩ rfl hl.1 rfl (Nat.le_of_ble_eq_true rfl) ⟨by decide, by decide⟩ dX6_settleHeights_99 (fun H locs W0 => ?_)
      refine W.cs (cells' := 0) (slots' := 0) rfl rfl ?_
      refine W.eq (g2 := F0 m 102 ls [.int r11.1, .int l5, .ref l3]) rfl ?_
      obtain ⟨X13, h14, h⟩ := ob h
      refine xr_iast C0 W0 h14 dX6_settleHeights_102 (fun H locs W0 => ?_)
      exact tX6_settleHeights_j103 C0 hret hrec hK W0 (lv_sub hl [0, 1, 2, 3, 4] rfl) h
theorem tX6_settleHeights_l64 {p : Program} {l : Launch} {e : Env} {s : State} {m : MethodId} {args : Array Value} {below : List Frame} {meth : Method} {c : Code} {G : XG} {X0 : XW} (C0 : XC p s m args meth c RX6 cX6_settleHeights 6 G) (hret : meth.sig.returnType = none) {r : XW} {l0 : Nat} {l2 : Nat} {l3 : Nat} {l4 : Nat} {Q : State → Prop} (hK : ∀ {H : Heap} {locs : List Loc} {ls : Array Slot}, XD G X0 r s H locs → lv_has ls 6 [(0, .ref l0), (2, .ref l2), (3, .ref l3), (4, .ref l4)] → W p l e { frames := 3, cells := 0, slots := 0, locals := 180 } s m args below meth c H locs 0 0 Q (F0 m 109 ls [])) : ∀ (n : Nat) {y5 : Int32} {X : XW} {H : Heap} {locs : List Loc} {ls : Array Slot}, XD G X0 X s H locs → lv_has ls 6 [(0, .ref l0), (2, .ref l2), (3, .ref l3), (4, .ref l4), (5, .int y5)] → fX6_settleHeights_l64 l0 l2 l3 l4 n y5 X = some r → W p l e { frames := 3, cells := 0, slots := 0, locals := 180 } s m args below meth c H locs 0 0 Q (F0 m 64 ls []) := by
  intro n
  induction n with
  | zero =>
    intro y5 X H locs ls W0 hl h
    cases h
  | succ n ih =>
    intro y5 X H locs ls W0 hl h
    exact tX6_settleHeights_l64_b C0 hret (rec := fX6_settleHeights_l64 l0 l2 l3 l4 n) (fun W0 hl h => ih W0 hl h) hK W0 hl h
theorem tX6_settleHeights_j152 {p : Program} {l : Launch} {e : Env} {s : State} {m : MethodId} {args : Array Value} {below : List Frame} {meth : Method} {c : Code} {G : XG} {X0 : XW} (C0 : XC p s m args meth c RX6 cX6_settleHeights 6 G) (hret : meth.sig.returnType = none) {r : XW} {l0 : Nat} {l2 : Nat} {l3 : Nat} {l4 : Nat} {Q : State → Prop} {rec : Int32 → XW → Option (XW)} (hrec : ∀ {y5 : Int32} {X : XW} {H : Heap} {locs : List Loc} {ls : Array Slot}, XD G X0 X s H locs → lv_has ls 6 [(0, .ref l0), (2, .ref l2), (3, .ref l3), (4, .ref l4), (5, .int y5)] → rec y5 X = some r → W p l e { frames := 3, cells := 0, slots := 0, locals := 180 } s m args below meth c H locs 0 0 Q (F0 m 117 ls [])) (hK : ∀ {H : Heap} {locs : List Loc} {ls : Array Slot}, XD G X0 r s H locs → lv_has ls 6 [(0, .ref l0), (2, .ref l2), (3, .ref l3)] → W p l e { frames := 3, cells := 0, slots := 0, locals := 180 } s m args below meth c H locs 0 0 Q (F0 m 158 ls []))  {l5 : Int32} {X : XW} {H : Heap} {locs : List Loc} {ls : Array Slot} (W0 : XD G X0 X s H locs) (hl : lv_has ls 6 [(0, .ref l0), (2, .ref l2), (3, .ref l3), (4, .ref l4), (5, .int l5)]) (h : fX6_settleHeights_j152 rec l0 l2 l3 l4 l5 X = some r) : W p l e { frames := 3, cells := 0, slots := 0, locals := 180 } s m args below meth c H locs 0 0 Q (F0 m 152 ls []) := by
  have hx := C0.1
  have hb := C0.2.1
  unfold fX6_settleHeights_j152 at h
  refine lv_iinc (v := (l5 + (-1))) (lv' := [(5, .int (l5 + (-1))), (0, .ref l0), (2, .ref l2), (3, .ref l3), (4, .ref l4)]) hx hb dX6_settleHeights_152 hl (k := 4) rfl (ii (by decide)) (by decide) rfl (fun ls hl => ?_)
  refine lv_goto (tgt := 117) hx hb dX6_settleHeights_155 (by decide) ?_
  exact hrec W0 (lv_sub hl [1, 2, 3, 4, 0] rfl) h
theorem tX6_settleHeights_l117_b {p : Program} {l : Launch} {e : Env} {s : State} {m : MethodId} {args : Array Value} {below : List Frame} {meth : Method} {c : Code} {G : XG} {X0 : XW} (C0 : XC p s m args meth c RX6 cX6_settleHeights 6 G) (hret : meth.sig.returnType = none) {r : XW} {l0 : Nat} {l2 : Nat} {l3 : Nat} {l4 : Nat} {Q : State → Prop} {rec : Int32 → XW → Option (XW)} (hrec : ∀ {y5 : Int32} {X : XW} {H : Heap} {locs : List Loc} {ls : Array Slot}, XD G X0 X s H locs → lv_has ls 6 [(0, .ref l0), (2, .ref l2), (3, .ref l3), (4, .ref l4), (5, .int y5)] → rec y5 X = some r → W p l e { frames := 3, cells := 0, slots := 0, locals := 180 } s m args below meth c H locs 0 0 Q (F0 m 117 ls [])) (hK : ∀ {H : Heap} {locs : List Loc} {ls : Array Slot}, XD G X0 r s H locs → lv_has ls 6 [(0, .ref l0), (2, .ref l2), (3, .ref l3)] → W p l e { frames := 3, cells := 0, slots := 0, locals := 180 } s m args below meth c H locs 0 0 Q (F0 m 158 ls []))  {l5 : Int32} {X : XW} {H : Heap} {locs : List Loc} {ls : Array Slot} (W0 : XD G X0 X s H locs) (hl : lv_has ls 6 [(0, .ref l0), (2, .ref l2), (3, .ref l3), (4, .ref l4), (5, .int l5)]) (h : fX6_settleHeights_l117_b rec l0 l2 l3 l4 l5 X = some r) : W p l e { frames := 3, cells := 0, slots := 0, locals := 180 } s m args below meth c H locs 0 0 Q (F0 m 117 ls []) := by
  have hx := C0.1
  have hb := C0.2.1
  unfold fX6_settleHeights_l117_b at h
  refine lv_iload hx hb dX6_settleHeights_117 (lv_at hl 4 rfl) ?_
  refine lv_if_lt (tgt := 158) hx hb dX6_settleHeights_119 (by decide) (fun hcq => ?_) (fun hcq => ?_)
  · have h := it_t hcq h
    cases h
    exact hK W0 (lv_sub hl [0, 1, 2] rfl)
  · have h := it_f hcq h
    refine lv_aload hx hb dX6_settleHeights_122 (lv_at hl 3 rfl) ?_
    refine lv_iload hx hb dX6_settleHeights_124 (lv_at hl 4 rfl) ?_
    obtain ⟨v1, h2, h⟩ := ob h
    refine xr_iald C0 W0 h2 dX6_settleHeights_126 ?_
    refine lv_iconst (v := (-1)) hx hb dX6_settleHeights_127 (by decide) ?_
    refine lv_icmp_ne (tgt := 152) hx hb dX6_settleHeights_128 (by decide) (fun hcq => ?_) (fun hcq => ?_)
    · have h := it_f hcq h
      exact tX6_settleHeights_j152 C0 hret hrec hK W0 (lv_sub hl [0, 1, 2, 3, 4] rfl) h
    · have h := it_t hcq h
      refine lv_aload_n hx hb dX6_settleHeights_131 rfl (lv_at hl 2 rfl) ?_
      refine lv_iload hx hb dX6_settleHeights_132 (lv_at hl 4 rfl) ?_
      refine lv_aload_n hx hb dX6_settleHeights_134 rfl (lv_at hl 2 rfl) ?_
      refine lv_iload hx hb dX6_settleHeights_135 (lv_at hl 4 rfl) ?_
      obtain ⟨v3, h4, h⟩ := ob h
      refine xr_iald C0 W0 h4 dX6_settleHeights_137 ?_
      refine lv_aload_n hx hb dX6_settleHeights_138 rfl (lv_at hl 2 rfl) ?_
      refine lv_iload hx hb dX6_settleHeights_139 (lv_at hl 4 rfl) ?_
      refine lv_iconst (v := 1) hx hb dX6_settleHeights_141 (by decide) ?_
      refine lv_iadd hx hb dX6_settleHeights_142 ?_
      obtain ⟨v5, h6, h⟩ := ob h
      refine xr_iald C0 W0 h6 dX6_settleHeights_143 ?_
      refine lv_aload_n hx hb dX6_settleHeights_144 rfl (lv_at hl 1 rfl) ?_
      obtain ⟨v7, h8, h⟩ := ob h
      refine xr_getI C0 W0 cl_X2 3 (by decide) fl_X6_139 rfl h8 dX6_settleHeights_145 ?_
      obtain ⟨r9, h10, h⟩ := ob h
      refine xr_S (As := [.int v3, .int v5, .int v7]) (rest := [.int l5, .ref l3]) C0 W0 (ctX6_bringNear l G h10) mc_X6_bringNear ms_X6_bringNear ml_X6_142 ⟨by decide, by decide⟩ rfl hl.1 rfl (Nat.le_of_ble_eq_true rfl) ⟨by decide, by decide⟩ dX6_settleHeights_148 (fun H locs W0 => ?_)
      refine W.cs (cells' := 0) (slots' := 0) rfl rfl ?_
      refine W.eq (g2 := F0 m 151 ls [.int r9.1, .int l5, .ref l3]) rfl ?_
      obtain ⟨X11, h12, h⟩ := ob h
      refine xr_iast C0 W0 h12 dX6_settleHeights_151 (fun H locs W0 => ?_)
      exact tX6_settleHeights_j152 C0 hret hrec hK W0 (lv_sub hl [0, 1, 2, 3, 4] rfl) h
theorem tX6_settleHeights_l117 {p : Program} {l : Launch} {e : Env} {s : State} {m : MethodId} {args : Array Value} {below : List Frame} {meth : Method} {c : Code} {G : XG} {X0 : XW} (C0 : XC p s m args meth c RX6 cX6_settleHeights 6 G) (hret : meth.sig.returnType = none) {r : XW} {l0 : Nat} {l2 : Nat} {l3 : Nat} {l4 : Nat} {Q : State → Prop} (hK : ∀ {H : Heap} {locs : List Loc} {ls : Array Slot}, XD G X0 r s H locs → lv_has ls 6 [(0, .ref l0), (2, .ref l2), (3, .ref l3)] → W p l e { frames := 3, cells := 0, slots := 0, locals := 180 } s m args below meth c H locs 0 0 Q (F0 m 158 ls [])) : ∀ (n : Nat) {y5 : Int32} {X : XW} {H : Heap} {locs : List Loc} {ls : Array Slot}, XD G X0 X s H locs → lv_has ls 6 [(0, .ref l0), (2, .ref l2), (3, .ref l3), (4, .ref l4), (5, .int y5)] → fX6_settleHeights_l117 l0 l2 l3 l4 n y5 X = some r → W p l e { frames := 3, cells := 0, slots := 0, locals := 180 } s m args below meth c H locs 0 0 Q (F0 m 117 ls []) := by
  intro n
  induction n with
  | zero =>
    intro y5 X H locs ls W0 hl h
    cases h
  | succ n ih =>
    intro y5 X H locs ls W0 hl h
    exact tX6_settleHeights_l117_b C0 hret (rec := fX6_settleHeights_l117 l0 l2 l3 l4 n) (fun W0 hl h => ih W0 hl h) hK W0 hl h
theorem tX6_settleHeights_j209 {p : Program} {l : Launch} {e : Env} {s : State} {m : MethodId} {args : Array Value} {below : List Frame} {meth : Method} {c : Code} {G : XG} {X0 : XW} (C0 : XC p s m args meth c RX6 cX6_settleHeights 6 G) (hret : meth.sig.returnType = none) {r : XW} {l0 : Nat} {l2 : Nat} {l3 : Nat} {Q : State → Prop} {rec : Int32 → XW → Option (XW)} (hrec : ∀ {y5 : Int32} {X : XW} {H : Heap} {locs : List Loc} {ls : Array Slot}, XD G X0 X s H locs → lv_has ls 6 [(0, .ref l0), (2, .ref l2), (3, .ref l3), (5, .int y5)] → rec y5 X = some r → W p l e { frames := 3, cells := 0, slots := 0, locals := 180 } s m args below meth c H locs 0 0 Q (F0 m 166 ls [])) (hK : ∀ {H : Heap} {locs : List Loc} {ls : Array Slot}, XD G X0 r s H locs → lv_has ls 6 [] → W p l e { frames := 3, cells := 0, slots := 0, locals := 180 } s m args below meth c H locs 0 0 Q (F0 m 218 ls []))  {l5 : Int32} {s0 : Int32} {s1 : Nat} {X : XW} {H : Heap} {locs : List Loc} {ls : Array Slot} (W0 : XD G X0 X s H locs) (hl : lv_has ls 6 [(0, .ref l0), (2, .ref l2), (3, .ref l3), (5, .int l5)]) (h : fX6_settleHeights_j209 rec l0 l2 l3 l5 s0 s1 X = some r) : W p l e { frames := 3, cells := 0, slots := 0, locals := 180 } s m args below meth c H locs 0 0 Q (F0 m 209 ls [.int s0, .ref s1]) := by
  have hx := C0.1
  have hb := C0.2.1
  unfold fX6_settleHeights_j209 at h
  obtain ⟨X1, h2, h⟩ := ob h
  refine xr_putZ C0 W0 cl_X6 4 (by decide) fl_X6_30 rfl rfl rfl (by decide) h2 dX6_settleHeights_209 (fun H locs W0 => ?_)
  refine lv_iinc (v := (l5 + 1)) (lv' := [(5, .int (l5 + 1)), (0, .ref l0), (2, .ref l2), (3, .ref l3)]) hx hb dX6_settleHeights_212 hl (k := 3) rfl (ii (by decide)) (by decide) rfl (fun ls hl => ?_)
  refine lv_goto (tgt := 166) hx hb dX6_settleHeights_215 (by decide) ?_
  exact hrec W0 (lv_sub hl [1, 2, 3, 0] rfl) h
theorem tX6_settleHeights_j208 {p : Program} {l : Launch} {e : Env} {s : State} {m : MethodId} {args : Array Value} {below : List Frame} {meth : Method} {c : Code} {G : XG} {X0 : XW} (C0 : XC p s m args meth c RX6 cX6_settleHeights 6 G) (hret : meth.sig.returnType = none) {r : XW} {l0 : Nat} {l2 : Nat} {l3 : Nat} {Q : State → Prop} {rec : Int32 → XW → Option (XW)} (hrec : ∀ {y5 : Int32} {X : XW} {H : Heap} {locs : List Loc} {ls : Array Slot}, XD G X0 X s H locs → lv_has ls 6 [(0, .ref l0), (2, .ref l2), (3, .ref l3), (5, .int y5)] → rec y5 X = some r → W p l e { frames := 3, cells := 0, slots := 0, locals := 180 } s m args below meth c H locs 0 0 Q (F0 m 166 ls [])) (hK : ∀ {H : Heap} {locs : List Loc} {ls : Array Slot}, XD G X0 r s H locs → lv_has ls 6 [] → W p l e { frames := 3, cells := 0, slots := 0, locals := 180 } s m args below meth c H locs 0 0 Q (F0 m 218 ls []))  {l5 : Int32} {s0 : Nat} {X : XW} {H : Heap} {locs : List Loc} {ls : Array Slot} (W0 : XD G X0 X s H locs) (hl : lv_has ls 6 [(0, .ref l0), (2, .ref l2), (3, .ref l3), (5, .int l5)]) (h : fX6_settleHeights_j208 rec l0 l2 l3 l5 s0 X = some r) : W p l e { frames := 3, cells := 0, slots := 0, locals := 180 } s m args below meth c H locs 0 0 Q (F0 m 208 ls [.ref s0]) := by
  have hx := C0.1
  have hb := C0.2.1
  unfold fX6_settleHeights_j208 at h
  refine lv_iconst (v := 0) hx hb dX6_settleHeights_208 (by decide) ?_
  exact tX6_settleHeights_j209 C0 hret hrec hK W0 (lv_sub hl [0, 1, 2, 3] rfl) h
theorem tX6_settleHeights_l166_b {p : Program} {l : Launch} {e : Env} {s : State} {m : MethodId} {args : Array Value} {below : List Frame} {meth : Method} {c : Code} {G : XG} {X0 : XW} (C0 : XC p s m args meth c RX6 cX6_settleHeights 6 G) (hret : meth.sig.returnType = none) {r : XW} {l0 : Nat} {l2 : Nat} {l3 : Nat} {Q : State → Prop} {rec : Int32 → XW → Option (XW)} (hrec : ∀ {y5 : Int32} {X : XW} {H : Heap} {locs : List Loc} {ls : Array Slot}, XD G X0 X s H locs → lv_has ls 6 [(0, .ref l0), (2, .ref l2), (3, .ref l3), (5, .int y5)] → rec y5 X = some r → W p l e { frames := 3, cells := 0, slots := 0, locals := 180 } s m args below meth c H locs 0 0 Q (F0 m 166 ls [])) (hK : ∀ {H : Heap} {locs : List Loc} {ls : Array Slot}, XD G X0 r s H locs → lv_has ls 6 [] → W p l e { frames := 3, cells := 0, slots := 0, locals := 180 } s m args below meth c H locs 0 0 Q (F0 m 218 ls []))  {l5 : Int32} {X : XW} {H : Heap} {locs : List Loc} {ls : Array Slot} (W0 : XD G X0 X s H locs) (hl : lv_has ls 6 [(0, .ref l0), (2, .ref l2), (3, .ref l3), (5, .int l5)]) (h : fX6_settleHeights_l166_b rec l0 l2 l3 l5 X = some r) : W p l e { frames := 3, cells := 0, slots := 0, locals := 180 } s m args below meth c H locs 0 0 Q (F0 m 166 ls []) := by
  have hx := C0.1
  have hb := C0.2.1
  unfold fX6_settleHeights_l166_b at h
  refine lv_iload hx hb dX6_settleHeights_166 (lv_at hl 3 rfl) ?_
  refine lv_aload_n hx hb dX6_settleHeights_168 rfl (lv_at hl 0 rfl) ?_
  obtain ⟨v1, h2, h⟩ := ob h
  refine xr_getI C0 W0 cl_X6 3 (by decide) fl_X6_27 rfl h2 dX6_settleHeights_169 ?_
  refine lv_icmp_ge (tgt := 218) hx hb dX6_settleHeights_172 (by decide) (fun hcq => ?_) (fun hcq => ?_)
  · have h := it_t hcq h
    cases h
    exact hK W0 (lv_sub hl [] rfl)
  · have h := it_f hcq h
    refine lv_aload_n hx hb dX6_settleHeights_175 rfl (lv_at hl 0 rfl) ?_
    refine lv_aload_n hx hb dX6_settleHeights_176 rfl (lv_at hl 0 rfl) ?_
    obtain ⟨v3, h4, h⟩ := ob h
    refine xr_getI C0 W0 cl_X6 4 (by decide) fl_X6_30 rfl h4 dX6_settleHeights_177 ?_
    refine lv_if_eq (tgt := 208) hx hb dX6_settleHeights_180 (by decide) (fun hcq => ?_) (fun hcq => ?_)
    · have h := it_t hcq h
      exact tX6_settleHeights_j208 C0 hret hrec hK W0 (lv_sub hl [0, 1, 2, 3] rfl) h
    · have h := it_f hcq h
      refine lv_aload_n hx hb dX6_settleHeights_183 rfl (lv_at hl 2 rfl) ?_
      refine lv_iload hx hb dX6_settleHeights_184 (lv_at hl 3 rfl) ?_
      obtain ⟨v5, h6, h⟩ := ob h
      refine xr_iald C0 W0 h6 dX6_settleHeights_186 ?_
      refine lv_aload_n hx hb dX6_settleHeights_187 rfl (lv_at hl 2 rfl) ?_
      refine lv_iload hx hb dX6_settleHeights_188 (lv_at hl 3 rfl) ?_
      refine lv_iconst (v := 1) hx hb dX6_settleHeights_190 (by decide) ?_
      refine lv_isub hx hb dX6_settleHeights_191 ?_
      obtain ⟨v7, h8, h⟩ := ob h
      refine xr_iald C0 W0 h8 dX6_settleHeights_192 ?_
      refine lv_isub hx hb dX6_settleHeights_193 ?_
      refine xr_mabs C0 hl.1 (xws_t 689 (by decide +kernel) rfl) (by decide) (Nat.le_of_ble_eq_true rfl) (Nat.le_of_ble_eq_true rfl) (Nat.le_of_ble_eq_true rfl) dX6_settleHeights_194 ?_
      refine lv_aload_n hx hb dX6_settleHeights_197 rfl (lv_at hl 1 rfl) ?_
      obtain ⟨v9, h10, h⟩ := ob h
      refine xr_getI C0 W0 cl_X2 3 (by decide) fl_X6_139 rfl h10 dX6_settleHeights_198 ?_
      refine lv_icmp_gt (tgt := 208) hx hb dX6_settleHeights_201 (by decide) (fun hcq => ?_) (fun hcq => ?_)
      · have h := it_t hcq h
        exact tX6_settleHeights_j208 C0 hret hrec hK W0 (lv_sub hl [0, 1, 2, 3] rfl) h
      · have h := it_f hcq h
        refine lv_iconst (v := 1) hx hb dX6_settleHeights_204 (by decide) ?_
        refine lv_goto (tgt := 209) hx hb dX6_settleHeights_205 (by decide) ?_
        exact tX6_settleHeights_j209 C0 hret hrec hK W0 (lv_sub hl [0, 1, 2, 3] rfl) h
theorem tX6_settleHeights_l166 {p : Program} {l : Launch} {e : Env} {s : State} {m : MethodId} {args : Array Value} {below : List Frame} {meth : Method} {c : Code} {G : XG} {X0 : XW} (C0 : XC p s m args meth c RX6 cX6_settleHeights 6 G) (hret : meth.sig.returnType = none) {r : XW} {l0 : Nat} {l2 : Nat} {l3 : Nat} {Q : State → Prop} (hK : ∀ {H : Heap} {locs : List Loc} {ls : Array Slot}, XD G X0 r s H locs → lv_has ls 6 [] → W p l e { frames := 3, cells := 0, slots := 0, locals := 180 } s m args below meth c H locs 0 0 Q (F0 m 218 ls [])) : ∀ (n : Nat) {y5 : Int32} {X : XW} {H : Heap} {locs : List Loc} {ls : Array Slot}, XD G X0 X s H locs → lv_has ls 6 [(0, .ref l0), (2, .ref l2), (3, .ref l3), (5, .int y5)] → fX6_settleHeights_l166 l0 l2 l3 n y5 X = some r → W p l e { frames := 3, cells := 0, slots := 0, locals := 180 } s m args below meth c H locs 0 0 Q (F0 m 166 ls []) := by
  intro n
  induction n with
  | zero =>
    intro y5 X H locs ls W0 hl h
    cases h
  | succ n ih =>
    intro y5 X H locs ls W0 hl h
    exact tX6_settleHeights_l166_b C0 hret (rec := fX6_settleHeights_l166 l0 l2 l3 n) (fun W0 hl h => ih W0 hl h) hK W0 hl h
theorem ctX6_settleHeights (l : Launch) (G : XG) {l0 : Nat} {l1 : Nat} {l2 : Nat} {X : XW} {r : XW}  (h : fX6_settleHeights l0 l1 l2 X = some r) : XM l G yX6_settleHeights cX6_settleHeights 6 none 3 180 0 0 [.ref l0, .ref l1, .ref l2] X (none, r) := by
  refine xm_of (own := RX6) (by decide) rfl (Nat.le_of_ble_eq_true rfl) ?_
  intro p e s m below meth c ls C0 W0 hret hnm hl
  have hx := C0.1
  have hb := C0.2.1
  have hl : lv_has ls 6 [(0, .ref l0), (1, .ref l1), (2, .ref l2)] := hl
  unfold fX6_settleHeights at h
  refine lv_aload_n hx hb dX6_settleHeights_0 rfl (lv_at hl 0 rfl) ?_
  obtain ⟨q1, h2, h⟩ := ob h
  refine xr_getR C0 W0 cl_X6 1 (by decide) fl_X6_20 rfl h2 dX6_settleHeights_1 ?_
  refine lv_iconst (v := 1) hx hb dX6_settleHeights_4 (by decide) ?_
  obtain ⟨q3, h4, h⟩ := ob h
  refine xr_aldq C0 W0 6 (by decide) rfl rfl h4 dX6_settleHeights_5 ?_
  refine lv_astore_n (lv' := [(3, .ref q3), (0, .ref l0), (1, .ref l1), (2, .ref l2)]) hx hb dX6_settleHeights_6 rfl hl (by decide) rfl (fun ls hl => ?_)
  refine lv_aload_n hx hb dX6_settleHeights_7 rfl (lv_at hl 2 rfl) ?_
  obtain ⟨q5, h6, h⟩ := ob h
  refine xr_getR C0 W0 cl_X4 5 (by decide) fl_X6_128 rfl h6 dX6_settleHeights_8 ?_
  refine lv_iconst (v := 1) hx hb dX6_settleHeights_11 (by decide) ?_
  obtain ⟨q7, h8, h⟩ := ob h
  refine xr_aldq C0 W0 6 (by decide) rfl rfl h8 dX6_settleHeights_12 ?_
  refine lv_astore (lv' := [(4, .ref q7), (3, .ref q3), (0, .ref l0), (1, .ref l1), (2, .ref l2)]) hx hb dX6_settleHeights_13 hl (by decide) rfl (fun ls hl => ?_)
  refine lv_iconst (v := 0) hx hb dX6_settleHeights_15 (by decide) ?_
  refine lv_istore (lv' := [(5, .int 0), (4, .ref q7), (3, .ref q3), (0, .ref l0), (1, .ref l1), (2, .ref l2)]) hx hb dX6_settleHeights_16 hl (by decide) rfl (fun ls hl => ?_)
  obtain ⟨r9, h10, h⟩ := ob h
  refine tX6_settleHeights_l18 C0 hret (fun {H} {locs} {ls} W0 hl => ?_) FU W0 (lv_sub hl [3, 5, 2, 1, 0] rfl) h10
  refine lv_iconst (v := 1) hx hb dX6_settleHeights_61 (by decide) ?_
  refine lv_istore (lv' := [(5, .int 1), (0, .ref l0), (2, .ref l2), (3, .ref q3), (4, .ref q7)]) hx hb dX6_settleHeights_62 hl (by decide) rfl (fun ls hl => ?_)
  obtain ⟨r11, h12, h⟩ := ob h
  refine tX6_settleHeights_l64 C0 hret (fun {H} {locs} {ls} W0 hl => ?_) FU W0 (lv_sub hl [1, 2, 3, 4, 0] rfl) h12
  refine lv_aload_n hx hb dX6_settleHeights_109 rfl (lv_at hl 0 rfl) ?_
  obtain ⟨v13, h14, h⟩ := ob h
  refine xr_getI C0 W0 cl_X6 3 (by decide) fl_X6_27 rfl h14 dX6_settleHeights_110 ?_
  refine lv_iconst (v := 2) hx hb dX6_settleHeights_113 (by decide) ?_
  refine lv_isub hx hb dX6_settleHeights_114 ?_
  refine lv_istore (lv' := [(5, .int (v13 - 2)), (0, .ref l0), (2, .ref l2), (3, .ref q3), (4, .ref q7)]) hx hb dX6_settleHeights_115 hl (by decide) rfl (fun ls hl => ?_)
  obtain ⟨r15, h16, h⟩ := ob h
  refine tX6_settleHeights_l117 C0 hret (fun {H} {locs} {ls} W0 hl => ?_) FU W0 (lv_sub hl [1, 2, 3, 4, 0] rfl) h16
  refine lv_aload_n hx hb dX6_settleHeights_158 rfl (lv_at hl 0 rfl) ?_
  refine lv_iconst (v := 1) hx hb dX6_settleHeights_159 (by decide) ?_
  obtain ⟨X17, h18, h⟩ := ob h
  refine xr_putZ C0 W0 cl_X6 4 (by decide) fl_X6_30 rfl rfl rfl (by decide) h18 dX6_settleHeights_160 (fun H locs W0 => ?_)
  refine lv_iconst (v := 1) hx hb dX6_settleHeights_163 (by decide) ?_
  refine lv_istore (lv' := [(5, .int 1), (0, .ref l0), (2, .ref l2), (3, .ref q3)]) hx hb dX6_settleHeights_164 hl (by decide) rfl (fun ls hl => ?_)
  obtain ⟨r19, h20, h⟩ := ob h
  refine tX6_settleHeights_l166 C0 hret (fun {H} {locs} {ls} W0 hl => ?_) FU W0 (lv_sub hl [1, 2, 3, 0] rfl) h20
  exact xr_vret C0 W0 hret (Option.some.inj h).symm dX6_settleHeights_218
def fX6_tellLengths_l13_b (rec : Int32 → Int32 → Int32 → XW → Option (XW)) (l0 : Nat) (l1 : Int32) (l2 : Int32) (l3 : Int32) (l4 : Int32) (l5 : Int32) (X : XW) : Option (XW) :=
  gI X l0 6 3 >>= fun v1 =>
  if (v1 ≤ l5 : Prop) then (some (X))
  else (gR X l0 6 1 >>= fun q3 =>
    aQ X q3 6 0 >>= fun q5 =>
    aI X q5 1 l5 >>= fun v7 =>
    iD ((l3 + v7) * l1) l2 >>= fun v9 =>
    gR X l0 6 1 >>= fun q11 =>
    aQ X q11 6 13 >>= fun q13 =>
    uI X q13 l5 (v9 - l4) >>= fun X15 =>
    rec (l3 + v7) v9 (l5 + 1) X15)
def fX6_tellLengths_l13 (l0 : Nat) (l1 : Int32) (l2 : Int32) (n : Nat) : Int32 → Int32 → Int32 → XW → Option (XW) := iter (fun rec => fX6_tellLengths_l13_b rec l0 l1 l2) (fun _ _ _ _ => none) n
def fX6_tellLengths (l0 : Nat) (l1 : Int32) (l2 : Int32) (X : XW) : Option (XW) :=
  if (0 < l2 : Prop) then (fX6_tellLengths_l13 l0 l1 l2 FU 0 0 0 X >>= fun r1 =>
    some r1)
  else (some X)
theorem tX6_tellLengths_l13_b {p : Program} {l : Launch} {e : Env} {s : State} {m : MethodId} {args : Array Value} {below : List Frame} {meth : Method} {c : Code} {G : XG} {X0 : XW} (C0 : XC p s m args meth c RX6 cX6_tellLengths 7 G) (hret : meth.sig.returnType = none) {r : XW} {l0 : Nat} {l1 : Int32} {l2 : Int32} {Q : State → Prop} {rec : Int32 → Int32 → Int32 → XW → Option (XW)} (hrec : ∀ {y3 : Int32} {y4 : Int32} {y5 : Int32} {X : XW} {H : Heap} {locs : List Loc} {ls : Array Slot}, XD G X0 X s H locs → lv_has ls 7 [(0, .ref l0), (1, .int l1), (2, .int l2), (3, .int y3), (4, .int y4), (5, .int y5)] → rec y3 y4 y5 X = some r → W p l e { frames := 0, cells := 0, slots := 0, locals := 0 } s m args below meth c H locs 0 0 Q (F0 m 13 ls [])) (hK : ∀ {H : Heap} {locs : List Loc} {ls : Array Slot}, XD G X0 r s H locs → lv_has ls 7 [] → W p l e { frames := 0, cells := 0, slots := 0, locals := 0 } s m args below meth c H locs 0 0 Q (F0 m 66 ls []))  {l3 : Int32} {l4 : Int32} {l5 : Int32} {X : XW} {H : Heap} {locs : List Loc} {ls : Array Slot} (W0 : XD G X0 X s H locs) (hl : lv_has ls 7 [(0, .ref l0), (1, .int l1), (2, .int l2), (3, .int l3), (4, .int l4), (5, .int l5)]) (h : fX6_tellLengths_l13_b rec l0 l1 l2 l3 l4 l5 X = some r) : W p l e { frames := 0, cells := 0, slots := 0, locals := 0 } s m args below meth c H locs 0 0 Q (F0 m 13 ls []) := by
  have hx := C0.1
  have hb := C0.2.1
  unfold fX6_tellLengths_l13_b at h
  refine lv_iload hx hb dX6_tellLengths_13 (lv_at hl 5 rfl) ?_
  refine lv_aload_n hx hb dX6_tellLengths_15 rfl (lv_at hl 0 rfl) ?_
  obtain ⟨v1, h2, h⟩ := ob h
  refine xr_getI C0 W0 cl_X6 3 (by decide) fl_X6_27 rfl h2 dX6_tellLengths_16 ?_
  refine lv_icmp_ge (tgt := 66) hx hb dX6_tellLengths_19 (by decide) (fun hcq => ?_) (fun hcq => ?_)
  · have h := it_t hcq h
    cases h
    exact hK W0 (lv_sub hl [] rfl)
  · have h := it_f hcq h
    refine lv_iload_n hx hb dX6_tellLengths_22 rfl (lv_at hl 3 rfl) ?_
    refine lv_aload_n hx hb dX6_tellLengths_23 rfl (lv_at hl 0 rfl) ?_
    obtain ⟨q3, h4, h⟩ := ob h
    refine xr_getR C0 W0 cl_X6 1 (by decide) fl_X6_20 rfl h4 dX6_tellLengths_24 ?_
    refine lv_iconst (v := 0) hx hb dX6_tellLengths_27 (by decide) ?_
    obtain ⟨q5, h6, h⟩ := ob h
    refine xr_aldq C0 W0 6 (by decide) rfl rfl h6 dX6_tellLengths_28 ?_
    refine lv_iload hx hb dX6_tellLengths_29 (lv_at hl 5 rfl) ?_
    obtain ⟨v7, h8, h⟩ := ob h
    refine xr_iald C0 W0 h8 dX6_tellLengths_31 ?_
    refine lv_iadd hx hb dX6_tellLengths_32 ?_
    refine lv_istore_n (lv' := [(3, .int (l3 + v7)), (0, .ref l0), (1, .int l1), (2, .int l2), (4, .int l4), (5, .int l5)]) hx hb dX6_tellLengths_33 rfl hl (by decide) rfl (fun ls hl => ?_)
    refine lv_iload_n hx hb dX6_tellLengths_34 rfl (lv_at hl 0 rfl) ?_
    refine lv_iload_n hx hb dX6_tellLengths_35 rfl (lv_at hl 2 rfl) ?_
    refine lv_imul hx hb dX6_tellLengths_36 ?_
    refine lv_iload_n hx hb dX6_tellLengths_37 rfl (lv_at hl 3 rfl) ?_
    obtain ⟨v9, h10, h⟩ := ob h
    refine xr_idiv C0 h10 dX6_tellLengths_38 ?_
    refine lv_istore (lv' := [(6, .int v9), (3, .int (l3 + v7)), (0, .ref l0), (1, .int l1), (2, .int l2), (4, .int l4), (5, .int l5)]) hx hb dX6_tellLengths_39 hl (by decide) rfl (fun ls hl => ?_)
    refine lv_aload_n hx hb dX6_tellLengths_41 rfl (lv_at hl 2 rfl) ?_
    obtain ⟨q11, h12, h⟩ := ob h
    refine xr_getR C0 W0 cl_X6 1 (by decide) fl_X6_20 rfl h12 dX6_tellLengths_42 ?_
    refine lv_bipush (v := 13) hx hb dX6_tellLengths_45 (by decide) ?_
    obtain ⟨q13, h14, h⟩ := ob h
    refine xr_aldq C0 W0 6 (by decide) rfl rfl h14 dX6_tellLengths_47 ?_
    refine lv_iload hx hb dX6_tellLengths_48 (lv_at hl 6 rfl) ?_
    refine lv_iload hx hb dX6_tellLengths_50 (lv_at hl 0 rfl) ?_
    refine lv_iload hx hb dX6_tellLengths_52 (lv_at hl 5 rfl) ?_
    refine lv_isub hx hb dX6_tellLengths_54 ?_
    obtain ⟨X15, h16, h⟩ := ob h
    refine xr_iast C0 W0 h16 dX6_tellLengths_55 (fun H locs W0 => ?_)
    refine lv_iload hx hb dX6_tellLengths_56 (lv_at hl 0 rfl) ?_
    refine lv_istore (lv' := [(4, .int v9), (6, .int v9), (3, .int (l3 + v7)), (0, .ref l0), (1, .int l1), (2, .int l2), (5, .int l5)]) hx hb dX6_tellLengths_58 hl (by decide) rfl (fun ls hl => ?_)
    refine lv_iinc (v := (l5 + 1)) (lv' := [(5, .int (l5 + 1)), (4, .int v9), (6, .int v9), (3, .int (l3 + v7)), (0, .ref l0), (1, .int l1), (2, .int l2)]) hx hb dX6_tellLengths_60 hl (k := 6) rfl (ii (by decide)) (by decide) rfl (fun ls hl => ?_)
    refine lv_goto (tgt := 13) hx hb dX6_tellLengths_63 (by decide) ?_
    exact hrec W0 (lv_sub hl [4, 5, 6, 3, 1, 0] rfl) h
theorem tX6_tellLengths_l13 {p : Program} {l : Launch} {e : Env} {s : State} {m : MethodId} {args : Array Value} {below : List Frame} {meth : Method} {c : Code} {G : XG} {X0 : XW} (C0 : XC p s m args meth c RX6 cX6_tellLengths 7 G) (hret : meth.sig.returnType = none) {r : XW} {l0 : Nat} {l1 : Int32} {l2 : Int32} {Q : State → Prop} (hK : ∀ {H : Heap} {locs : List Loc} {ls : Array Slot}, XD G X0 r s H locs → lv_has ls 7 [] → W p l e { frames := 0, cells := 0, slots := 0, locals := 0 } s m args below meth c H locs 0 0 Q (F0 m 66 ls [])) : ∀ (n : Nat) {y3 : Int32} {y4 : Int32} {y5 : Int32} {X : XW} {H : Heap} {locs : List Loc} {ls : Array Slot}, XD G X0 X s H locs → lv_has ls 7 [(0, .ref l0), (1, .int l1), (2, .int l2), (3, .int y3), (4, .int y4), (5, .int y5)] → fX6_tellLengths_l13 l0 l1 l2 n y3 y4 y5 X = some r → W p l e { frames := 0, cells := 0, slots := 0, locals := 0 } s m args below meth c H locs 0 0 Q (F0 m 13 ls []) := by
  intro n
  induction n with
  | zero =>
    intro y3 y4 y5 X H locs ls W0 hl h
    cases h
  | succ n ih =>
    intro y3 y4 y5 X H locs ls W0 hl h
    exact tX6_tellLengths_l13_b C0 hret (rec := fX6_tellLengths_l13 l0 l1 l2 n) (fun W0 hl h => ih W0 hl h) hK W0 hl h
theorem ctX6_tellLengths (l : Launch) (G : XG) {l0 : Nat} {l1 : Int32} {l2 : Int32} {X : XW} {r : XW}  (h : fX6_tellLengths l0 l1 l2 X = some r) : XM l G yX6_tellLengths cX6_tellLengths 7 none 0 0 0 0 [.ref l0, .int l1, .int l2] X (none, r) := by
  refine xm_of (own := RX6) (by decide) rfl (Nat.le_of_ble_eq_true rfl) ?_
  intro p e s m below meth c ls C0 W0 hret hnm hl
  have hx := C0.1
  have hb := C0.2.1
  have hl : lv_has ls 7 [(0, .ref l0), (1, .int l1), (2, .int l2)] := hl
  unfold fX6_tellLengths at h
  refine lv_iload_n hx hb dX6_tellLengths_0 rfl (lv_at hl 2 rfl) ?_
  refine lv_if_gt (tgt := 5) hx hb dX6_tellLengths_1 (by decide) (fun hcq => ?_) (fun hcq => ?_)
  · have h := it_t hcq h
    refine lv_iconst (v := 0) hx hb dX6_tellLengths_5 (by decide) ?_
    refine lv_istore_n (lv' := [(3, .int 0), (0, .ref l0), (1, .int l1), (2, .int l2)]) hx hb dX6_tellLengths_6 rfl hl (by decide) rfl (fun ls hl => ?_)
    refine lv_iconst (v := 0) hx hb dX6_tellLengths_7 (by decide) ?_
    refine lv_istore (lv' := [(4, .int 0), (3, .int 0), (0, .ref l0), (1, .int l1), (2, .int l2)]) hx hb dX6_tellLengths_8 hl (by decide) rfl (fun ls hl => ?_)
    refine lv_iconst (v := 0) hx hb dX6_tellLengths_10 (by decide) ?_
    refine lv_istore (lv' := [(5, .int 0), (4, .int 0), (3, .int 0), (0, .ref l0), (1, .int l1), (2, .int l2)]) hx hb dX6_tellLengths_11 hl (by decide) rfl (fun ls hl => ?_)
    obtain ⟨r1, h2, h⟩ := ob h
    refine tX6_tellLengths_l13 C0 hret (fun {H} {locs} {ls} W0 hl => ?_) FU W0 (lv_sub hl [3, 4, 5, 2, 1, 0] rfl) h2
    exact xr_vret C0 W0 hret (Option.some.inj h).symm dX6_tellLengths_66
  · have h := it_f hcq h
    exact xr_vret C0 W0 hret (Option.some.inj h).symm dX6_tellLengths_4
def fX6_isAlikeAt_j91  (s0 : Int32) (s1 : Int32) (X : XW) : Option (Int32 × XW) :=
  if (s1 = s0 : Prop) then (some (1, X))
  else (some (0, X))
def fX6_isAlikeAt_j75  (l1 : Nat) (l2 : Int32) (s0 : Int32) (X : XW) : Option (Int32 × XW) :=
  gR X l1 6 1 >>= fun q1 =>
  aQ X q1 6 4 >>= fun q3 =>
  aI X q3 1 l2 >>= fun v5 =>
  if (v5 = 0 : Prop) then (fX6_isAlikeAt_j91 1 s0 X)
  else (fX6_isAlikeAt_j91 0 s0 X)
def fX6_isAlikeAt (l0 : Nat) (l1 : Nat) (l2 : Int32) (X : XW) : Option (Int32 × XW) :=
  gR X l0 6 1 >>= fun q1 =>
  aQ X q1 6 13 >>= fun q3 =>
  aI X q3 1 l2 >>= fun v5 =>
  gR X l1 6 1 >>= fun q7 =>
  aQ X q7 6 13 >>= fun q9 =>
  aI X q9 1 l2 >>= fun v11 =>
  if (v5 = v11 : Prop) then (gR X l0 6 1 >>= fun q13 =>
    aQ X q13 6 1 >>= fun q15 =>
    aI X q15 1 l2 >>= fun v17 =>
    gR X l1 6 1 >>= fun q19 =>
    aQ X q19 6 1 >>= fun q21 =>
    aI X q21 1 l2 >>= fun v23 =>
    if (v17 = v23 : Prop) then (gR X l0 6 1 >>= fun q25 =>
      aQ X q25 6 2 >>= fun q27 =>
      aI X q27 1 l2 >>= fun v29 =>
      gR X l1 6 1 >>= fun q31 =>
      aQ X q31 6 2 >>= fun q33 =>
      aI X q33 1 l2 >>= fun v35 =>
      if (v29 = v35 : Prop) then (gR X l0 6 1 >>= fun q37 =>
        aQ X q37 6 4 >>= fun q39 =>
        aI X q39 1 l2 >>= fun v41 =>
        if (v41 = 0 : Prop) then (fX6_isAlikeAt_j75 l1 l2 1 X)
        else (fX6_isAlikeAt_j75 l1 l2 0 X))
      else (some (0, X)))
    else (some (0, X)))
  else (some (0, X))
theorem tX6_isAlikeAt_j91 {p : Program} {l : Launch} {e : Env} {s : State} {m : MethodId} {args : Array Value} {below : List Frame} {meth : Method} {c : Code} {G : XG} {X0 : XW} (C0 : XC p s m args meth c RX6 cX6_isAlikeAt 3 G) (hret : meth.sig.returnType = (some .boolean)) {r : Int32 × XW} {s0 : Int32} {s1 : Int32} {X : XW} {H : Heap} {locs : List Loc} {ls : Array Slot} (W0 : XD G X0 X s H locs) (hl : lv_has ls 3 []) (h : fX6_isAlikeAt_j91 s0 s1 X = some r) : W p l e { frames := 0, cells := 0, slots := 0, locals := 0 } s m args below meth c H locs 0 0 (MQ below (XQ G X0 (some (.int r.1), r.2)) args s 0 0 (xAd X0)) (F0 m 91 ls [.int s0, .int s1]) := by
  have hx := C0.1
  have hb := C0.2.1
  unfold fX6_isAlikeAt_j91 at h
  refine lv_icmp_ne (tgt := 98) hx hb dX6_isAlikeAt_91 (by decide) (fun hcq => ?_) (fun hcq => ?_)
  · have h := it_f hcq h
    refine lv_iconst (v := 0) hx hb dX6_isAlikeAt_98 (by decide) ?_
    exact xr_zret C0 W0 hret (by decide) (Option.some.inj h) dX6_isAlikeAt_99
  · have h := it_t hcq h
    refine lv_iconst (v := 1) hx hb dX6_isAlikeAt_94 (by decide) ?_
    refine lv_goto (tgt := 99) hx hb dX6_isAlikeAt_95 (by decide) ?_
    exact xr_zret C0 W0 hret (by decide) (Option.some.inj h) dX6_isAlikeAt_99
theorem tX6_isAlikeAt_j75 {p : Program} {l : Launch} {e : Env} {s : State} {m : MethodId} {args : Array Value} {below : List Frame} {meth : Method} {c : Code} {G : XG} {X0 : XW} (C0 : XC p s m args meth c RX6 cX6_isAlikeAt 3 G) (hret : meth.sig.returnType = (some .boolean)) {r : Int32 × XW} {l1 : Nat} {l2 : Int32} {s0 : Int32} {X : XW} {H : Heap} {locs : List Loc} {ls : Array Slot} (W0 : XD G X0 X s H locs) (hl : lv_has ls 3 [(1, .ref l1), (2, .int l2)]) (h : fX6_isAlikeAt_j75 l1 l2 s0 X = some r) : W p l e { frames := 0, cells := 0, slots := 0, locals := 0 } s m args below meth c H locs 0 0 (MQ below (XQ G X0 (some (.int r.1), r.2)) args s 0 0 (xAd X0)) (F0 m 75 ls [.int s0]) := by
  have hx := C0.1
  have hb := C0.2.1
  unfold fX6_isAlikeAt_j75 at h
  refine lv_aload_n hx hb dX6_isAlikeAt_75 rfl (lv_at hl 0 rfl) ?_
  obtain ⟨q1, h2, h⟩ := ob h
  refine xr_getR C0 W0 cl_X6 1 (by decide) fl_X6_20 rfl h2 dX6_isAlikeAt_76 ?_
  refine lv_iconst (v := 4) hx hb dX6_isAlikeAt_79 (by decide) ?_
  obtain ⟨q3, h4, h⟩ := ob h
  refine xr_aldq C0 W0 6 (by decide) rfl rfl h4 dX6_isAlikeAt_80 ?_
  refine lv_iload_n hx hb dX6_isAlikeAt_81 rfl (lv_at hl 1 rfl) ?_
  obtain ⟨v5, h6, h⟩ := ob h
  refine xr_iald C0 W0 h6 dX6_isAlikeAt_82 ?_
  refine lv_if_ne (tgt := 90) hx hb dX6_isAlikeAt_83 (by decide) (fun hcq => ?_) (fun hcq => ?_)
  · have h := it_f hcq h
    refine lv_iconst (v := 0) hx hb dX6_isAlikeAt_90 (by decide) ?_
    exact tX6_isAlikeAt_j91 C0 hret W0 (lv_sub hl [] rfl) h
  · have h := it_t hcq h
    refine lv_iconst (v := 1) hx hb dX6_isAlikeAt_86 (by decide) ?_
    refine lv_goto (tgt := 91) hx hb dX6_isAlikeAt_87 (by decide) ?_
    exact tX6_isAlikeAt_j91 C0 hret W0 (lv_sub hl [] rfl) h
theorem ctX6_isAlikeAt (l : Launch) (G : XG) {l0 : Nat} {l1 : Nat} {l2 : Int32} {X : XW} {r : Int32 × XW}  (h : fX6_isAlikeAt l0 l1 l2 X = some r) : XM l G yX6_isAlikeAt cX6_isAlikeAt 3 (some .boolean) 0 0 0 0 [.ref l0, .ref l1, .int l2] X (some (.int r.1), r.2) := by
  refine xm_of (own := RX6) (by decide) rfl (Nat.le_of_ble_eq_true rfl) ?_
  intro p e s m below meth c ls C0 W0 hret hnm hl
  have hx := C0.1
  have hb := C0.2.1
  have hl : lv_has ls 3 [(0, .ref l0), (1, .ref l1), (2, .int l2)] := hl
  unfold fX6_isAlikeAt at h
  refine lv_aload_n hx hb dX6_isAlikeAt_0 rfl (lv_at hl 0 rfl) ?_
  obtain ⟨q1, h2, h⟩ := ob h
  refine xr_getR C0 W0 cl_X6 1 (by decide) fl_X6_20 rfl h2 dX6_isAlikeAt_1 ?_
  refine lv_bipush (v := 13) hx hb dX6_isAlikeAt_4 (by decide) ?_
  obtain ⟨q3, h4, h⟩ := ob h
  refine xr_aldq C0 W0 6 (by decide) rfl rfl h4 dX6_isAlikeAt_6 ?_
  refine lv_iload_n hx hb dX6_isAlikeAt_7 rfl (lv_at hl 2 rfl) ?_
  obtain ⟨v5, h6, h⟩ := ob h
  refine xr_iald C0 W0 h6 dX6_isAlikeAt_8 ?_
  refine lv_aload_n hx hb dX6_isAlikeAt_9 rfl (lv_at hl 1 rfl) ?_
  obtain ⟨q7, h8, h⟩ := ob h
  refine xr_getR C0 W0 cl_X6 1 (by decide) fl_X6_20 rfl h8 dX6_isAlikeAt_10 ?_
  refine lv_bipush (v := 13) hx hb dX6_isAlikeAt_13 (by decide) ?_
  obtain ⟨q9, h10, h⟩ := ob h
  refine xr_aldq C0 W0 6 (by decide) rfl rfl h10 dX6_isAlikeAt_15 ?_
  refine lv_iload_n hx hb dX6_isAlikeAt_16 rfl (lv_at hl 2 rfl) ?_
  obtain ⟨v11, h12, h⟩ := ob h
  refine xr_iald C0 W0 h12 dX6_isAlikeAt_17 ?_
  refine lv_icmp_ne (tgt := 98) hx hb dX6_isAlikeAt_18 (by decide) (fun hcq => ?_) (fun hcq => ?_)
  · have h := it_f hcq h
    refine lv_iconst (v := 0) hx hb dX6_isAlikeAt_98 (by decide) ?_
    exact xr_zret C0 W0 hret (by decide) (Option.some.inj h) dX6_isAlikeAt_99
  · have h := it_t hcq h
    refine lv_aload_n hx hb dX6_isAlikeAt_21 rfl (lv_at hl 0 rfl) ?_
    obtain ⟨q13, h14, h⟩ := ob h
    refine xr_getR C0 W0 cl_X6 1 (by decide) fl_X6_20 rfl h14 dX6_isAlikeAt_22 ?_
    refine lv_iconst (v := 1) hx hb dX6_isAlikeAt_25 (by decide) ?_
    obtain ⟨q15, h16, h⟩ := ob h
    refine xr_aldq C0 W0 6 (by decide) rfl rfl h16 dX6_isAlikeAt_26 ?_
    refine lv_iload_n hx hb dX6_isAlikeAt_27 rfl (lv_at hl 2 rfl) ?_
    obtain ⟨v17, h18, h⟩ := ob h
    refine xr_iald C0 W0 h18 dX6_isAlikeAt_28 ?_
    refine lv_aload_n hx hb dX6_isAlikeAt_29 rfl (lv_at hl 1 rfl) ?_
    obtain ⟨q19, h20, h⟩ := ob h
    refine xr_getR C0 W0 cl_X6 1 (by decide) fl_X6_20 rfl h20 dX6_isAlikeAt_30 ?_
    refine lv_iconst (v := 1) hx hb dX6_isAlikeAt_33 (by decide) ?_
    obtain ⟨q21, h22, h⟩ := ob h
    refine xr_aldq C0 W0 6 (by decide) rfl rfl h22 dX6_isAlikeAt_34 ?_
    refine lv_iload_n hx hb dX6_isAlikeAt_35 rfl (lv_at hl 2 rfl) ?_
    obtain ⟨v23, h24, h⟩ := ob h
    refine xr_iald C0 W0 h24 dX6_isAlikeAt_36 ?_
    refine lv_icmp_ne (tgt := 98) hx hb dX6_isAlikeAt_37 (by decide) (fun hcq => ?_) (fun hcq => ?_)
    · have h := it_f hcq h
      refine lv_iconst (v := 0) hx hb dX6_isAlikeAt_98 (by decide) ?_
      exact xr_zret C0 W0 hret (by decide) (Option.some.inj h) dX6_isAlikeAt_99
    · have h := it_t hcq h
      refine lv_aload_n hx hb dX6_isAlikeAt_40 rfl (lv_at hl 0 rfl) ?_
      obtain ⟨q25, h26, h⟩ := ob h
      refine xr_getR C0 W0 cl_X6 1 (by decide) fl_X6_20 rfl h26 dX6_isAlikeAt_41 ?_
      refine lv_iconst (v := 2) hx hb dX6_isAlikeAt_44 (by decide) ?_
      obtain ⟨q27, h28, h⟩ := ob h
      refine xr_aldq C0 W0 6 (by decide) rfl rfl h28 dX6_isAlikeAt_45 ?_
      refine lv_iload_n hx hb dX6_isAlikeAt_46 rfl (lv_at hl 2 rfl) ?_
      obtain ⟨v29, h30, h⟩ := ob h
      refine xr_iald C0 W0 h30 dX6_isAlikeAt_47 ?_
      refine lv_aload_n hx hb dX6_isAlikeAt_48 rfl (lv_at hl 1 rfl) ?_
      obtain ⟨q31, h32, h⟩ := ob h
      refine xr_getR C0 W0 cl_X6 1 (by decide) fl_X6_20 rfl h32 dX6_isAlikeAt_49 ?_
      refine lv_iconst (v := 2) hx hb dX6_isAlikeAt_52 (by decide) ?_
      obtain ⟨q33, h34, h⟩ := ob h
      refine xr_aldq C0 W0 6 (by decide) rfl rfl h34 dX6_isAlikeAt_53 ?_
      refine lv_iload_n hx hb dX6_isAlikeAt_54 rfl (lv_at hl 2 rfl) ?_
      obtain ⟨v35, h36, h⟩ := ob h
      refine xr_iald C0 W0 h36 dX6_isAlikeAt_55 ?_
      refine lv_icmp_ne (tgt := 98) hx hb dX6_isAlikeAt_56 (by decide) (fun hcq => ?_) (fun hcq => ?_)
      · have h := it_f hcq h
        refine lv_iconst (v := 0) hx hb dX6_isAlikeAt_98 (by decide) ?_
        exact xr_zret C0 W0 hret (by decide) (Option.some.inj h) dX6_isAlikeAt_99
      · have h := it_t hcq h
        refine lv_aload_n hx hb dX6_isAlikeAt_59 rfl (lv_at hl 0 rfl) ?_
        obtain ⟨q37, h38, h⟩ := ob h
        refine xr_getR C0 W0 cl_X6 1 (by decide) fl_X6_20 rfl h38 dX6_isAlikeAt_60 ?_
        refine lv_iconst (v := 4) hx hb dX6_isAlikeAt_63 (by decide) ?_
        obtain ⟨q39, h40, h⟩ := ob h
        refine xr_aldq C0 W0 6 (by decide) rfl rfl h40 dX6_isAlikeAt_64 ?_
        refine lv_iload_n hx hb dX6_isAlikeAt_65 rfl (lv_at hl 2 rfl) ?_
        obtain ⟨v41, h42, h⟩ := ob h
        refine xr_iald C0 W0 h42 dX6_isAlikeAt_66 ?_
        refine lv_if_ne (tgt := 74) hx hb dX6_isAlikeAt_67 (by decide) (fun hcq => ?_) (fun hcq => ?_)
        · have h := it_f hcq h
          refine lv_iconst (v := 0) hx hb dX6_isAlikeAt_74 (by decide) ?_
          exact tX6_isAlikeAt_j75 C0 hret W0 (lv_sub hl [1, 2] rfl) h
        · have h := it_t hcq h
          refine lv_iconst (v := 1) hx hb dX6_isAlikeAt_70 (by decide) ?_
          refine lv_goto (tgt := 75) hx hb dX6_isAlikeAt_71 (by decide) ?_
          exact tX6_isAlikeAt_j75 C0 hret W0 (lv_sub hl [1, 2] rfl) h
def fX6_firstUnlike_l14_b (rec : Int32 → XW → Option (Int32 × XW)) (l0 : Nat) (l1 : Nat) (l2 : Int32) (l3 : Int32) (X : XW) : Option (Int32 × XW) :=
  if (l2 ≤ l3 : Prop) then (gI X l0 6 3 >>= fun v1 =>
    gI X l1 6 3 >>= fun v3 =>
    if (v1 = v3 : Prop) then (some ((-1), X))
    else (some (l2, X)))
  else (gK X l0 6 >>= fun u5 =>
    fX6_isAlikeAt l0 l1 l3 X >>= fun r7 =>
    if (r7.1 = 0 : Prop) then (some (l3, r7.2))
    else (rec (l3 + 1) r7.2))
def fX6_firstUnlike_l14 (l0 : Nat) (l1 : Nat) (l2 : Int32) (n : Nat) : Int32 → XW → Option (Int32 × XW) := iter (fun rec => fX6_firstUnlike_l14_b rec l0 l1 l2) (fun _ _ => none) n
def fX6_firstUnlike (l0 : Nat) (l1 : Nat) (X : XW) : Option (Int32 × XW) :=
  gI X l0 6 3 >>= fun v1 =>
  gI X l1 6 3 >>= fun v3 =>
  fX6_firstUnlike_l14 l0 l1 (iMn v1 v3) FU 0 X
theorem tX6_firstUnlike_l14_b {p : Program} {l : Launch} {e : Env} {s : State} {m : MethodId} {args : Array Value} {below : List Frame} {meth : Method} {c : Code} {G : XG} {X0 : XW} (C0 : XC p s m args meth c RX6 cX6_firstUnlike 4 G) (hret : meth.sig.returnType = (some .int)) {r : Int32 × XW} {l0 : Nat} {l1 : Nat} {l2 : Int32}  {rec : Int32 → XW → Option (Int32 × XW)} (hrec : ∀ {y3 : Int32} {X : XW} {H : Heap} {locs : List Loc} {ls : Array Slot}, XD G X0 X s H locs → lv_has ls 4 [(0, .ref l0), (1, .ref l1), (2, .int l2), (3, .int y3)] → rec y3 X = some r → W p l e { frames := 1, cells := 0, slots := 0, locals := 60 } s m args below meth c H locs 0 0 (MQ below (XQ G X0 (some (.int r.1), r.2)) args s 0 0 (xAd X0)) (F0 m 14 ls []))  {l3 : Int32} {X : XW} {H : Heap} {locs : List Loc} {ls : Array Slot} (W0 : XD G X0 X s H locs) (hl : lv_has ls 4 [(0, .ref l0), (1, .ref l1), (2, .int l2), (3, .int l3)]) (h : fX6_firstUnlike_l14_b rec l0 l1 l2 l3 X = some r) : W p l e { frames := 1, cells := 0, slots := 0, locals := 60 } s m args below meth c H locs 0 0 (MQ below (XQ G X0 (some (.int r.1), r.2)) args s 0 0 (xAd X0)) (F0 m 14 ls []) := by
  have hx := C0.1
  have hb := C0.2.1
  unfold fX6_firstUnlike_l14_b at h
  refine lv_iload_n hx hb dX6_firstUnlike_14 rfl (lv_at hl 3 rfl) ?_
  refine lv_iload_n hx hb dX6_firstUnlike_15 rfl (lv_at hl 2 rfl) ?_
  refine lv_icmp_ge (tgt := 36) hx hb dX6_firstUnlike_16 (by decide) (fun hcq => ?_) (fun hcq => ?_)
  · have h := it_t hcq h
    refine lv_aload_n hx hb dX6_firstUnlike_36 rfl (lv_at hl 0 rfl) ?_
    obtain ⟨v1, h2, h⟩ := ob h
    refine xr_getI C0 W0 cl_X6 3 (by decide) fl_X6_27 rfl h2 dX6_firstUnlike_37 ?_
    refine lv_aload_n hx hb dX6_firstUnlike_40 rfl (lv_at hl 1 rfl) ?_
    obtain ⟨v3, h4, h⟩ := ob h
    refine xr_getI C0 W0 cl_X6 3 (by decide) fl_X6_27 rfl h4 dX6_firstUnlike_41 ?_
    refine lv_icmp_ne (tgt := 51) hx hb dX6_firstUnlike_44 (by decide) (fun hcq => ?_) (fun hcq => ?_)
    · have h := it_f hcq h
      refine lv_iload_n hx hb dX6_firstUnlike_51 rfl (lv_at hl 2 rfl) ?_
      exact xr_iret C0 W0 hret (Option.some.inj h) dX6_firstUnlike_52
    · have h := it_t hcq h
      refine lv_iconst (v := (-1)) hx hb dX6_firstUnlike_47 (by decide) ?_
      refine lv_goto (tgt := 52) hx hb dX6_firstUnlike_48 (by decide) ?_
      exact xr_iret C0 W0 hret (Option.some.inj h) dX6_firstUnlike_52
  · have h := it_f hcq h
    refine lv_aload_n hx hb dX6_firstUnlike_19 rfl (lv_at hl 0 rfl) ?_
    refine lv_aload_n hx hb dX6_firstUnlike_20 rfl (lv_at hl 1 rfl) ?_
    refine lv_iload_n hx hb dX6_firstUnlike_21 rfl (lv_at hl 3 rfl) ?_
    obtain ⟨u5, h6, h⟩ := ob h
    obtain ⟨r7, h8, h⟩ := ob h
    refine xr_V (As := [.ref l1, .int l3]) (rest := []) C0 W0 (ctX6_isAlikeAt l G h8) (gK_of h6) (rr := (RX6, TX6, 5)) rfl rfl mc_X6_isAlikeAt mv_X6_isAlikeAt ml_X6_155 ⟨by decide, by decide⟩ rfl hl.1 rfl (Nat.le_of_ble_eq_true rfl) ⟨by decide, by decide⟩ dX6_firstUnlike_22 (fun H locs W0 => ?_)
    refine W.cs (cells' := 0) (slots' := 0) rfl rfl ?_
    refine W.eq (g2 := F0 m 25 ls [.int r7.1]) rfl ?_
    refine lv_if_ne (tgt := 30) hx hb dX6_firstUnlike_25 (by decide) (fun hcq => ?_) (fun hcq => ?_)
    · have h := it_f hcq h
      refine lv_iinc (v := (l3 + 1)) (lv' := [(3, .int (l3 + 1)), (0, .ref l0), (1, .ref l1), (2, .int l2)]) hx hb dX6_firstUnlike_30 hl (k := 3) rfl (ii (by decide)) (by decide) rfl (fun ls hl => ?_)
      refine lv_goto (tgt := 14) hx hb dX6_firstUnlike_33 (by decide) ?_
      exact hrec W0 (lv_sub hl [1, 2, 3, 0] rfl) h
    · have h := it_t hcq h
      refine lv_iload_n hx hb dX6_firstUnlike_28 rfl (lv_at hl 3 rfl) ?_
      exact xr_iret C0 W0 hret (Option.some.inj h) dX6_firstUnlike_29
theorem tX6_firstUnlike_l14 {p : Program} {l : Launch} {e : Env} {s : State} {m : MethodId} {args : Array Value} {below : List Frame} {meth : Method} {c : Code} {G : XG} {X0 : XW} (C0 : XC p s m args meth c RX6 cX6_firstUnlike 4 G) (hret : meth.sig.returnType = (some .int)) {r : Int32 × XW} {l0 : Nat} {l1 : Nat} {l2 : Int32}  : ∀ (n : Nat) {y3 : Int32} {X : XW} {H : Heap} {locs : List Loc} {ls : Array Slot}, XD G X0 X s H locs → lv_has ls 4 [(0, .ref l0), (1, .ref l1), (2, .int l2), (3, .int y3)] → fX6_firstUnlike_l14 l0 l1 l2 n y3 X = some r → W p l e { frames := 1, cells := 0, slots := 0, locals := 60 } s m args below meth c H locs 0 0 (MQ below (XQ G X0 (some (.int r.1), r.2)) args s 0 0 (xAd X0)) (F0 m 14 ls []) := by
  intro n
  induction n with
  | zero =>
    intro y3 X H locs ls W0 hl h
    cases h
  | succ n ih =>
    intro y3 X H locs ls W0 hl h
    exact tX6_firstUnlike_l14_b C0 hret (rec := fX6_firstUnlike_l14 l0 l1 l2 n) (fun W0 hl h => ih W0 hl h) W0 hl h
theorem ctX6_firstUnlike (l : Launch) (G : XG) {l0 : Nat} {l1 : Nat} {X : XW} {r : Int32 × XW}  (h : fX6_firstUnlike l0 l1 X = some r) : XM l G yX6_firstUnlike cX6_firstUnlike 4 (some .int) 1 60 0 0 [.ref l0, .ref l1] X (some (.int r.1), r.2) := by
  refine xm_of (own := RX6) (by decide) rfl (Nat.le_of_ble_eq_true rfl) ?_
  intro p e s m below meth c ls C0 W0 hret hnm hl
  have hx := C0.1
  have hb := C0.2.1
  have hl : lv_has ls 4 [(0, .ref l0), (1, .ref l1)] := hl
  unfold fX6_firstUnlike at h
  refine lv_aload_n hx hb dX6_firstUnlike_0 rfl (lv_at hl 0 rfl) ?_
  obtain ⟨v1, h2, h⟩ := ob h
  refine xr_getI C0 W0 cl_X6 3 (by decide) fl_X6_27 rfl h2 dX6_firstUnlike_1 ?_
  refine lv_aload_n hx hb dX6_firstUnlike_4 rfl (lv_at hl 1 rfl) ?_
  obtain ⟨v3, h4, h⟩ := ob h
  refine xr_getI C0 W0 cl_X6 3 (by decide) fl_X6_27 rfl h4 dX6_firstUnlike_5 ?_
  refine xr_mmin C0 hl.1 (xws_t 720 (by decide +kernel) rfl) (by decide) (Nat.le_of_ble_eq_true rfl) (Nat.le_of_ble_eq_true rfl) (Nat.le_of_ble_eq_true rfl) dX6_firstUnlike_8 ?_
  refine lv_istore_n (lv' := [(2, .int (iMn v1 v3)), (0, .ref l0), (1, .ref l1)]) hx hb dX6_firstUnlike_11 rfl hl (by decide) rfl (fun ls hl => ?_)
  refine lv_iconst (v := 0) hx hb dX6_firstUnlike_12 (by decide) ?_
  refine lv_istore_n (lv' := [(3, .int 0), (2, .int (iMn v1 v3)), (0, .ref l0), (1, .ref l1)]) hx hb dX6_firstUnlike_13 rfl hl (by decide) rfl (fun ls hl => ?_)
  exact tX6_firstUnlike_l14 C0 hret FU W0 (lv_sub hl [2, 3, 1, 0] rfl) h
def fX7_init (l0 : Nat) (X : XW) : Option (XW) :=
  nA X 0 1000 1000 >>= fun r1 =>
  pR r1.2 l0 7 0 r1.1 >>= fun X3 =>
  pI X3 l0 7 1 0 >>= fun X5 =>
  some X5
theorem ctX7_init (l : Launch) (G : XG) {l0 : Nat} {X : XW} {r : XW}  (h : fX7_init l0 X = some r) : XM l G yX7_init cX7_init 1 none 1 60 1 1000 [.ref l0] X (none, r) := by
  refine xm_of (own := RX7) (by decide) rfl (Nat.le_of_ble_eq_true rfl) ?_
  intro p e s m below meth c ls C0 W0 hret hin hl
  have hx := C0.1
  have hb := C0.2.1
  have hl : lv_has ls 1 [(0, .ref l0)] := hl
  unfold fX7_init at h
  refine lv_aload_n hx hb dX7_init_0 rfl (lv_at hl 0 rfl) ?_
  refine W.objInit hx hb C0.2.2.2.1 (C0.2.2.2.2.1 _ (xws_t 41 (by decide +kernel) rfl)) (C0.2.2.2.2.1 _ xoi1) (C0.2.2.2.2.1 _ xoi2) rfl (by rw [C0.2.2.1]; exact hl.1) rfl dX7_init_1 (by decide) (Nat.le_of_ble_eq_true rfl) ?_
  refine W.eq (g2 := F0 m 4 ls []) rfl ?_
  refine lv_aload_n hx hb dX7_init_4 rfl (lv_at hl 0 rfl) ?_
  refine lv_sipush (v := 1000) hx hb dX7_init_5 (by decide) ?_
  obtain ⟨r1, h2, h⟩ := ob h
  refine xr_newa (atype := .byte) C0 W0 0 1000 rfl (by decide) (by decide) rfl ka_byte (fun N => nw_byte) (by decide) h2 (by decide) (by decide) dX7_init_8 (fun H W0 => ?_)
  refine W.cs (cells' := 1) (slots' := 1000) rfl rfl ?_
  obtain ⟨X3, h4, h⟩ := ob h
  refine xr_putR C0 W0 cl_X7 0 (by decide) fl_X7_9 (Or.inr ⟨rfl, hin, rfl⟩) rfl ⟨rfl, rfl⟩ (by decide) h4 dX7_init_10 (fun H locs W0 => ?_)
  refine lv_aload_n hx hb dX7_init_13 rfl (lv_at hl 0 rfl) ?_
  refine lv_iconst (v := 0) hx hb dX7_init_14 (by decide) ?_
  obtain ⟨X5, h6, h⟩ := ob h
  refine xr_putI C0 W0 cl_X7 1 (by decide) fl_X7_15 rfl rfl rfl (by decide) h6 dX7_init_15 (fun H locs W0 => ?_)
  exact xr_vret C0 W0 hret (Option.some.inj h).symm dX7_init_18
def fX7_layBytes_j68 (rec : Int32 → XW → Option (XW)) (l0 : Nat) (l1 : Int64) (l3 : Int32) (X : XW) : Option (XW) :=
  rec (l3 + (-8)) X
def fX7_layBytes_j36 (rec : Int32 → XW → Option (XW)) (l0 : Nat) (l1 : Int64) (l3 : Int32) (l4 : Int32) (X : XW) : Option (XW) :=
  gI X l0 7 1 >>= fun v1 =>
  if (1000 ≤ v1 : Prop) then (fX7_layBytes_j68 rec l0 l1 l3 X)
  else (gR X l0 7 0 >>= fun q3 =>
    gI X l0 7 1 >>= fun v5 =>
    uB X q3 v5 ((l4).toInt8.toInt32) >>= fun X7 =>
    gI X7 l0 7 1 >>= fun v9 =>
    pI X7 l0 7 1 (v9 + 1) >>= fun X11 =>
    fX7_layBytes_j68 rec l0 l1 l3 X11)
def fX7_layBytes_l3_b (rec : Int32 → XW → Option (XW)) (l0 : Nat) (l1 : Int64) (l3 : Int32) (X : XW) : Option (XW) :=
  if (l3 < 0 : Prop) then (some (X))
  else (if (((((((l1).toUInt64 >>> ((l3).toInt64.toUInt64 &&& Int64.toUInt64 63)).toInt64)).toInt32) &&& 255) = 10 : Prop) then (fX7_layBytes_j36 rec l0 l1 l3 ((((((l1).toUInt64 >>> ((l3).toInt64.toUInt64 &&& Int64.toUInt64 63)).toInt64)).toInt32) &&& 255) X)
    else (fX9_isWithin ((((((l1).toUInt64 >>> ((l3).toInt64.toUInt64 &&& Int64.toUInt64 63)).toInt64)).toInt32) &&& 255) 32 126 X >>= fun r1 =>
      if (r1.1 = 0 : Prop) then (fX7_layBytes_j68 rec l0 l1 l3 r1.2)
      else (fX7_layBytes_j36 rec l0 l1 l3 ((((((l1).toUInt64 >>> ((l3).toInt64.toUInt64 &&& Int64.toUInt64 63)).toInt64)).toInt32) &&& 255) r1.2)))
def fX7_layBytes_l3 (l0 : Nat) (l1 : Int64) (n : Nat) : Int32 → XW → Option (XW) := iter (fun rec => fX7_layBytes_l3_b rec l0 l1) (fun _ _ => none) n
def fX7_layBytes (l0 : Nat) (l1 : Int64) (X : XW) : Option (XW) :=
  fX7_layBytes_l3 l0 l1 FU 56 X >>= fun r1 =>
  some r1
theorem tX7_layBytes_j68 {p : Program} {l : Launch} {e : Env} {s : State} {m : MethodId} {args : Array Value} {below : List Frame} {meth : Method} {c : Code} {G : XG} {X0 : XW} (C0 : XC p s m args meth c RX7 cX7_layBytes 5 G) (hret : meth.sig.returnType = none) {r : XW} {l0 : Nat} {l1 : Int64} {Q : State → Prop} {rec : Int32 → XW → Option (XW)} (hrec : ∀ {y3 : Int32} {X : XW} {H : Heap} {locs : List Loc} {ls : Array Slot}, XD G X0 X s H locs → lv_has ls 5 [(0, .ref l0), (1, .long l1), (3, .int y3)] → rec y3 X = some r → W p l e { frames := 1, cells := 0, slots := 0, locals := 60 } s m args below meth c H locs 0 0 Q (F0 m 3 ls [])) (hK : ∀ {H : Heap} {locs : List Loc} {ls : Array Slot}, XD G X0 r s H locs → lv_has ls 5 [] → W p l e { frames := 1, cells := 0, slots := 0, locals := 60 } s m args below meth c H locs 0 0 Q (F0 m 74 ls []))  {l3 : Int32} {X : XW} {H : Heap} {locs : List Loc} {ls : Array Slot} (W0 : XD G X0 X s H locs) (hl : lv_has ls 5 [(0, .ref l0), (1, .long l1), (3, .int l3)]) (h : fX7_layBytes_j68 rec l0 l1 l3 X = some r) : W p l e { frames := 1, cells := 0, slots := 0, locals := 60 } s m args below meth c H locs 0 0 Q (F0 m 68 ls []) := by
  have hx := C0.1
  have hb := C0.2.1
  unfold fX7_layBytes_j68 at h
  refine lv_iinc (v := (l3 + (-8))) (lv' := [(3, .int (l3 + (-8))), (0, .ref l0), (1, .long l1)]) hx hb dX7_layBytes_68 hl (k := 2) rfl (ii (by decide)) (by decide) rfl (fun ls hl => ?_)
  refine lv_goto (tgt := 3) hx hb dX7_layBytes_71 (by decide) ?_
  exact hrec W0 (lv_sub hl [1, 2, 0] rfl) h
theorem tX7_layBytes_j36 {p : Program} {l : Launch} {e : Env} {s : State} {m : MethodId} {args : Array Value} {below : List Frame} {meth : Method} {c : Code} {G : XG} {X0 : XW} (C0 : XC p s m args meth c RX7 cX7_layBytes 5 G) (hret : meth.sig.returnType = none) {r : XW} {l0 : Nat} {l1 : Int64} {Q : State → Prop} {rec : Int32 → XW → Option (XW)} (hrec : ∀ {y3 : Int32} {X : XW} {H : Heap} {locs : List Loc} {ls : Array Slot}, XD G X0 X s H locs → lv_has ls 5 [(0, .ref l0), (1, .long l1), (3, .int y3)] → rec y3 X = some r → W p l e { frames := 1, cells := 0, slots := 0, locals := 60 } s m args below meth c H locs 0 0 Q (F0 m 3 ls [])) (hK : ∀ {H : Heap} {locs : List Loc} {ls : Array Slot}, XD G X0 r s H locs → lv_has ls 5 [] → W p l e { frames := 1, cells := 0, slots := 0, locals := 60 } s m args below meth c H locs 0 0 Q (F0 m 74 ls []))  {l3 : Int32} {l4 : Int32} {X : XW} {H : Heap} {locs : List Loc} {ls : Array Slot} (W0 : XD G X0 X s H locs) (hl : lv_has ls 5 [(0, .ref l0), (1, .long l1), (3, .int l3), (4, .int l4)]) (h : fX7_layBytes_j36 rec l0 l1 l3 l4 X = some r) : W p l e { frames := 1, cells := 0, slots := 0, locals := 60 } s m args below meth c H locs 0 0 Q (F0 m 36 ls []) := by
  have hx := C0.1
  have hb := C0.2.1
  unfold fX7_layBytes_j36 at h
  refine lv_aload_n hx hb dX7_layBytes_36 rfl (lv_at hl 0 rfl) ?_
  obtain ⟨v1, h2, h⟩ := ob h
  refine xr_getI C0 W0 cl_X7 1 (by decide) fl_X7_15 rfl h2 dX7_layBytes_37 ?_
  refine lv_sipush (v := 1000) hx hb dX7_layBytes_40 (by decide) ?_
  refine lv_icmp_ge (tgt := 68) hx hb dX7_layBytes_43 (by decide) (fun hcq => ?_) (fun hcq => ?_)
  · have h := it_t hcq h
    exact tX7_layBytes_j68 C0 hret hrec hK W0 (lv_sub hl [0, 1, 2] rfl) h
  · have h := it_f hcq h
    refine lv_aload_n hx hb dX7_layBytes_46 rfl (lv_at hl 0 rfl) ?_
    obtain ⟨q3, h4, h⟩ := ob h
    refine xr_getR C0 W0 cl_X7 0 (by decide) fl_X7_9 rfl h4 dX7_layBytes_47 ?_
    refine lv_aload_n hx hb dX7_layBytes_50 rfl (lv_at hl 0 rfl) ?_
    obtain ⟨v5, h6, h⟩ := ob h
    refine xr_getI C0 W0 cl_X7 1 (by decide) fl_X7_15 rfl h6 dX7_layBytes_51 ?_
    refine lv_iload hx hb dX7_layBytes_54 (lv_at hl 3 rfl) ?_
    refine lv_i2b (v := ((l4).toInt8.toInt32)) hx hb dX7_layBytes_56 rfl ?_
    obtain ⟨X7, h8, h⟩ := ob h
    refine xr_bast C0 W0 h8 dX7_layBytes_57 (fun H locs W0 => ?_)
    refine lv_aload_n hx hb dX7_layBytes_58 rfl (lv_at hl 0 rfl) ?_
    refine lv_dup hx hb dX7_layBytes_59 rfl ?_
    obtain ⟨v9, h10, h⟩ := ob h
    refine xr_getI C0 W0 cl_X7 1 (by decide) fl_X7_15 rfl h10 dX7_layBytes_60 ?_
    refine lv_iconst (v := 1) hx hb dX7_layBytes_63 (by decide) ?_
    refine lv_iadd hx hb dX7_layBytes_64 ?_
    obtain ⟨X11, h12, h⟩ := ob h
    refine xr_putI C0 W0 cl_X7 1 (by decide) fl_X7_15 rfl rfl rfl (by decide) h12 dX7_layBytes_65 (fun H locs W0 => ?_)
    exact tX7_layBytes_j68 C0 hret hrec hK W0 (lv_sub hl [0, 1, 2] rfl) h
theorem tX7_layBytes_l3_b {p : Program} {l : Launch} {e : Env} {s : State} {m : MethodId} {args : Array Value} {below : List Frame} {meth : Method} {c : Code} {G : XG} {X0 : XW} (C0 : XC p s m args meth c RX7 cX7_layBytes 5 G) (hret : meth.sig.returnType = none) {r : XW} {l0 : Nat} {l1 : Int64} {Q : State → Prop} {rec : Int32 → XW → Option (XW)} (hrec : ∀ {y3 : Int32} {X : XW} {H : Heap} {locs : List Loc} {ls : Array Slot}, XD G X0 X s H locs → lv_has ls 5 [(0, .ref l0), (1, .long l1), (3, .int y3)] → rec y3 X = some r → W p l e { frames := 1, cells := 0, slots := 0, locals := 60 } s m args below meth c H locs 0 0 Q (F0 m 3 ls [])) (hK : ∀ {H : Heap} {locs : List Loc} {ls : Array Slot}, XD G X0 r s H locs → lv_has ls 5 [] → W p l e { frames := 1, cells := 0, slots := 0, locals := 60 } s m args below meth c H locs 0 0 Q (F0 m 74 ls []))  {l3 : Int32} {X : XW} {H : Heap} {locs : List Loc} {ls : Array Slot} (W0 : XD G X0 X s H locs) (hl : lv_has ls 5 [(0, .ref l0), (1, .long l1), (3, .int l3)]) (h : fX7_layBytes_l3_b rec l0 l1 l3 X = some r) : W p l e { frames := 1, cells := 0, slots := 0, locals := 60 } s m args below meth c H locs 0 0 Q (F0 m 3 ls []) := by
  have hx := C0.1
  have hb := C0.2.1
  unfold fX7_layBytes_l3_b at h
  refine lv_iload_n hx hb dX7_layBytes_3 rfl (lv_at hl 2 rfl) ?_
  refine lv_if_lt (tgt := 74) hx hb dX7_layBytes_4 (by decide) (fun hcq => ?_) (fun hcq => ?_)
  · have h := it_t hcq h
    cases h
    exact hK W0 (lv_sub hl [] rfl)
  · have h := it_f hcq h
    refine lv_lload_n hx hb dX7_layBytes_7 rfl (lv_at hl 1 rfl) ?_
    refine lv_iload_n hx hb dX7_layBytes_8 rfl (lv_at hl 2 rfl) ?_
    refine lv_lushr (v := (((l1).toUInt64 >>> ((l3).toInt64.toUInt64 &&& Int64.toUInt64 63)).toInt64)) hx hb dX7_layBytes_9 rfl ?_
    refine lv_l2i (v := (((((l1).toUInt64 >>> ((l3).toInt64.toUInt64 &&& Int64.toUInt64 63)).toInt64)).toInt32)) hx hb dX7_layBytes_10 rfl ?_
    refine lv_sipush (v := 255) hx hb dX7_layBytes_11 (by decide) ?_
    refine lv_iand hx hb dX7_layBytes_14 ?_
    refine lv_istore (lv' := [(4, .int ((((((l1).toUInt64 >>> ((l3).toInt64.toUInt64 &&& Int64.toUInt64 63)).toInt64)).toInt32) &&& 255)), (0, .ref l0), (1, .long l1), (3, .int l3)]) hx hb dX7_layBytes_15 hl (by decide) rfl (fun ls hl => ?_)
    refine lv_iload hx hb dX7_layBytes_17 (lv_at hl 0 rfl) ?_
    refine lv_bipush (v := 10) hx hb dX7_layBytes_19 (by decide) ?_
    refine lv_icmp_eq (tgt := 36) hx hb dX7_layBytes_21 (by decide) (fun hcq => ?_) (fun hcq => ?_)
    · have h := it_t hcq h
      exact tX7_layBytes_j36 C0 hret hrec hK W0 (lv_sub hl [1, 2, 3, 0] rfl) h
    · have h := it_f hcq h
      refine lv_iload hx hb dX7_layBytes_24 (lv_at hl 0 rfl) ?_
      refine lv_bipush (v := 32) hx hb dX7_layBytes_26 (by decide) ?_
      refine lv_bipush (v := 126) hx hb dX7_layBytes_28 (by decide) ?_
      obtain ⟨r1, h2, h⟩ := ob h
      refine xr_SN (As := [.int ((((((l1).toUInt64 >>> ((l3).toInt64.toUInt64 &&& Int64.toUInt64 63)).toInt64)).toInt32) &&& 255), .int 32, .int 126]) (rest := []) C0 W0 (ctX9_isWithin l G h2) mc_X9_isWithin ms_X9_isWithin (xnw_370 C0.2.2.2.2.2.1.2) ⟨by decide, by decide⟩ rfl hl.1 rfl (Nat.le_of_ble_eq_true rfl) ⟨by decide, by decide⟩ dX7_layBytes_30 (fun H locs W0 => ?_)
      refine W.cs (cells' := 0) (slots' := 0) rfl rfl ?_
      refine W.eq (g2 := F0 m 33 ls [.int r1.1]) rfl ?_
      refine lv_if_eq (tgt := 68) hx hb dX7_layBytes_33 (by decide) (fun hcq => ?_) (fun hcq => ?_)
      · have h := it_t hcq h
        exact tX7_layBytes_j68 C0 hret hrec hK W0 (lv_sub hl [1, 2, 3] rfl) h
      · have h := it_f hcq h
        exact tX7_layBytes_j36 C0 hret hrec hK W0 (lv_sub hl [1, 2, 3, 0] rfl) h
theorem tX7_layBytes_l3 {p : Program} {l : Launch} {e : Env} {s : State} {m : MethodId} {args : Array Value} {below : List Frame} {meth : Method} {c : Code} {G : XG} {X0 : XW} (C0 : XC p s m args meth c RX7 cX7_layBytes 5 G) (hret : meth.sig.returnType = none) {r : XW} {l0 : Nat} {l1 : Int64} {Q : State → Prop} (hK : ∀ {H : Heap} {locs : List Loc} {ls : Array Slot}, XD G X0 r s H locs → lv_has ls 5 [] → W p l e { frames := 1, cells := 0, slots := 0, locals := 60 } s m args below meth c H locs 0 0 Q (F0 m 74 ls [])) : ∀ (n : Nat) {y3 : Int32} {X : XW} {H : Heap} {locs : List Loc} {ls : Array Slot}, XD G X0 X s H locs → lv_has ls 5 [(0, .ref l0), (1, .long l1), (3, .int y3)] → fX7_layBytes_l3 l0 l1 n y3 X = some r → W p l e { frames := 1, cells := 0, slots := 0, locals := 60 } s m args below meth c H locs 0 0 Q (F0 m 3 ls []) := by
  intro n
  induction n with
  | zero =>
    intro y3 X H locs ls W0 hl h
    cases h
  | succ n ih =>
    intro y3 X H locs ls W0 hl h
    exact tX7_layBytes_l3_b C0 hret (rec := fX7_layBytes_l3 l0 l1 n) (fun W0 hl h => ih W0 hl h) hK W0 hl h
theorem ctX7_layBytes (l : Launch) (G : XG) {l0 : Nat} {l1 : Int64} {X : XW} {r : XW}  (h : fX7_layBytes l0 l1 X = some r) : XM l G yX7_layBytes cX7_layBytes 5 none 1 60 0 0 [.ref l0, .long l1] X (none, r) := by
  refine xm_of (own := RX7) (by decide) rfl (Nat.le_of_ble_eq_true rfl) ?_
  intro p e s m below meth c ls C0 W0 hret hnm hl
  have hx := C0.1
  have hb := C0.2.1
  have hl : lv_has ls 5 [(0, .ref l0), (1, .long l1)] := hl
  unfold fX7_layBytes at h
  refine lv_bipush (v := 56) hx hb dX7_layBytes_0 (by decide) ?_
  refine lv_istore_n (lv' := [(3, .int 56), (0, .ref l0), (1, .long l1)]) hx hb dX7_layBytes_2 rfl hl (by decide) rfl (fun ls hl => ?_)
  obtain ⟨r1, h2, h⟩ := ob h
  refine tX7_layBytes_l3 C0 hret (fun {H} {locs} {ls} W0 hl => ?_) FU W0 (lv_sub hl [1, 2, 0] rfl) h2
  exact xr_vret C0 W0 hret (Option.some.inj h).symm dX7_layBytes_74
def fX9_init (l0 : Nat) (X : XW) : Option (XW) :=
  pR (nQ X 5 4).2 l0 9 0 ((nQ X 5 4).1) >>= fun X1 =>
  pI X1 l0 9 1 1 >>= fun X3 =>
  pI X3 l0 9 2 0 >>= fun X5 =>
  pR (nQ X5 4 4).2 l0 9 3 ((nQ X5 4 4).1) >>= fun X7 =>
  pI X7 l0 9 4 0 >>= fun X9 =>
  pI X9 l0 9 5 6 >>= fun X11 =>
  pI X11 l0 9 6 1 >>= fun X13 =>
  pI X13 l0 9 7 1 >>= fun X15 =>
  fX7_init ((nO X15 7).1) (nO X15 7).2 >>= fun X17 =>
  pR X17 l0 9 8 ((nO X15 7).1) >>= fun X19 =>
  fX0_init ((nO X19 0).1) (nO X19 0).2 >>= fun X21 =>
  pR X21 l0 9 9 ((nO X19 0).1) >>= fun X23 =>
  fX6_init ((nO X23 6).1) (nO X23 6).2 >>= fun X25 =>
  pR X25 l0 9 10 ((nO X23 6).1) >>= fun X27 =>
  fX6_init ((nO X27 6).1) (nO X27 6).2 >>= fun X29 =>
  pR X29 l0 9 11 ((nO X27 6).1) >>= fun X31 =>
  gR X31 l0 9 0 >>= fun q33 =>
  fX4_init ((nO X31 4).1) (nO X31 4).2 >>= fun X35 =>
  uQ X35 q33 5 4 0 ((nO X31 4).1) >>= fun X37 =>
  gR X37 l0 9 0 >>= fun q39 =>
  fX4_init ((nO X37 4).1) (nO X37 4).2 >>= fun X41 =>
  uQ X41 q39 5 4 1 ((nO X37 4).1) >>= fun X43 =>
  gR X43 l0 9 0 >>= fun q45 =>
  fX4_init ((nO X43 4).1) (nO X43 4).2 >>= fun X47 =>
  uQ X47 q45 5 4 2 ((nO X43 4).1) >>= fun X49 =>
  gR X49 l0 9 0 >>= fun q51 =>
  fX4_init ((nO X49 4).1) (nO X49 4).2 >>= fun X53 =>
  uQ X53 q51 5 4 3 ((nO X49 4).1) >>= fun X55 =>
  gR X55 l0 9 3 >>= fun q57 =>
  fX2_init ((nO X55 2).1) (nO X55 2).2 >>= fun X59 =>
  uQ X59 q57 4 2 0 ((nO X55 2).1) >>= fun X61 =>
  gR X61 l0 9 3 >>= fun q63 =>
  fX2_init ((nO X61 2).1) (nO X61 2).2 >>= fun X65 =>
  uQ X65 q63 4 2 1 ((nO X61 2).1) >>= fun X67 =>
  gR X67 l0 9 3 >>= fun q69 =>
  fX2_init ((nO X67 2).1) (nO X67 2).2 >>= fun X71 =>
  uQ X71 q69 4 2 2 ((nO X67 2).1) >>= fun X73 =>
  gR X73 l0 9 3 >>= fun q75 =>
  fX2_init ((nO X73 2).1) (nO X73 2).2 >>= fun X77 =>
  uQ X77 q75 4 2 3 ((nO X73 2).1) >>= fun X79 =>
  some X79
theorem ctX9_init (l : Launch) (G : XG) {l0 : Nat} {X : XW} {r : XW}  (h : fX9_init l0 X = some r) : XM l G yX9_init cX9_init 2 none 3 180 126 9404 [.ref l0] X (none, r) := by
  refine xm_of (own := RX9) (by decide) rfl (Nat.le_of_ble_eq_true rfl) ?_
  intro p e s m below meth c ls C0 W0 hret hin hl
  have hx := C0.1
  have hb := C0.2.1
  have hl : lv_has ls 2 [(0, .ref l0)] := hl
  unfold fX9_init at h
  refine lv_aload_n hx hb dX9_init_0 rfl (lv_at hl 0 rfl) ?_
  refine W.objInit hx hb C0.2.2.2.1 (C0.2.2.2.2.1 _ (xws_t 29 (by decide +kernel) rfl)) (C0.2.2.2.2.1 _ xoi1) (C0.2.2.2.2.1 _ xoi2) rfl (by rw [C0.2.2.1]; exact hl.1) rfl dX9_init_1 (by decide) (Nat.le_of_ble_eq_true rfl) ?_
  refine W.eq (g2 := F0 m 4 ls []) rfl ?_
  refine lv_aload_n hx hb dX9_init_4 rfl (lv_at hl 0 rfl) ?_
  refine lv_iconst (v := 4) hx hb dX9_init_5 (by decide) ?_
  refine xr_anew C0 W0 5 4 (by decide) rfl (xnw_aoR C0.2.2.2.2.2.1.2) kl_X9_9 rfl (by decide) (by decide) (by decide) dX9_init_6 (fun H W0 => ?_)
  refine W.cs (cells' := 1) (slots' := 4) rfl rfl ?_
  obtain ⟨X1, h2, h⟩ := ob h
  refine xr_putR C0 W0 cl_X9 0 (by decide) fl_X9_11 (Or.inr ⟨rfl, hin, rfl⟩) rfl ⟨rfl, rfl⟩ (by decide) h2 dX9_init_9 (fun H locs W0 => ?_)
  refine lv_aload_n hx hb dX9_init_12 rfl (lv_at hl 0 rfl) ?_
  refine lv_iconst (v := 1) hx hb dX9_init_13 (by decide) ?_
  obtain ⟨X3, h4, h⟩ := ob h
  refine xr_putI C0 W0 cl_X9 1 (by decide) fl_X9_15 rfl rfl rfl (by decide) h4 dX9_init_14 (fun H locs W0 => ?_)
  refine lv_aload_n hx hb dX9_init_17 rfl (lv_at hl 0 rfl) ?_
  refine lv_iconst (v := 0) hx hb dX9_init_18 (by decide) ?_
  obtain ⟨X5, h6, h⟩ := ob h
  refine xr_putI C0 W0 cl_X9 2 (by decide) fl_X9_19 rfl rfl rfl (by decide) h6 dX9_init_19 (fun H locs W0 => ?_)
  refine lv_aload_n hx hb dX9_init_22 rfl (lv_at hl 0 rfl) ?_
  refine lv_iconst (v := 4) hx hb dX9_init_23 (by decide) ?_
  refine xr_anew C0 W0 4 4 (by decide) rfl (xnw_aoM C0.2.2.2.2.2.1.2) kl_X9_22 rfl (by decide) (by decide) (by decide) dX9_init_24 (fun H W0 => ?_)
  refine W.cs (cells' := 2) (slots' := 8) rfl rfl ?_
  obtain ⟨X7, h8, h⟩ := ob h
  refine xr_putR C0 W0 cl_X9 3 (by decide) fl_X9_24 (Or.inr ⟨rfl, hin, rfl⟩) rfl ⟨rfl, rfl⟩ (by decide) h8 dX9_init_27 (fun H locs W0 => ?_)
  refine lv_aload_n hx hb dX9_init_30 rfl (lv_at hl 0 rfl) ?_
  refine lv_iconst (v := 0) hx hb dX9_init_31 (by decide) ?_
  obtain ⟨X9, h10, h⟩ := ob h
  refine xr_putI C0 W0 cl_X9 4 (by decide) fl_X9_28 rfl rfl rfl (by decide) h10 dX9_init_32 (fun H locs W0 => ?_)
  refine lv_aload_n hx hb dX9_init_35 rfl (lv_at hl 0 rfl) ?_
  refine lv_bipush (v := 6) hx hb dX9_init_36 (by decide) ?_
  obtain ⟨X11, h12, h⟩ := ob h
  refine xr_putI C0 W0 cl_X9 5 (by decide) fl_X9_31 rfl rfl rfl (by decide) h12 dX9_init_38 (fun H locs W0 => ?_)
  refine lv_aload_n hx hb dX9_init_41 rfl (lv_at hl 0 rfl) ?_
  refine lv_iconst (v := 1) hx hb dX9_init_42 (by decide) ?_
  obtain ⟨X13, h14, h⟩ := ob h
  refine xr_putI C0 W0 cl_X9 6 (by decide) fl_X9_34 rfl rfl rfl (by decide) h14 dX9_init_43 (fun H locs W0 => ?_)
  refine lv_aload_n hx hb dX9_init_46 rfl (lv_at hl 0 rfl) ?_
  refine lv_iconst (v := 1) hx hb dX9_init_47 (by decide) ?_
  obtain ⟨X15, h16, h⟩ := ob h
  refine xr_putI C0 W0 cl_X9 7 (by decide) fl_X9_37 rfl rfl rfl (by decide) h16 dX9_init_48 (fun H locs W0 => ?_)
  refine lv_aload_n hx hb dX9_init_51 rfl (lv_at hl 0 rfl) ?_
  refine xr_new C0 W0 cl_X7 (by decide) dv_X7 kl_X9_40 kn_X7.1 kn_X7.2 (by decide) (by decide) dX9_init_52 (fun H W0 => ?_)
  refine W.cs (cells' := 3) (slots' := 10) rfl rfl ?_
  refine lv_dup hx hb dX9_init_55 rfl ?_
  obtain ⟨X17, h18, h⟩ := ob h
  refine xr_IN (As := []) (rest := [.ref ((nO X15 7).1), .ref l0]) C0 W0 (ctX7_init l G h18) mc_X7_init mi_X7_init (xnw_38 C0.2.2.2.2.2.1.2) ⟨by decide, by decide⟩ rfl hl.1 rfl (Nat.le_of_ble_eq_true rfl) ⟨by decide, by decide⟩ dX9_init_56 (fun H locs W0 => ?_)
  refine W.cs (cells' := 4) (slots' := 1010) rfl rfl ?_
  refine W.eq (g2 := F0 m 59 ls [.ref ((nO X15 7).1), .ref l0]) rfl ?_
  obtain ⟨X19, h20, h⟩ := ob h
  refine xr_putR C0 W0 cl_X9 8 (by decide) fl_X9_43 (Or.inr ⟨rfl, hin, rfl⟩) rfl ⟨rfl, rfl⟩ (by decide) h20 dX9_init_59 (fun H locs W0 => ?_)
  refine lv_aload_n hx hb dX9_init_62 rfl (lv_at hl 0 rfl) ?_
  refine xr_new C0 W0 cl_X0 (by decide) dv_X0 kl_X9_47 kn_X0.1 kn_X0.2 (by decide) (by decide) dX9_init_63 (fun H W0 => ?_)
  refine W.cs (cells' := 5) (slots' := 1012) rfl rfl ?_
  refine lv_dup hx hb dX9_init_66 rfl ?_
  obtain ⟨X21, h22, h⟩ := ob h
  refine xr_IN (As := []) (rest := [.ref ((nO X19 0).1), .ref l0]) C0 W0 (ctX0_init l G h22) mc_X0_init mi_X0_init (xnw_55 C0.2.2.2.2.2.1.2) ⟨by decide, by decide⟩ rfl hl.1 rfl (Nat.le_of_ble_eq_true rfl) ⟨by decide, by decide⟩ dX9_init_67 (fun H locs W0 => ?_)
  refine W.cs (cells' := 6) (slots' := 1028) rfl rfl ?_
  refine W.eq (g2 := F0 m 70 ls [.ref ((nO X19 0).1), .ref l0]) rfl ?_
  obtain ⟨X23, h24, h⟩ := ob h
  refine xr_putR C0 W0 cl_X9 9 (by decide) fl_X9_50 (Or.inr ⟨rfl, hin, rfl⟩) rfl ⟨rfl, rfl⟩ (by decide) h24 dX9_init_70 (fun H locs W0 => ?_)
  refine lv_aload_n hx hb dX9_init_73 rfl (lv_at hl 0 rfl) ?_
  refine xr_new C0 W0 cl_X6 (by decide) dv_X6 kl_X9_54 kn_X6.1 kn_X6.2 (by decide) (by decide) dX9_init_74 (fun H W0 => ?_)
  refine W.cs (cells' := 7) (slots' := 1033) rfl rfl ?_
  refine lv_dup hx hb dX9_init_77 rfl ?_
  obtain ⟨X25, h26, h⟩ := ob h
  refine xr_IN (As := []) (rest := [.ref ((nO X23 6).1), .ref l0]) C0 W0 (ctX6_init l G h26) mc_X6_init mi_X6_init (xnw_69 C0.2.2.2.2.2.1.2) ⟨by decide, by decide⟩ rfl hl.1 rfl (Nat.le_of_ble_eq_true rfl) ⟨by decide, by decide⟩ dX9_init_78 (fun H locs W0 => ?_)
  refine W.cs (cells' := 30) (slots' := 2288) rfl rfl ?_
  refine W.eq (g2 := F0 m 81 ls [.ref ((nO X23 6).1), .ref l0]) rfl ?_
  obtain ⟨X27, h28, h⟩ := ob h
  refine xr_putR C0 W0 cl_X9 10 (by decide) fl_X9_57 (Or.inr ⟨rfl, hin, rfl⟩) rfl ⟨rfl, rfl⟩ (by decide) h28 dX9_init_81 (fun H locs W0 => ?_)
  refine lv_aload_n hx hb dX9_init_84 rfl (lv_at hl 0 rfl) ?_
  refine xr_new C0 W0 cl_X6 (by decide) dv_X6 kl_X9_54 kn_X6.1 kn_X6.2 (by decide) (by decide) dX9_init_85 (fun H W0 => ?_)
  refine W.cs (cells' := 31) (slots' := 2293) rfl rfl ?_
  refine lv_dup hx hb dX9_init_88 rfl ?_
  obtain ⟨X29, h30, h⟩ := ob h
  refine xr_IN (As := []) (rest := [.ref ((nO X27 6).1), .ref l0]) C0 W0 (ctX6_init l G h30) mc_X6_init mi_X6_init (xnw_69 C0.2.2.2.2.2.1.2) ⟨by decide, by decide⟩ rfl hl.1 rfl (Nat.le_of_ble_eq_true rfl) ⟨by decide, by decide⟩ dX9_init_89 (fun H locs W0 => ?_)
  refine W.cs (cells' := 54) (slots' := 3548) rfl rfl ?_
  refine W.eq (g2 := F0 m 92 ls [.ref ((nO X27 6).1), .ref l0]) rfl ?_
  obtain ⟨X31, h32, h⟩ := ob h
  refine xr_putR C0 W0 cl_X9 11 (by decide) fl_X9_61 (Or.inr ⟨rfl, hin, rfl⟩) rfl ⟨rfl, rfl⟩ (by decide) h32 dX9_init_92 (fun H locs W0 => ?_)
  refine lv_iconst (v := 0) hx hb dX9_init_95 (by decide) ?_
  refine lv_istore_n (lv' := [(1, .int 0), (0, .ref l0)]) hx hb dX9_init_96 rfl hl (by decide) rfl (fun ls hl => ?_)
  refine lv_iload_n hx hb dX9_init_97 rfl (lv_at hl 0 rfl) ?_
  refine lv_iconst (v := 4) hx hb dX9_init_98 (by decide) ?_
  refine lv_icmp_ge (tgt := 121) hx hb dX9_init_99 (by decide) (fun hcq => absurd hcq (by decide)) (fun hcq => ?_)
  refine lv_aload_n hx hb dX9_init_102 rfl (lv_at hl 1 rfl) ?_
  obtain ⟨q33, h34, h⟩ := ob h
  refine xr_getR C0 W0 cl_X9 0 (by decide) fl_X9_11 rfl h34 dX9_init_103 ?_
  refine lv_iload_n hx hb dX9_init_106 rfl (lv_at hl 0 rfl) ?_
  refine xr_new C0 W0 cl_X4 (by decide) dv_X4 kl_X9_9 kn_X4.1 kn_X4.2 (by decide) (by decide) dX9_init_107 (fun H W0 => ?_)
  refine W.cs (cells' := 55) (slots' := 3557) rfl rfl ?_
  refine lv_dup hx hb dX9_init_110 rfl ?_
  obtain ⟨X35, h36, h⟩ := ob h
  refine xr_I (As := []) (rest := [.ref ((nO X31 4).1), .int 0, .ref q33]) C0 W0 (ctX4_init l G h36) mc_X4_init mi_X4_init ml_X9_64 ⟨by decide, by decide⟩ rfl hl.1 rfl (Nat.le_of_ble_eq_true rfl) ⟨by decide, by decide⟩ dX9_init_111 (fun H locs W0 => ?_)
  refine W.cs (cells' := 64) (slots' := 3880) rfl rfl ?_
  refine W.eq (g2 := F0 m 114 ls [.ref ((nO X31 4).1), .int 0, .ref q33]) rfl ?_
  obtain ⟨X37, h38, h⟩ := ob h
  refine xr_astq C0 W0 5 4 (by decide) (r := (RX4, TX4, 9)) rfl rfl h38 dX9_init_114 (fun H locs W0 => ?_)
  refine lv_iinc (v := 1) (lv' := [(1, .int 1), (0, .ref l0)]) hx hb dX9_init_115 hl (k := 0) rfl (by decide) (by decide) rfl (fun ls hl => ?_)
  refine lv_goto (tgt := 97) hx hb dX9_init_118 (by decide) ?_
  refine lv_iload_n hx hb dX9_init_97 rfl (lv_at hl 0 rfl) ?_
  refine lv_iconst (v := 4) hx hb dX9_init_98 (by decide) ?_
  refine lv_icmp_ge (tgt := 121) hx hb dX9_init_99 (by decide) (fun hcq => absurd hcq (by decide)) (fun hcq => ?_)
  refine lv_aload_n hx hb dX9_init_102 rfl (lv_at hl 1 rfl) ?_
  obtain ⟨q39, h40, h⟩ := ob h
  refine xr_getR C0 W0 cl_X9 0 (by decide) fl_X9_11 rfl h40 dX9_init_103 ?_
  refine lv_iload_n hx hb dX9_init_106 rfl (lv_at hl 0 rfl) ?_
  refine xr_new C0 W0 cl_X4 (by decide) dv_X4 kl_X9_9 kn_X4.1 kn_X4.2 (by decide) (by decide) dX9_init_107 (fun H W0 => ?_)
  refine W.cs (cells' := 65) (slots' := 3889) rfl rfl ?_
  refine lv_dup hx hb dX9_init_110 rfl ?_
  obtain ⟨X41, h42, h⟩ := ob h
  refine xr_I (As := []) (rest := [.ref ((nO X37 4).1), .int 1, .ref q39]) C0 W0 (ctX4_init l G h42) mc_X4_init mi_X4_init ml_X9_64 ⟨by decide, by decide⟩ rfl hl.1 rfl (Nat.le_of_ble_eq_true rfl) ⟨by decide, by decide⟩ dX9_init_111 (fun H locs W0 => ?_)
  refine W.cs (cells' := 74) (slots' := 4212) rfl rfl ?_
  refine W.eq (g2 := F0 m 114 ls [.ref ((nO X37 4).1), .int 1, .ref q39]) rfl ?_
  obtain ⟨X43, h44, h⟩ := ob h
  refine xr_astq C0 W0 5 4 (by decide) (r := (RX4, TX4, 9)) rfl rfl h44 dX9_init_114 (fun H locs W0 => ?_)
  refine lv_iinc (v := 2) (lv' := [(1, .int 2), (0, .ref l0)]) hx hb dX9_init_115 hl (k := 0) rfl (by decide) (by decide) rfl (fun ls hl => ?_)
  refine lv_goto (tgt := 97) hx hb dX9_init_118 (by decide) ?_
  refine lv_iload_n hx hb dX9_init_97 rfl (lv_at hl 0 rfl) ?_
  refine lv_iconst (v := 4) hx hb dX9_init_98 (by decide) ?_
  refine lv_icmp_ge (tgt := 121) hx hb dX9_init_99 (by decide) (fun hcq => absurd hcq (by decide)) (fun hcq => ?_)
  refine lv_aload_n hx hb dX9_init_102 rfl (lv_at hl 1 rfl) ?_
  obtain ⟨q45, h46, h⟩ := ob h
  refine xr_getR C0 W0 cl_X9 0 (by decide) fl_X9_11 rfl h46 dX9_init_103 ?_
  refine lv_iload_n hx hb dX9_init_106 rfl (lv_at hl 0 rfl) ?_
  refine xr_new C0 W0 cl_X4 (by decide) dv_X4 kl_X9_9 kn_X4.1 kn_X4.2 (by decide) (by decide) dX9_init_107 (fun H W0 => ?_)
  refine W.cs (cells' := 75) (slots' := 4221) rfl rfl ?_
  refine lv_dup hx hb dX9_init_110 rfl ?_
  obtain ⟨X47, h48, h⟩ := ob h
  refine xr_I (As := []) (rest := [.ref ((nO X43 4).1), .int 2, .ref q45]) C0 W0 (ctX4_init l G h48) mc_X4_init mi_X4_init ml_X9_64 ⟨by decide, by decide⟩ rfl hl.1 rfl (Nat.le_of_ble_eq_true rfl) ⟨by decide, by decide⟩ dX9_init_111 (fun H locs W0 => ?_)
  refine W.cs (cells' := 84) (slots' := 4544) rfl rfl ?_
  refine W.eq (g2 := F0 m 114 ls [.ref ((nO X43 4).1), .int 2, .ref q45]) rfl ?_
  obtain ⟨X49, h50, h⟩ := ob h
  refine xr_astq C0 W0 5 4 (by decide) (r := (RX4, TX4, 9)) rfl rfl h50 dX9_init_114 (fun H locs W0 => ?_)
  refine lv_iinc (v := 3) (lv' := [(1, .int 3), (0, .ref l0)]) hx hb dX9_init_115 hl (k := 0) rfl (by decide) (by decide) rfl (fun ls hl => ?_)
  refine lv_goto (tgt := 97) hx hb dX9_init_118 (by decide) ?_
  refine lv_iload_n hx hb dX9_init_97 rfl (lv_at hl 0 rfl) ?_
  refine lv_iconst (v := 4) hx hb dX9_init_98 (by decide) ?_
  refine lv_icmp_ge (tgt := 121) hx hb dX9_init_99 (by decide) (fun hcq => absurd hcq (by decide)) (fun hcq => ?_)
  refine lv_aload_n hx hb dX9_init_102 rfl (lv_at hl 1 rfl) ?_
  obtain ⟨q51, h52, h⟩ := ob h
  refine xr_getR C0 W0 cl_X9 0 (by decide) fl_X9_11 rfl h52 dX9_init_103 ?_
  refine lv_iload_n hx hb dX9_init_106 rfl (lv_at hl 0 rfl) ?_
  refine xr_new C0 W0 cl_X4 (by decide) dv_X4 kl_X9_9 kn_X4.1 kn_X4.2 (by decide) (by decide) dX9_init_107 (fun H W0 => ?_)
  refine W.cs (cells' := 85) (slots' := 4553) rfl rfl ?_
  refine lv_dup hx hb dX9_init_110 rfl ?_
  obtain ⟨X53, h54, h⟩ := ob h
  refine xr_I (As := []) (rest := [.ref ((nO X49 4).1), .int 3, .ref q51]) C0 W0 (ctX4_init l G h54) mc_X4_init mi_X4_init ml_X9_64 ⟨by decide, by decide⟩ rfl hl.1 rfl (Nat.le_of_ble_eq_true rfl) ⟨by decide, by decide⟩ dX9_init_111 (fun H locs W0 => ?_)
  refine W.cs (cells' := 94) (slots' := 4876) rfl rfl ?_
  refine W.eq (g2 := F0 m 114 ls [.ref ((nO X49 4).1), .int 3, .ref q51]) rfl ?_
  obtain ⟨X55, h56, h⟩ := ob h
  refine xr_astq C0 W0 5 4 (by decide) (r := (RX4, TX4, 9)) rfl rfl h56 dX9_init_114 (fun H locs W0 => ?_)
  refine lv_iinc (v := 4) (lv' := [(1, .int 4), (0, .ref l0)]) hx hb dX9_init_115 hl (k := 0) rfl (by decide) (by decide) rfl (fun ls hl => ?_)
  refine lv_goto (tgt := 97) hx hb dX9_init_118 (by decide) ?_
  refine lv_iload_n hx hb dX9_init_97 rfl (lv_at hl 0 rfl) ?_
  refine lv_iconst (v := 4) hx hb dX9_init_98 (by decide) ?_
  refine lv_icmp_ge (tgt := 121) hx hb dX9_init_99 (by decide) (fun hcq => ?_) (fun hcq => absurd hcq (by decide))
  refine lv_iconst (v := 0) hx hb dX9_init_121 (by decide) ?_
  refine lv_istore_n (lv' := [(1, .int 0), (0, .ref l0)]) hx hb dX9_init_122 rfl hl (by decide) rfl (fun ls hl => ?_)
  refine lv_iload_n hx hb dX9_init_123 rfl (lv_at hl 0 rfl) ?_
  refine lv_iconst (v := 4) hx hb dX9_init_124 (by decide) ?_
  refine lv_icmp_ge (tgt := 147) hx hb dX9_init_125 (by decide) (fun hcq => absurd hcq (by decide)) (fun hcq => ?_)
  refine lv_aload_n hx hb dX9_init_128 rfl (lv_at hl 1 rfl) ?_
  obtain ⟨q57, h58, h⟩ := ob h
  refine xr_getR C0 W0 cl_X9 3 (by decide) fl_X9_24 rfl h58 dX9_init_129 ?_
  refine lv_iload_n hx hb dX9_init_132 rfl (lv_at hl 0 rfl) ?_
  refine xr_new C0 W0 cl_X2 (by decide) dv_X2 kl_X9_22 kn_X2.1 kn_X2.2 (by decide) (by decide) dX9_init_133 (fun H W0 => ?_)
  refine W.cs (cells' := 95) (slots' := 4880) rfl rfl ?_
  refine lv_dup hx hb dX9_init_136 rfl ?_
  obtain ⟨X59, h60, h⟩ := ob h
  refine xr_IN (As := []) (rest := [.ref ((nO X55 2).1), .int 0, .ref q57]) C0 W0 (ctX2_init l G h60) mc_X2_init mi_X2_init (xnw_197 C0.2.2.2.2.2.1.2) ⟨by decide, by decide⟩ rfl hl.1 rfl (Nat.le_of_ble_eq_true rfl) ⟨by decide, by decide⟩ dX9_init_137 (fun H locs W0 => ?_)
  refine W.cs (cells' := 102) (slots' := 6008) rfl rfl ?_
  refine W.eq (g2 := F0 m 140 ls [.ref ((nO X55 2).1), .int 0, .ref q57]) rfl ?_
  obtain ⟨X61, h62, h⟩ := ob h
  refine xr_astq C0 W0 4 2 (by decide) (r := (RX2, TX2, 4)) rfl rfl h62 dX9_init_140 (fun H locs W0 => ?_)
  refine lv_iinc (v := 1) (lv' := [(1, .int 1), (0, .ref l0)]) hx hb dX9_init_141 hl (k := 0) rfl (by decide) (by decide) rfl (fun ls hl => ?_)
  refine lv_goto (tgt := 123) hx hb dX9_init_144 (by decide) ?_
  refine lv_iload_n hx hb dX9_init_123 rfl (lv_at hl 0 rfl) ?_
  refine lv_iconst (v := 4) hx hb dX9_init_124 (by decide) ?_
  refine lv_icmp_ge (tgt := 147) hx hb dX9_init_125 (by decide) (fun hcq => absurd hcq (by decide)) (fun hcq => ?_)
  refine lv_aload_n hx hb dX9_init_128 rfl (lv_at hl 1 rfl) ?_
  obtain ⟨q63, h64, h⟩ := ob h
  refine xr_getR C0 W0 cl_X9 3 (by decide) fl_X9_24 rfl h64 dX9_init_129 ?_
  refine lv_iload_n hx hb dX9_init_132 rfl (lv_at hl 0 rfl) ?_
  refine xr_new C0 W0 cl_X2 (by decide) dv_X2 kl_X9_22 kn_X2.1 kn_X2.2 (by decide) (by decide) dX9_init_133 (fun H W0 => ?_)
  refine W.cs (cells' := 103) (slots' := 6012) rfl rfl ?_
  refine lv_dup hx hb dX9_init_136 rfl ?_
  obtain ⟨X65, h66, h⟩ := ob h
  refine xr_IN (As := []) (rest := [.ref ((nO X61 2).1), .int 1, .ref q63]) C0 W0 (ctX2_init l G h66) mc_X2_init mi_X2_init (xnw_197 C0.2.2.2.2.2.1.2) ⟨by decide, by decide⟩ rfl hl.1 rfl (Nat.le_of_ble_eq_true rfl) ⟨by decide, by decide⟩ dX9_init_137 (fun H locs W0 => ?_)
  refine W.cs (cells' := 110) (slots' := 7140) rfl rfl ?_
  refine W.eq (g2 := F0 m 140 ls [.ref ((nO X61 2).1), .int 1, .ref q63]) rfl ?_
  obtain ⟨X67, h68, h⟩ := ob h
  refine xr_astq C0 W0 4 2 (by decide) (r := (RX2, TX2, 4)) rfl rfl h68 dX9_init_140 (fun H locs W0 => ?_)
  refine lv_iinc (v := 2) (lv' := [(1, .int 2), (0, .ref l0)]) hx hb dX9_init_141 hl (k := 0) rfl (by decide) (by decide) rfl (fun ls hl => ?_)
  refine lv_goto (tgt := 123) hx hb dX9_init_144 (by decide) ?_
  refine lv_iload_n hx hb dX9_init_123 rfl (lv_at hl 0 rfl) ?_
  refine lv_iconst (v := 4) hx hb dX9_init_124 (by decide) ?_
  refine lv_icmp_ge (tgt := 147) hx hb dX9_init_125 (by decide) (fun hcq => absurd hcq (by decide)) (fun hcq => ?_)
  refine lv_aload_n hx hb dX9_init_128 rfl (lv_at hl 1 rfl) ?_
  obtain ⟨q69, h70, h⟩ := ob h
  refine xr_getR C0 W0 cl_X9 3 (by decide) fl_X9_24 rfl h70 dX9_init_129 ?_
  refine lv_iload_n hx hb dX9_init_132 rfl (lv_at hl 0 rfl) ?_
  refine xr_new C0 W0 cl_X2 (by decide) dv_X2 kl_X9_22 kn_X2.1 kn_X2.2 (by decide) (by decide) dX9_init_133 (fun H W0 => ?_)
  refine W.cs (cells' := 111) (slots' := 7144) rfl rfl ?_
  refine lv_dup hx hb dX9_init_136 rfl ?_
  obtain ⟨X71, h72, h⟩ := ob h
  refine xr_IN (As := []) (rest := [.ref ((nO X67 2).1), .int 2, .ref q69]) C0 W0 (ctX2_init l G h72) mc_X2_init mi_X2_init (xnw_197 C0.2.2.2.2.2.1.2) ⟨by decide, by decide⟩ rfl hl.1 rfl (Nat.le_of_ble_eq_true rfl) ⟨by decide, by decide⟩ dX9_init_137 (fun H locs W0 => ?_)
  refine W.cs (cells' := 118) (slots' := 8272) rfl rfl ?_
  refine W.eq (g2 := F0 m 140 ls [.ref ((nO X67 2).1), .int 2, .ref q69]) rfl ?_
  obtain ⟨X73, h74, h⟩ := ob h
  refine xr_astq C0 W0 4 2 (by decide) (r := (RX2, TX2, 4)) rfl rfl h74 dX9_init_140 (fun H locs W0 => ?_)
  refine lv_iinc (v := 3) (lv' := [(1, .int 3), (0, .ref l0)]) hx hb dX9_init_141 hl (k := 0) rfl (by decide) (by decide) rfl (fun ls hl => ?_)
  refine lv_goto (tgt := 123) hx hb dX9_init_144 (by decide) ?_
  refine lv_iload_n hx hb dX9_init_123 rfl (lv_at hl 0 rfl) ?_
  refine lv_iconst (v := 4) hx hb dX9_init_124 (by decide) ?_
  refine lv_icmp_ge (tgt := 147) hx hb dX9_init_125 (by decide) (fun hcq => absurd hcq (by decide)) (fun hcq => ?_)
  refine lv_aload_n hx hb dX9_init_128 rfl (lv_at hl 1 rfl) ?_
  obtain ⟨q75, h76, h⟩ := ob h
  refine xr_getR C0 W0 cl_X9 3 (by decide) fl_X9_24 rfl h76 dX9_init_129 ?_
  refine lv_iload_n hx hb dX9_init_132 rfl (lv_at hl 0 rfl) ?_
  refine xr_new C0 W0 cl_X2 (by decide) dv_X2 kl_X9_22 kn_X2.1 kn_X2.2 (by decide) (by decide) dX9_init_133 (fun H W0 => ?_)
  refine W.cs (cells' := 119) (slots' := 8276) rfl rfl ?_
  refine lv_dup hx hb dX9_init_136 rfl ?_
  obtain ⟨X77, h78, h⟩ := ob h
  refine xr_IN (As := []) (rest := [.ref ((nO X73 2).1), .int 3, .ref q75]) C0 W0 (ctX2_init l G h78) mc_X2_init mi_X2_init (xnw_197 C0.2.2.2.2.2.1.2) ⟨by decide, by decide⟩ rfl hl.1 rfl (Nat.le_of_ble_eq_true rfl) ⟨by decide, by decide⟩ dX9_init_137 (fun H locs W0 => ?_)
  refine W.cs (cells' := 126) (slots' := 9404) rfl rfl ?_
  refine W.eq (g2 := F0 m 140 ls [.ref ((nO X73 2).1), .int 3, .ref q75]) rfl ?_
  obtain ⟨X79, h80, h⟩ := ob h
  refine xr_astq C0 W0 4 2 (by decide) (r := (RX2, TX2, 4)) rfl rfl h80 dX9_init_140 (fun H locs W0 => ?_)
  refine lv_iinc (v := 4) (lv' := [(1, .int 4), (0, .ref l0)]) hx hb dX9_init_141 hl (k := 0) rfl (by decide) (by decide) rfl (fun ls hl => ?_)
  refine lv_goto (tgt := 123) hx hb dX9_init_144 (by decide) ?_
  refine lv_iload_n hx hb dX9_init_123 rfl (lv_at hl 0 rfl) ?_
  refine lv_iconst (v := 4) hx hb dX9_init_124 (by decide) ?_
  refine lv_icmp_ge (tgt := 147) hx hb dX9_init_125 (by decide) (fun hcq => ?_) (fun hcq => absurd hcq (by decide))
  exact xr_vret C0 W0 hret (Option.some.inj h).symm dX9_init_147
