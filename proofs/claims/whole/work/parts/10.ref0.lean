def fX10_thrown (l0 : Nat) (X : XW) : Option (Int32 × XW) :=
  gI X l0 10 0 >>= fun v1 =>
  some (v1, X)
theorem ctX10_thrown (l : Launch) (G : XG) {l0 : Nat} {X : XW} {r : Int32 × XW}  (h : fX10_thrown l0 X = some r) : XM l G yX10_thrown cX10_thrown 1 (some .int) 0 0 0 0 [.ref l0] X (some (.int r.1), r.2) := by
  refine xm_of (own := RX10) (by decide) rfl (Nat.le_of_ble_eq_true rfl) ?_
  intro p e s m below meth c ls C0 W0 hret hnm hl
  have hx := C0.1
  have hb := C0.2.1
  have hl : lv_has ls 1 [(0, .ref l0)] := hl
  unfold fX10_thrown at h
  refine lv_aload_n hx hb dX10_thrown_0 rfl (lv_at hl 0 rfl) ?_
  obtain ⟨v1, h2, h⟩ := ob h
  refine xr_getI C0 W0 cl_X10 0 (by decide) fl_X10_1 rfl h2 dX10_thrown_1 ?_
  exact xr_iret C0 W0 hret (Option.some.inj h) dX10_thrown_4
def fX10_lay_j69 (rec : Int32 → XW → Option (XW)) (l0 : Nat) (l1 : Int64) (l3 : Int32) (X : XW) : Option (XW) :=
  rec (l3 + (-8)) X
def fX10_lay_j38 (rec : Int32 → XW → Option (XW)) (l0 : Nat) (l1 : Int64) (l3 : Int32) (l4 : Int32) (X : XW) : Option (XW) :=
  gI X l0 10 2 >>= fun v1 =>
  if (1000 ≤ v1 : Prop) then (fX10_lay_j69 rec l0 l1 l3 X)
  else (gR X l0 10 1 >>= fun q3 =>
    gI X l0 10 2 >>= fun v5 =>
    uI X q3 v5 l4 >>= fun X7 =>
    gI X7 l0 10 2 >>= fun v9 =>
    pI X7 l0 10 2 (v9 + 1) >>= fun X11 =>
    fX10_lay_j69 rec l0 l1 l3 X11)
def fX10_lay_l3_b (rec : Int32 → XW → Option (XW)) (l0 : Nat) (l1 : Int64) (l3 : Int32) (X : XW) : Option (XW) :=
  if (l3 < 0 : Prop) then (some (X))
  else (if (((((l1 >>> ((l3).toInt64 &&& 63))).toInt32) &&& 255) = 10 : Prop) then (fX10_lay_j38 rec l0 l1 l3 ((((l1 >>> ((l3).toInt64 &&& 63))).toInt32) &&& 255) X)
    else (if (((((l1 >>> ((l3).toInt64 &&& 63))).toInt32) &&& 255) < 32 : Prop) then (fX10_lay_j69 rec l0 l1 l3 X)
      else (if (126 < ((((l1 >>> ((l3).toInt64 &&& 63))).toInt32) &&& 255) : Prop) then (fX10_lay_j69 rec l0 l1 l3 X)
        else (fX10_lay_j38 rec l0 l1 l3 ((((l1 >>> ((l3).toInt64 &&& 63))).toInt32) &&& 255) X))))
def fX10_lay_l3 (l0 : Nat) (l1 : Int64) (n : Nat) : Int32 → XW → Option (XW) := iter (fun rec => fX10_lay_l3_b rec l0 l1) (fun _ _ => none) n
def fX10_lay (l0 : Nat) (l1 : Int64) (X : XW) : Option (XW) :=
  fX10_lay_l3 l0 l1 FU 56 X >>= fun r1 =>
  some r1
theorem tX10_lay_j69 {p : Program} {l : Launch} {e : Env} {s : State} {m : MethodId} {args : Array Value} {below : List Frame} {meth : Method} {c : Code} {G : XG} {X0 : XW} (C0 : XC p s m args meth c RX10 cX10_lay 5 G) (hret : meth.sig.returnType = none) {r : XW} {l0 : Nat} {l1 : Int64} {Q : State → Prop} {rec : Int32 → XW → Option (XW)} (hrec : ∀ {y3 : Int32} {X : XW} {H : Heap} {locs : List Loc} {ls : Array Slot}, XD G X0 X s H locs → lv_has ls 5 [(0, .ref l0), (1, .long l1), (3, .int y3)] → rec y3 X = some r → W p l e { frames := 0, cells := 0, slots := 0, locals := 0 } s m args below meth c H locs 0 0 Q (F0 m 3 ls [])) (hK : ∀ {H : Heap} {locs : List Loc} {ls : Array Slot}, XD G X0 r s H locs → lv_has ls 5 [] → W p l e { frames := 0, cells := 0, slots := 0, locals := 0 } s m args below meth c H locs 0 0 Q (F0 m 75 ls []))  {l3 : Int32} {X : XW} {H : Heap} {locs : List Loc} {ls : Array Slot} (W0 : XD G X0 X s H locs) (hl : lv_has ls 5 [(0, .ref l0), (1, .long l1), (3, .int l3)]) (h : fX10_lay_j69 rec l0 l1 l3 X = some r) : W p l e { frames := 0, cells := 0, slots := 0, locals := 0 } s m args below meth c H locs 0 0 Q (F0 m 69 ls []) := by
  have hx := C0.1
  have hb := C0.2.1
  unfold fX10_lay_j69 at h
  refine lv_iinc (v := (l3 + (-8))) (lv' := [(3, .int (l3 + (-8))), (0, .ref l0), (1, .long l1)]) hx hb dX10_lay_69 hl (k := 2) rfl (ii (by decide)) (by decide) rfl (fun ls hl => ?_)
  refine lv_goto (tgt := 3) hx hb dX10_lay_72 (by decide) ?_
  exact hrec W0 (lv_sub hl [1, 2, 0] rfl) h
theorem tX10_lay_j38 {p : Program} {l : Launch} {e : Env} {s : State} {m : MethodId} {args : Array Value} {below : List Frame} {meth : Method} {c : Code} {G : XG} {X0 : XW} (C0 : XC p s m args meth c RX10 cX10_lay 5 G) (hret : meth.sig.returnType = none) {r : XW} {l0 : Nat} {l1 : Int64} {Q : State → Prop} {rec : Int32 → XW → Option (XW)} (hrec : ∀ {y3 : Int32} {X : XW} {H : Heap} {locs : List Loc} {ls : Array Slot}, XD G X0 X s H locs → lv_has ls 5 [(0, .ref l0), (1, .long l1), (3, .int y3)] → rec y3 X = some r → W p l e { frames := 0, cells := 0, slots := 0, locals := 0 } s m args below meth c H locs 0 0 Q (F0 m 3 ls [])) (hK : ∀ {H : Heap} {locs : List Loc} {ls : Array Slot}, XD G X0 r s H locs → lv_has ls 5 [] → W p l e { frames := 0, cells := 0, slots := 0, locals := 0 } s m args below meth c H locs 0 0 Q (F0 m 75 ls []))  {l3 : Int32} {l4 : Int32} {X : XW} {H : Heap} {locs : List Loc} {ls : Array Slot} (W0 : XD G X0 X s H locs) (hl : lv_has ls 5 [(0, .ref l0), (1, .long l1), (3, .int l3), (4, .int l4)]) (h : fX10_lay_j38 rec l0 l1 l3 l4 X = some r) : W p l e { frames := 0, cells := 0, slots := 0, locals := 0 } s m args below meth c H locs 0 0 Q (F0 m 38 ls []) := by
  have hx := C0.1
  have hb := C0.2.1
  unfold fX10_lay_j38 at h
  refine lv_aload_n hx hb dX10_lay_38 rfl (lv_at hl 0 rfl) ?_
  obtain ⟨v1, h2, h⟩ := ob h
  refine xr_getI C0 W0 cl_X10 2 (by decide) fl_X10_11 rfl h2 dX10_lay_39 ?_
  refine lv_sipush (v := 1000) hx hb dX10_lay_42 (by decide) ?_
  refine lv_icmp_ge (tgt := 69) hx hb dX10_lay_45 (by decide) (fun hcq => ?_) (fun hcq => ?_)
  · have h := it_t hcq h
    exact tX10_lay_j69 C0 hret hrec hK W0 (lv_sub hl [0, 1, 2] rfl) h
  · have h := it_f hcq h
    refine lv_aload_n hx hb dX10_lay_48 rfl (lv_at hl 0 rfl) ?_
    obtain ⟨q3, h4, h⟩ := ob h
    refine xr_getR C0 W0 cl_X10 1 (by decide) fl_X10_14 rfl h4 dX10_lay_49 ?_
    refine lv_aload_n hx hb dX10_lay_52 rfl (lv_at hl 0 rfl) ?_
    obtain ⟨v5, h6, h⟩ := ob h
    refine xr_getI C0 W0 cl_X10 2 (by decide) fl_X10_11 rfl h6 dX10_lay_53 ?_
    refine lv_iload hx hb dX10_lay_56 (lv_at hl 3 rfl) ?_
    obtain ⟨X7, h8, h⟩ := ob h
    refine xr_iast C0 W0 h8 dX10_lay_58 (fun H locs W0 => ?_)
    refine lv_aload_n hx hb dX10_lay_59 rfl (lv_at hl 0 rfl) ?_
    refine lv_dup hx hb dX10_lay_60 rfl ?_
    obtain ⟨v9, h10, h⟩ := ob h
    refine xr_getI C0 W0 cl_X10 2 (by decide) fl_X10_11 rfl h10 dX10_lay_61 ?_
    refine lv_iconst (v := 1) hx hb dX10_lay_64 (by decide) ?_
    refine lv_iadd hx hb dX10_lay_65 ?_
    obtain ⟨X11, h12, h⟩ := ob h
    refine xr_putI C0 W0 cl_X10 2 (by decide) fl_X10_11 rfl rfl rfl (by decide) h12 dX10_lay_66 (fun H locs W0 => ?_)
    exact tX10_lay_j69 C0 hret hrec hK W0 (lv_sub hl [0, 1, 2] rfl) h
theorem tX10_lay_l3_b {p : Program} {l : Launch} {e : Env} {s : State} {m : MethodId} {args : Array Value} {below : List Frame} {meth : Method} {c : Code} {G : XG} {X0 : XW} (C0 : XC p s m args meth c RX10 cX10_lay 5 G) (hret : meth.sig.returnType = none) {r : XW} {l0 : Nat} {l1 : Int64} {Q : State → Prop} {rec : Int32 → XW → Option (XW)} (hrec : ∀ {y3 : Int32} {X : XW} {H : Heap} {locs : List Loc} {ls : Array Slot}, XD G X0 X s H locs → lv_has ls 5 [(0, .ref l0), (1, .long l1), (3, .int y3)] → rec y3 X = some r → W p l e { frames := 0, cells := 0, slots := 0, locals := 0 } s m args below meth c H locs 0 0 Q (F0 m 3 ls [])) (hK : ∀ {H : Heap} {locs : List Loc} {ls : Array Slot}, XD G X0 r s H locs → lv_has ls 5 [] → W p l e { frames := 0, cells := 0, slots := 0, locals := 0 } s m args below meth c H locs 0 0 Q (F0 m 75 ls []))  {l3 : Int32} {X : XW} {H : Heap} {locs : List Loc} {ls : Array Slot} (W0 : XD G X0 X s H locs) (hl : lv_has ls 5 [(0, .ref l0), (1, .long l1), (3, .int l3)]) (h : fX10_lay_l3_b rec l0 l1 l3 X = some r) : W p l e { frames := 0, cells := 0, slots := 0, locals := 0 } s m args below meth c H locs 0 0 Q (F0 m 3 ls []) := by
  have hx := C0.1
  have hb := C0.2.1
  unfold fX10_lay_l3_b at h
  refine lv_iload_n hx hb dX10_lay_3 rfl (lv_at hl 2 rfl) ?_
  refine lv_if_lt (tgt := 75) hx hb dX10_lay_4 (by decide) (fun hcq => ?_) (fun hcq => ?_)
  · have h := it_t hcq h
    cases h
    exact hK W0 (lv_sub hl [] rfl)
  · have h := it_f hcq h
    refine lv_lload_n hx hb dX10_lay_7 rfl (lv_at hl 1 rfl) ?_
    refine lv_iload_n hx hb dX10_lay_8 rfl (lv_at hl 2 rfl) ?_
    refine lv_lshr (v := (l1 >>> ((l3).toInt64 &&& 63))) hx hb dX10_lay_9 rfl ?_
    refine lv_l2i (v := (((l1 >>> ((l3).toInt64 &&& 63))).toInt32)) hx hb dX10_lay_10 rfl ?_
    refine lv_sipush (v := 255) hx hb dX10_lay_11 (by decide) ?_
    refine lv_iand hx hb dX10_lay_14 ?_
    refine lv_istore (lv' := [(4, .int ((((l1 >>> ((l3).toInt64 &&& 63))).toInt32) &&& 255)), (0, .ref l0), (1, .long l1), (3, .int l3)]) hx hb dX10_lay_15 hl (by decide) rfl (fun ls hl => ?_)
    refine lv_iload hx hb dX10_lay_17 (lv_at hl 0 rfl) ?_
    refine lv_bipush (v := 10) hx hb dX10_lay_19 (by decide) ?_
    refine lv_icmp_eq (tgt := 38) hx hb dX10_lay_21 (by decide) (fun hcq => ?_) (fun hcq => ?_)
    · have h := it_t hcq h
      exact tX10_lay_j38 C0 hret hrec hK W0 (lv_sub hl [1, 2, 3, 0] rfl) h
    · have h := it_f hcq h
      refine lv_iload hx hb dX10_lay_24 (lv_at hl 0 rfl) ?_
      refine lv_bipush (v := 32) hx hb dX10_lay_26 (by decide) ?_
      refine lv_icmp_lt (tgt := 69) hx hb dX10_lay_28 (by decide) (fun hcq => ?_) (fun hcq => ?_)
      · have h := it_t hcq h
        exact tX10_lay_j69 C0 hret hrec hK W0 (lv_sub hl [1, 2, 3] rfl) h
      · have h := it_f hcq h
        refine lv_iload hx hb dX10_lay_31 (lv_at hl 0 rfl) ?_
        refine lv_bipush (v := 126) hx hb dX10_lay_33 (by decide) ?_
        refine lv_icmp_gt (tgt := 69) hx hb dX10_lay_35 (by decide) (fun hcq => ?_) (fun hcq => ?_)
        · have h := it_t hcq h
          exact tX10_lay_j69 C0 hret hrec hK W0 (lv_sub hl [1, 2, 3] rfl) h
        · have h := it_f hcq h
          exact tX10_lay_j38 C0 hret hrec hK W0 (lv_sub hl [1, 2, 3, 0] rfl) h
theorem tX10_lay_l3 {p : Program} {l : Launch} {e : Env} {s : State} {m : MethodId} {args : Array Value} {below : List Frame} {meth : Method} {c : Code} {G : XG} {X0 : XW} (C0 : XC p s m args meth c RX10 cX10_lay 5 G) (hret : meth.sig.returnType = none) {r : XW} {l0 : Nat} {l1 : Int64} {Q : State → Prop} (hK : ∀ {H : Heap} {locs : List Loc} {ls : Array Slot}, XD G X0 r s H locs → lv_has ls 5 [] → W p l e { frames := 0, cells := 0, slots := 0, locals := 0 } s m args below meth c H locs 0 0 Q (F0 m 75 ls [])) : ∀ (n : Nat) {y3 : Int32} {X : XW} {H : Heap} {locs : List Loc} {ls : Array Slot}, XD G X0 X s H locs → lv_has ls 5 [(0, .ref l0), (1, .long l1), (3, .int y3)] → fX10_lay_l3 l0 l1 n y3 X = some r → W p l e { frames := 0, cells := 0, slots := 0, locals := 0 } s m args below meth c H locs 0 0 Q (F0 m 3 ls []) := by
  intro n
  induction n with
  | zero =>
    intro y3 X H locs ls W0 hl h
    cases h
  | succ n ih =>
    intro y3 X H locs ls W0 hl h
    exact tX10_lay_l3_b C0 hret (rec := fX10_lay_l3 l0 l1 n) (fun W0 hl h => ih W0 hl h) hK W0 hl h
theorem ctX10_lay (l : Launch) (G : XG) {l0 : Nat} {l1 : Int64} {X : XW} {r : XW}  (h : fX10_lay l0 l1 X = some r) : XM l G yX10_lay cX10_lay 5 none 0 0 0 0 [.ref l0, .long l1] X (none, r) := by
  refine xm_of (own := RX10) (by decide) rfl (Nat.le_of_ble_eq_true rfl) ?_
  intro p e s m below meth c ls C0 W0 hret hnm hl
  have hx := C0.1
  have hb := C0.2.1
  have hl : lv_has ls 5 [(0, .ref l0), (1, .long l1)] := hl
  unfold fX10_lay at h
  refine lv_bipush (v := 56) hx hb dX10_lay_0 (by decide) ?_
  refine lv_istore_n (lv' := [(3, .int 56), (0, .ref l0), (1, .long l1)]) hx hb dX10_lay_2 rfl hl (by decide) rfl (fun ls hl => ?_)
  obtain ⟨r1, h2, h⟩ := ob h
  refine tX10_lay_l3 C0 hret (fun {H} {locs} {ls} W0 hl => ?_) FU W0 (lv_sub hl [1, 2, 0] rfl) h2
  exact xr_vret C0 W0 hret (Option.some.inj h).symm dX10_lay_75
def fX10_feed (l0 : Nat) (l1 : Int64) (l3 : Int64) (l5 : Int64) (X : XW) : Option (Int32 × XW) :=
  pI X l0 10 0 0 >>= fun X1 =>
  gK X1 l0 10 >>= fun u3 =>
  fX10_lay l0 l1 X1 >>= fun X5 =>
  gK X5 l0 10 >>= fun u7 =>
  fX10_lay l0 l3 X5 >>= fun X9 =>
  gK X9 l0 10 >>= fun u11 =>
  fX10_lay l0 l5 X9 >>= fun X13 =>
  gI X13 l0 10 2 >>= fun v15 =>
  some (v15, X13)
theorem ctX10_feed (l : Launch) (G : XG) {l0 : Nat} {l1 : Int64} {l3 : Int64} {l5 : Int64} {X : XW} {r : Int32 × XW}  (h : fX10_feed l0 l1 l3 l5 X = some r) : XM l G yX10_feed cX10_feed 7 (some .int) 1 60 0 0 [.ref l0, .long l1, .long l3, .long l5] X (some (.int r.1), r.2) := by
  refine xm_of (own := RX10) (by decide) rfl (Nat.le_of_ble_eq_true rfl) ?_
  intro p e s m below meth c ls C0 W0 hret hnm hl
  have hx := C0.1
  have hb := C0.2.1
  have hl : lv_has ls 7 [(0, .ref l0), (1, .long l1), (3, .long l3), (5, .long l5)] := hl
  unfold fX10_feed at h
  refine lv_aload_n hx hb dX10_feed_0 rfl (lv_at hl 0 rfl) ?_
  refine lv_iconst (v := 0) hx hb dX10_feed_1 (by decide) ?_
  obtain ⟨X1, h2, h⟩ := ob h
  refine xr_putI C0 W0 cl_X10 0 (by decide) fl_X10_1 rfl rfl rfl (by decide) h2 dX10_feed_2 (fun H locs W0 => ?_)
  refine lv_aload_n hx hb dX10_feed_5 rfl (lv_at hl 0 rfl) ?_
  refine lv_lload_n hx hb dX10_feed_6 rfl (lv_at hl 1 rfl) ?_
  obtain ⟨u3, h4, h⟩ := ob h
  obtain ⟨X5, h6, h⟩ := ob h
  refine xr_V (As := [.long l1]) (rest := []) C0 W0 (ctX10_lay l G h6) (gK_of h4) (rr := (RX10, TX10, 57)) rfl rfl mc_X10_lay mv_X10_lay ml_X10_7 ⟨by decide, by decide⟩ rfl hl.1 rfl (Nat.le_of_ble_eq_true rfl) ⟨by decide, by decide⟩ dX10_feed_7 (fun H locs W0 => ?_)
  refine W.cs (cells' := 0) (slots' := 0) rfl rfl ?_
  refine W.eq (g2 := F0 m 10 ls []) rfl ?_
  refine lv_aload_n hx hb dX10_feed_10 rfl (lv_at hl 0 rfl) ?_
  refine lv_lload_n hx hb dX10_feed_11 rfl (lv_at hl 2 rfl) ?_
  obtain ⟨u7, h8, h⟩ := ob h
  obtain ⟨X9, h10, h⟩ := ob h
  refine xr_V (As := [.long l3]) (rest := []) C0 W0 (ctX10_lay l G h10) (gK_of h8) (rr := (RX10, TX10, 57)) rfl rfl mc_X10_lay mv_X10_lay ml_X10_7 ⟨by decide, by decide⟩ rfl hl.1 rfl (Nat.le_of_ble_eq_true rfl) ⟨by decide, by decide⟩ dX10_feed_12 (fun H locs W0 => ?_)
  refine W.cs (cells' := 0) (slots' := 0) rfl rfl ?_
  refine W.eq (g2 := F0 m 15 ls []) rfl ?_
  refine lv_aload_n hx hb dX10_feed_15 rfl (lv_at hl 0 rfl) ?_
  refine lv_lload hx hb dX10_feed_16 (lv_at hl 3 rfl) ?_
  obtain ⟨u11, h12, h⟩ := ob h
  obtain ⟨X13, h14, h⟩ := ob h
  refine xr_V (As := [.long l5]) (rest := []) C0 W0 (ctX10_lay l G h14) (gK_of h12) (rr := (RX10, TX10, 57)) rfl rfl mc_X10_lay mv_X10_lay ml_X10_7 ⟨by decide, by decide⟩ rfl hl.1 rfl (Nat.le_of_ble_eq_true rfl) ⟨by decide, by decide⟩ dX10_feed_18 (fun H locs W0 => ?_)
  refine W.cs (cells' := 0) (slots' := 0) rfl rfl ?_
  refine W.eq (g2 := F0 m 21 ls []) rfl ?_
  refine lv_aload_n hx hb dX10_feed_21 rfl (lv_at hl 0 rfl) ?_
  obtain ⟨v15, h16, h⟩ := ob h
  refine xr_getI C0 W0 cl_X10 2 (by decide) fl_X10_11 rfl h16 dX10_feed_22 ?_
  exact xr_iret C0 W0 hret (Option.some.inj h) dX10_feed_25
def fX10_init_l472_b (rec : Int32 → XW → Option (XW)) (l0 : Nat) (l1 : Int32) (X : XW) : Option (XW) :=
  if (4 ≤ l1 : Prop) then (some (X))
  else (gR X l0 10 12 >>= fun q1 =>
    uI X q1 l1 99 >>= fun X3 =>
    gR X3 l0 10 13 >>= fun q5 =>
    uI X3 q5 l1 99 >>= fun X7 =>
    rec (l1 + 1) X7)
def fX10_init_l472 (l0 : Nat) (n : Nat) : Int32 → XW → Option (XW) := iter (fun rec => fX10_init_l472_b rec l0) (fun _ _ => none) n
def fX10_init_l501_b (rec : Int32 → XW → Option (XW)) (l0 : Nat) (l1 : Int32) (X : XW) : Option (XW) :=
  if (960 ≤ l1 : Prop) then (some (X))
  else (gR X l0 10 37 >>= fun q1 =>
    uI X q1 l1 (-1) >>= fun X3 =>
    rec (l1 + 1) X3)
def fX10_init_l501 (l0 : Nat) (n : Nat) : Int32 → XW → Option (XW) := iter (fun rec => fX10_init_l501_b rec l0) (fun _ _ => none) n
def fX10_init (l0 : Nat) (X : XW) : Option (XW) :=
  nA X 1 1000 1000 >>= fun r1 =>
  pR r1.2 l0 10 1 r1.1 >>= fun X3 =>
  nA X3 1 1002 1002 >>= fun r5 =>
  pR r5.2 l0 10 4 r5.1 >>= fun X7 =>
  nA X7 1 1002 1002 >>= fun r9 =>
  pR r9.2 l0 10 5 r9.1 >>= fun X11 =>
  nA X11 2 1002 1002 >>= fun r13 =>
  pR r13.2 l0 10 6 r13.1 >>= fun X15 =>
  nA X15 2 17 17 >>= fun r17 =>
  uL r17.2 r17.1 0 26216 >>= fun X19 =>
  uL X19 r17.1 1 1521 >>= fun X21 =>
  uL X21 r17.1 2 1176170 >>= fun X23 =>
  uL X23 r17.1 3 1891 >>= fun X25 =>
  uL X25 r17.1 4 842217762 >>= fun X27 =>
  uL X27 r17.1 5 564588237 >>= fun X29 =>
  uL X29 r17.1 6 30778061 >>= fun X31 =>
  uL X31 r17.1 7 30595897 >>= fun X33 =>
  uL X33 r17.1 8 614923 >>= fun X35 =>
  uL X35 r17.1 9 1355937724 >>= fun X37 =>
  uL X37 r17.1 10 75125782 >>= fun X39 =>
  uL X39 r17.1 11 19374 >>= fun X41 =>
  uL X41 r17.1 12 324290739998 >>= fun X43 =>
  uL X43 r17.1 13 1125410431 >>= fun X45 =>
  uL X45 r17.1 14 11720058 >>= fun X47 =>
  uL X47 r17.1 15 1186224 >>= fun X49 =>
  uL X49 r17.1 16 1042332 >>= fun X51 =>
  pR X51 l0 10 9 r17.1 >>= fun X53 =>
  nA X53 1 4 4 >>= fun r55 =>
  pR r55.2 l0 10 11 r55.1 >>= fun X57 =>
  nA X57 1 4 4 >>= fun r59 =>
  pR r59.2 l0 10 12 r59.1 >>= fun X61 =>
  nA X61 1 4 4 >>= fun r63 =>
  pR r63.2 l0 10 13 r63.1 >>= fun X65 =>
  nA X65 1 5 5 >>= fun r67 =>
  pR r67.2 l0 10 14 r67.1 >>= fun X69 =>
  nA X69 3 120 120 >>= fun r71 =>
  pR r71.2 l0 10 15 r71.1 >>= fun X73 =>
  nA X73 1 120 120 >>= fun r75 =>
  pR r75.2 l0 10 16 r75.1 >>= fun X77 =>
  nA X77 1 120 120 >>= fun r79 =>
  pR r79.2 l0 10 17 r79.1 >>= fun X81 =>
  nA X81 1 120 120 >>= fun r83 =>
  pR r83.2 l0 10 18 r83.1 >>= fun X85 =>
  nA X85 1 5300 5300 >>= fun r87 =>
  pR r87.2 l0 10 19 r87.1 >>= fun X89 =>
  nA X89 1 5300 5300 >>= fun r91 =>
  pR r91.2 l0 10 20 r91.1 >>= fun X93 =>
  nA X93 1 7 7 >>= fun r95 =>
  pR r95.2 l0 10 23 r95.1 >>= fun X97 =>
  nA X97 1 7 7 >>= fun r99 =>
  pR r99.2 l0 10 24 r99.1 >>= fun X101 =>
  nA X101 1 7 7 >>= fun r103 =>
  pR r103.2 l0 10 25 r103.1 >>= fun X105 =>
  nA X105 1 13 13 >>= fun r107 =>
  pR r107.2 l0 10 26 r107.1 >>= fun X109 =>
  nA X109 1 1060 1060 >>= fun r111 =>
  pR r111.2 l0 10 27 r111.1 >>= fun X113 =>
  pI X113 l0 10 28 1 >>= fun X115 =>
  nA X115 1 4 4 >>= fun r117 =>
  pR r117.2 l0 10 30 r117.1 >>= fun X119 =>
  nA X119 1 64 64 >>= fun r121 =>
  pR r121.2 l0 10 31 r121.1 >>= fun X123 =>
  nA X123 1 64 64 >>= fun r125 =>
  pR r125.2 l0 10 32 r125.1 >>= fun X127 =>
  nA X127 1 64 64 >>= fun r129 =>
  pR r129.2 l0 10 33 r129.1 >>= fun X131 =>
  nA X131 3 64 64 >>= fun r133 =>
  pR r133.2 l0 10 34 r133.1 >>= fun X135 =>
  nA X135 3 64 64 >>= fun r137 =>
  pR r137.2 l0 10 35 r137.1 >>= fun X139 =>
  nA X139 1 4 4 >>= fun r141 =>
  pR r141.2 l0 10 36 r141.1 >>= fun X143 =>
  nA X143 1 960 960 >>= fun r145 =>
  pR r145.2 l0 10 37 r145.1 >>= fun X147 =>
  pI X147 l0 10 38 6 >>= fun X149 =>
  pI X149 l0 10 39 1 >>= fun X151 =>
  pI X151 l0 10 40 1 >>= fun X153 =>
  nA X153 1 17 17 >>= fun r155 =>
  pR r155.2 l0 10 41 r155.1 >>= fun X157 =>
  nA X157 1 16 16 >>= fun r159 =>
  pR r159.2 l0 10 43 r159.1 >>= fun X161 =>
  nA X161 1 16 16 >>= fun r163 =>
  pR r163.2 l0 10 44 r163.1 >>= fun X165 =>
  nA X165 1 16 16 >>= fun r167 =>
  pR r167.2 l0 10 45 r167.1 >>= fun X169 =>
  nA X169 3 16 16 >>= fun r171 =>
  pR r171.2 l0 10 46 r171.1 >>= fun X173 =>
  nA X173 1 80 80 >>= fun r175 =>
  pR r175.2 l0 10 48 r175.1 >>= fun X177 =>
  nA X177 1 80 80 >>= fun r179 =>
  pR r179.2 l0 10 49 r179.1 >>= fun X181 =>
  nA X181 1 80 80 >>= fun r183 =>
  pR r183.2 l0 10 50 r183.1 >>= fun X185 =>
  nA X185 3 80 80 >>= fun r187 =>
  pR r187.2 l0 10 51 r187.1 >>= fun X189 =>
  nA X189 1 240 240 >>= fun r191 =>
  pR r191.2 l0 10 52 r191.1 >>= fun X193 =>
  nA X193 1 16 16 >>= fun r195 =>
  pR r195.2 l0 10 53 r195.1 >>= fun X197 =>
  nA X197 1 16 16 >>= fun r199 =>
  pR r199.2 l0 10 54 r199.1 >>= fun X201 =>
  nA X201 1 320 320 >>= fun r203 =>
  pR r203.2 l0 10 56 r203.1 >>= fun X205 =>
  fX10_init_l472 l0 FU 0 X205 >>= fun r207 =>
  fX10_init_l501 l0 FU 0 r207 >>= fun r209 =>
  some r209
theorem tX10_init_l472_b {p : Program} {l : Launch} {e : Env} {s : State} {m : MethodId} {args : Array Value} {below : List Frame} {meth : Method} {c : Code} {G : XG} {X0 : XW} (C0 : XC p s m args meth c RX10 cX10_init 2 G) (hret : meth.sig.returnType = none) (hin : meth.name = "<init>") {r : XW} {l0 : Nat} {Q : State → Prop} {rec : Int32 → XW → Option (XW)} (hrec : ∀ {y1 : Int32} {X : XW} {H : Heap} {locs : List Loc} {ls : Array Slot}, XD G X0 X s H locs → lv_has ls 2 [(0, .ref l0), (1, .int y1)] → rec y1 X = some r → W p l e { frames := 1, cells := 41, slots := 18495, locals := 60 } s m args below meth c H locs 41 18495 Q (F0 m 472 ls [])) (hK : ∀ {H : Heap} {locs : List Loc} {ls : Array Slot}, XD G X0 r s H locs → lv_has ls 2 [(0, .ref l0)] → W p l e { frames := 1, cells := 41, slots := 18495, locals := 60 } s m args below meth c H locs 41 18495 Q (F0 m 499 ls []))  {l1 : Int32} {X : XW} {H : Heap} {locs : List Loc} {ls : Array Slot} (W0 : XD G X0 X s H locs) (hl : lv_has ls 2 [(0, .ref l0), (1, .int l1)]) (h : fX10_init_l472_b rec l0 l1 X = some r) : W p l e { frames := 1, cells := 41, slots := 18495, locals := 60 } s m args below meth c H locs 41 18495 Q (F0 m 472 ls []) := by
  have hx := C0.1
  have hb := C0.2.1
  unfold fX10_init_l472_b at h
  refine lv_iload_n hx hb dX10_init_472 rfl (lv_at hl 1 rfl) ?_
  refine lv_iconst (v := 4) hx hb dX10_init_473 (by decide) ?_
  refine lv_icmp_ge (tgt := 499) hx hb dX10_init_474 (by decide) (fun hcq => ?_) (fun hcq => ?_)
  · have h := it_t hcq h
    cases h
    exact hK W0 (lv_sub hl [0] rfl)
  · have h := it_f hcq h
    refine lv_aload_n hx hb dX10_init_477 rfl (lv_at hl 0 rfl) ?_
    obtain ⟨q1, h2, h⟩ := ob h
    refine xr_getR C0 W0 cl_X10 12 (by decide) fl_X10_74 rfl h2 dX10_init_478 ?_
    refine lv_iload_n hx hb dX10_init_481 rfl (lv_at hl 1 rfl) ?_
    refine lv_bipush (v := 99) hx hb dX10_init_482 (by decide) ?_
    obtain ⟨X3, h4, h⟩ := ob h
    refine xr_iast C0 W0 h4 dX10_init_484 (fun H locs W0 => ?_)
    refine lv_aload_n hx hb dX10_init_485 rfl (lv_at hl 0 rfl) ?_
    obtain ⟨q5, h6, h⟩ := ob h
    refine xr_getR C0 W0 cl_X10 13 (by decide) fl_X10_77 rfl h6 dX10_init_486 ?_
    refine lv_iload_n hx hb dX10_init_489 rfl (lv_at hl 1 rfl) ?_
    refine lv_bipush (v := 99) hx hb dX10_init_490 (by decide) ?_
    obtain ⟨X7, h8, h⟩ := ob h
    refine xr_iast C0 W0 h8 dX10_init_492 (fun H locs W0 => ?_)
    refine lv_iinc (v := (l1 + 1)) (lv' := [(1, .int (l1 + 1)), (0, .ref l0)]) hx hb dX10_init_493 hl (k := 1) rfl (ii (by decide)) (by decide) rfl (fun ls hl => ?_)
    refine lv_goto (tgt := 472) hx hb dX10_init_496 (by decide) ?_
    exact hrec W0 (lv_sub hl [1, 0] rfl) h
theorem tX10_init_l472 {p : Program} {l : Launch} {e : Env} {s : State} {m : MethodId} {args : Array Value} {below : List Frame} {meth : Method} {c : Code} {G : XG} {X0 : XW} (C0 : XC p s m args meth c RX10 cX10_init 2 G) (hret : meth.sig.returnType = none) (hin : meth.name = "<init>") {r : XW} {l0 : Nat} {Q : State → Prop} (hK : ∀ {H : Heap} {locs : List Loc} {ls : Array Slot}, XD G X0 r s H locs → lv_has ls 2 [(0, .ref l0)] → W p l e { frames := 1, cells := 41, slots := 18495, locals := 60 } s m args below meth c H locs 41 18495 Q (F0 m 499 ls [])) : ∀ (n : Nat) {y1 : Int32} {X : XW} {H : Heap} {locs : List Loc} {ls : Array Slot}, XD G X0 X s H locs → lv_has ls 2 [(0, .ref l0), (1, .int y1)] → fX10_init_l472 l0 n y1 X = some r → W p l e { frames := 1, cells := 41, slots := 18495, locals := 60 } s m args below meth c H locs 41 18495 Q (F0 m 472 ls []) := by
  intro n
  induction n with
  | zero =>
    intro y1 X H locs ls W0 hl h
    cases h
  | succ n ih =>
    intro y1 X H locs ls W0 hl h
    exact tX10_init_l472_b C0 hret hin (rec := fX10_init_l472 l0 n) (fun W0 hl h => ih W0 hl h) hK W0 hl h
theorem tX10_init_l501_b {p : Program} {l : Launch} {e : Env} {s : State} {m : MethodId} {args : Array Value} {below : List Frame} {meth : Method} {c : Code} {G : XG} {X0 : XW} (C0 : XC p s m args meth c RX10 cX10_init 2 G) (hret : meth.sig.returnType = none) (hin : meth.name = "<init>") {r : XW} {l0 : Nat} {Q : State → Prop} {rec : Int32 → XW → Option (XW)} (hrec : ∀ {y1 : Int32} {X : XW} {H : Heap} {locs : List Loc} {ls : Array Slot}, XD G X0 X s H locs → lv_has ls 2 [(0, .ref l0), (1, .int y1)] → rec y1 X = some r → W p l e { frames := 1, cells := 41, slots := 18495, locals := 60 } s m args below meth c H locs 41 18495 Q (F0 m 501 ls [])) (hK : ∀ {H : Heap} {locs : List Loc} {ls : Array Slot}, XD G X0 r s H locs → lv_has ls 2 [] → W p l e { frames := 1, cells := 41, slots := 18495, locals := 60 } s m args below meth c H locs 41 18495 Q (F0 m 521 ls []))  {l1 : Int32} {X : XW} {H : Heap} {locs : List Loc} {ls : Array Slot} (W0 : XD G X0 X s H locs) (hl : lv_has ls 2 [(0, .ref l0), (1, .int l1)]) (h : fX10_init_l501_b rec l0 l1 X = some r) : W p l e { frames := 1, cells := 41, slots := 18495, locals := 60 } s m args below meth c H locs 41 18495 Q (F0 m 501 ls []) := by
  have hx := C0.1
  have hb := C0.2.1
  unfold fX10_init_l501_b at h
  refine lv_iload_n hx hb dX10_init_501 rfl (lv_at hl 1 rfl) ?_
  refine lv_sipush (v := 960) hx hb dX10_init_502 (by decide) ?_
  refine lv_icmp_ge (tgt := 521) hx hb dX10_init_505 (by decide) (fun hcq => ?_) (fun hcq => ?_)
  · have h := it_t hcq h
    cases h
    exact hK W0 (lv_sub hl [] rfl)
  · have h := it_f hcq h
    refine lv_aload_n hx hb dX10_init_508 rfl (lv_at hl 0 rfl) ?_
    obtain ⟨q1, h2, h⟩ := ob h
    refine xr_getR C0 W0 cl_X10 37 (by decide) fl_X10_141 rfl h2 dX10_init_509 ?_
    refine lv_iload_n hx hb dX10_init_512 rfl (lv_at hl 1 rfl) ?_
    refine lv_iconst (v := (-1)) hx hb dX10_init_513 (by decide) ?_
    obtain ⟨X3, h4, h⟩ := ob h
    refine xr_iast C0 W0 h4 dX10_init_514 (fun H locs W0 => ?_)
    refine lv_iinc (v := (l1 + 1)) (lv' := [(1, .int (l1 + 1)), (0, .ref l0)]) hx hb dX10_init_515 hl (k := 1) rfl (ii (by decide)) (by decide) rfl (fun ls hl => ?_)
    refine lv_goto (tgt := 501) hx hb dX10_init_518 (by decide) ?_
    exact hrec W0 (lv_sub hl [1, 0] rfl) h
theorem tX10_init_l501 {p : Program} {l : Launch} {e : Env} {s : State} {m : MethodId} {args : Array Value} {below : List Frame} {meth : Method} {c : Code} {G : XG} {X0 : XW} (C0 : XC p s m args meth c RX10 cX10_init 2 G) (hret : meth.sig.returnType = none) (hin : meth.name = "<init>") {r : XW} {l0 : Nat} {Q : State → Prop} (hK : ∀ {H : Heap} {locs : List Loc} {ls : Array Slot}, XD G X0 r s H locs → lv_has ls 2 [] → W p l e { frames := 1, cells := 41, slots := 18495, locals := 60 } s m args below meth c H locs 41 18495 Q (F0 m 521 ls [])) : ∀ (n : Nat) {y1 : Int32} {X : XW} {H : Heap} {locs : List Loc} {ls : Array Slot}, XD G X0 X s H locs → lv_has ls 2 [(0, .ref l0), (1, .int y1)] → fX10_init_l501 l0 n y1 X = some r → W p l e { frames := 1, cells := 41, slots := 18495, locals := 60 } s m args below meth c H locs 41 18495 Q (F0 m 501 ls []) := by
  intro n
  induction n with
  | zero =>
    intro y1 X H locs ls W0 hl h
    cases h
  | succ n ih =>
    intro y1 X H locs ls W0 hl h
    exact tX10_init_l501_b C0 hret hin (rec := fX10_init_l501 l0 n) (fun W0 hl h => ih W0 hl h) hK W0 hl h
theorem ctX10_init (l : Launch) (G : XG) {l0 : Nat} {X : XW} {r : XW}  (h : fX10_init l0 X = some r) : XM l G yX10_init cX10_init 2 none 1 60 41 18495 [.ref l0] X (none, r) := by
  refine xm_of (own := RX10) (by decide) rfl (Nat.le_of_ble_eq_true rfl) ?_
  intro p e s m below meth c ls C0 W0 hret hin hl
  have hx := C0.1
  have hb := C0.2.1
  have hl : lv_has ls 2 [(0, .ref l0)] := hl
  unfold fX10_init at h
  refine lv_aload_n hx hb dX10_init_0 rfl (lv_at hl 0 rfl) ?_
  refine W.objInit hx hb C0.2.2.2.1 (C0.2.2.2.2.1 _ (xws_t 824 (by decide +kernel) rfl)) (C0.2.2.2.2.1 _ xoi1) (C0.2.2.2.2.1 _ xoi2) rfl (by rw [C0.2.2.1]; exact hl.1) rfl dX10_init_1 (by decide) (Nat.le_of_ble_eq_true rfl) ?_
  refine W.eq (g2 := F0 m 4 ls []) rfl ?_
  refine lv_aload_n hx hb dX10_init_4 rfl (lv_at hl 0 rfl) ?_
  refine lv_sipush (v := 1000) hx hb dX10_init_5 (by decide) ?_
  obtain ⟨r1, h2, h⟩ := ob h
  refine xr_newa (atype := .int) C0 W0 1 1000 rfl (by decide) (by decide) rfl ka_int (fun N => nw_int) (by decide) h2 (by decide) (by decide) dX10_init_8 (fun H W0 => ?_)
  refine W.cs (cells' := 1) (slots' := 1000) rfl rfl ?_
  obtain ⟨X3, h4, h⟩ := ob h
  refine xr_putR C0 W0 cl_X10 1 (by decide) fl_X10_14 (Or.inr ⟨rfl, hin, rfl⟩) rfl ⟨rfl, rfl⟩ (by decide) h4 dX10_init_10 (fun H locs W0 => ?_)
  refine lv_aload_n hx hb dX10_init_13 rfl (lv_at hl 0 rfl) ?_
  refine lv_sipush (v := 1002) hx hb dX10_init_14 (by decide) ?_
  obtain ⟨r5, h6, h⟩ := ob h
  refine xr_newa (atype := .int) C0 W0 1 1002 rfl (by decide) (by decide) rfl ka_int (fun N => nw_int) (by decide) h6 (by decide) (by decide) dX10_init_17 (fun H W0 => ?_)
  refine W.cs (cells' := 2) (slots' := 2002) rfl rfl ?_
  obtain ⟨X7, h8, h⟩ := ob h
  refine xr_putR C0 W0 cl_X10 4 (by decide) fl_X10_24 (Or.inr ⟨rfl, hin, rfl⟩) rfl ⟨rfl, rfl⟩ (by decide) h8 dX10_init_19 (fun H locs W0 => ?_)
  refine lv_aload_n hx hb dX10_init_22 rfl (lv_at hl 0 rfl) ?_
  refine lv_sipush (v := 1002) hx hb dX10_init_23 (by decide) ?_
  obtain ⟨r9, h10, h⟩ := ob h
  refine xr_newa (atype := .int) C0 W0 1 1002 rfl (by decide) (by decide) rfl ka_int (fun N => nw_int) (by decide) h10 (by decide) (by decide) dX10_init_26 (fun H W0 => ?_)
  refine W.cs (cells' := 3) (slots' := 3004) rfl rfl ?_
  obtain ⟨X11, h12, h⟩ := ob h
  refine xr_putR C0 W0 cl_X10 5 (by decide) fl_X10_27 (Or.inr ⟨rfl, hin, rfl⟩) rfl ⟨rfl, rfl⟩ (by decide) h12 dX10_init_28 (fun H locs W0 => ?_)
  refine lv_aload_n hx hb dX10_init_31 rfl (lv_at hl 0 rfl) ?_
  refine lv_sipush (v := 1002) hx hb dX10_init_32 (by decide) ?_
  obtain ⟨r13, h14, h⟩ := ob h
  refine xr_newa (atype := .long) C0 W0 2 1002 rfl (by decide) (by decide) rfl ka_long (fun N => nw_long) (by decide) h14 (by decide) (by decide) dX10_init_35 (fun H W0 => ?_)
  refine W.cs (cells' := 4) (slots' := 4006) rfl rfl ?_
  obtain ⟨X15, h16, h⟩ := ob h
  refine xr_putR C0 W0 cl_X10 6 (by decide) fl_X10_30 (Or.inr ⟨rfl, hin, rfl⟩) rfl ⟨rfl, rfl⟩ (by decide) h16 dX10_init_37 (fun H locs W0 => ?_)
  refine lv_aload_n hx hb dX10_init_40 rfl (lv_at hl 0 rfl) ?_
  refine lv_bipush (v := 17) hx hb dX10_init_41 (by decide) ?_
  obtain ⟨r17, h18, h⟩ := ob h
  refine xr_newa (atype := .long) C0 W0 2 17 rfl (by decide) (by decide) rfl ka_long (fun N => nw_long) (by decide) h18 (by decide) (by decide) dX10_init_43 (fun H W0 => ?_)
  refine W.cs (cells' := 5) (slots' := 4023) rfl rfl ?_
  refine lv_dup hx hb dX10_init_45 rfl ?_
  refine lv_iconst (v := 0) hx hb dX10_init_46 (by decide) ?_
  refine lv_ldc2 hx hb C0.2.2.2.1 (C0.2.2.2.2.1 _ kj_X10_34) dX10_init_47 ?_
  obtain ⟨X19, h20, h⟩ := ob h
  refine xr_last C0 W0 h20 dX10_init_50 (fun H locs W0 => ?_)
  refine lv_dup hx hb dX10_init_51 rfl ?_
  refine lv_iconst (v := 1) hx hb dX10_init_52 (by decide) ?_
  refine lv_ldc2 hx hb C0.2.2.2.1 (C0.2.2.2.2.1 _ kj_X10_36) dX10_init_53 ?_
  obtain ⟨X21, h22, h⟩ := ob h
  refine xr_last C0 W0 h22 dX10_init_56 (fun H locs W0 => ?_)
  refine lv_dup hx hb dX10_init_57 rfl ?_
  refine lv_iconst (v := 2) hx hb dX10_init_58 (by decide) ?_
  refine lv_ldc2 hx hb C0.2.2.2.1 (C0.2.2.2.2.1 _ kj_X10_38) dX10_init_59 ?_
  obtain ⟨X23, h24, h⟩ := ob h
  refine xr_last C0 W0 h24 dX10_init_62 (fun H locs W0 => ?_)
  refine lv_dup hx hb dX10_init_63 rfl ?_
  refine lv_iconst (v := 3) hx hb dX10_init_64 (by decide) ?_
  refine lv_ldc2 hx hb C0.2.2.2.1 (C0.2.2.2.2.1 _ kj_X10_40) dX10_init_65 ?_
  obtain ⟨X25, h26, h⟩ := ob h
  refine xr_last C0 W0 h26 dX10_init_68 (fun H locs W0 => ?_)
  refine lv_dup hx hb dX10_init_69 rfl ?_
  refine lv_iconst (v := 4) hx hb dX10_init_70 (by decide) ?_
  refine lv_ldc2 hx hb C0.2.2.2.1 (C0.2.2.2.2.1 _ kj_X10_42) dX10_init_71 ?_
  obtain ⟨X27, h28, h⟩ := ob h
  refine xr_last C0 W0 h28 dX10_init_74 (fun H locs W0 => ?_)
  refine lv_dup hx hb dX10_init_75 rfl ?_
  refine lv_iconst (v := 5) hx hb dX10_init_76 (by decide) ?_
  refine lv_ldc2 hx hb C0.2.2.2.1 (C0.2.2.2.2.1 _ kj_X10_44) dX10_init_77 ?_
  obtain ⟨X29, h30, h⟩ := ob h
  refine xr_last C0 W0 h30 dX10_init_80 (fun H locs W0 => ?_)
  refine lv_dup hx hb dX10_init_81 rfl ?_
  refine lv_bipush (v := 6) hx hb dX10_init_82 (by decide) ?_
  refine lv_ldc2 hx hb C0.2.2.2.1 (C0.2.2.2.2.1 _ kj_X10_46) dX10_init_84 ?_
  obtain ⟨X31, h32, h⟩ := ob h
  refine xr_last C0 W0 h32 dX10_init_87 (fun H locs W0 => ?_)
  refine lv_dup hx hb dX10_init_88 rfl ?_
  refine lv_bipush (v := 7) hx hb dX10_init_89 (by decide) ?_
  refine lv_ldc2 hx hb C0.2.2.2.1 (C0.2.2.2.2.1 _ kj_X10_48) dX10_init_91 ?_
  obtain ⟨X33, h34, h⟩ := ob h
  refine xr_last C0 W0 h34 dX10_init_94 (fun H locs W0 => ?_)
  refine lv_dup hx hb dX10_init_95 rfl ?_
  refine lv_bipush (v := 8) hx hb dX10_init_96 (by decide) ?_
  refine lv_ldc2 hx hb C0.2.2.2.1 (C0.2.2.2.2.1 _ kj_X10_50) dX10_init_98 ?_
  obtain ⟨X35, h36, h⟩ := ob h
  refine xr_last C0 W0 h36 dX10_init_101 (fun H locs W0 => ?_)
  refine lv_dup hx hb dX10_init_102 rfl ?_
  refine lv_bipush (v := 9) hx hb dX10_init_103 (by decide) ?_
  refine lv_ldc2 hx hb C0.2.2.2.1 (C0.2.2.2.2.1 _ kj_X10_52) dX10_init_105 ?_
  obtain ⟨X37, h38, h⟩ := ob h
  refine xr_last C0 W0 h38 dX10_init_108 (fun H locs W0 => ?_)
  refine lv_dup hx hb dX10_init_109 rfl ?_
  refine lv_bipush (v := 10) hx hb dX10_init_110 (by decide) ?_
  refine lv_ldc2 hx hb C0.2.2.2.1 (C0.2.2.2.2.1 _ kj_X10_54) dX10_init_112 ?_
  obtain ⟨X39, h40, h⟩ := ob h
  refine xr_last C0 W0 h40 dX10_init_115 (fun H locs W0 => ?_)
  refine lv_dup hx hb dX10_init_116 rfl ?_
  refine lv_bipush (v := 11) hx hb dX10_init_117 (by decide) ?_
  refine lv_ldc2 hx hb C0.2.2.2.1 (C0.2.2.2.2.1 _ kj_X10_56) dX10_init_119 ?_
  obtain ⟨X41, h42, h⟩ := ob h
  refine xr_last C0 W0 h42 dX10_init_122 (fun H locs W0 => ?_)
  refine lv_dup hx hb dX10_init_123 rfl ?_
  refine lv_bipush (v := 12) hx hb dX10_init_124 (by decide) ?_
  refine lv_ldc2 hx hb C0.2.2.2.1 (C0.2.2.2.2.1 _ kj_X10_58) dX10_init_126 ?_
  obtain ⟨X43, h44, h⟩ := ob h
  refine xr_last C0 W0 h44 dX10_init_129 (fun H locs W0 => ?_)
  refine lv_dup hx hb dX10_init_130 rfl ?_
  refine lv_bipush (v := 13) hx hb dX10_init_131 (by decide) ?_
  refine lv_ldc2 hx hb C0.2.2.2.1 (C0.2.2.2.2.1 _ kj_X10_60) dX10_init_133 ?_
  obtain ⟨X45, h46, h⟩ := ob h
  refine xr_last C0 W0 h46 dX10_init_136 (fun H locs W0 => ?_)
  refine lv_dup hx hb dX10_init_137 rfl ?_
  refine lv_bipush (v := 14) hx hb dX10_init_138 (by decide) ?_
  refine lv_ldc2 hx hb C0.2.2.2.1 (C0.2.2.2.2.1 _ kj_X10_62) dX10_init_140 ?_
  obtain ⟨X47, h48, h⟩ := ob h
  refine xr_last C0 W0 h48 dX10_init_143 (fun H locs W0 => ?_)
  refine lv_dup hx hb dX10_init_144 rfl ?_
  refine lv_bipush (v := 15) hx hb dX10_init_145 (by decide) ?_
  refine lv_ldc2 hx hb C0.2.2.2.1 (C0.2.2.2.2.1 _ kj_X10_64) dX10_init_147 ?_
  obtain ⟨X49, h50, h⟩ := ob h
  refine xr_last C0 W0 h50 dX10_init_150 (fun H locs W0 => ?_)
  refine lv_dup hx hb dX10_init_151 rfl ?_
  refine lv_bipush (v := 16) hx hb dX10_init_152 (by decide) ?_
  refine lv_ldc2 hx hb C0.2.2.2.1 (C0.2.2.2.2.1 _ kj_X10_66) dX10_init_154 ?_
  obtain ⟨X51, h52, h⟩ := ob h
  refine xr_last C0 W0 h52 dX10_init_157 (fun H locs W0 => ?_)
  obtain ⟨X53, h54, h⟩ := ob h
  refine xr_putR C0 W0 cl_X10 9 (by decide) fl_X10_68 (Or.inr ⟨rfl, hin, rfl⟩) rfl ⟨rfl, rfl⟩ (by decide) h54 dX10_init_158 (fun H locs W0 => ?_)
  refine lv_aload_n hx hb dX10_init_161 rfl (lv_at hl 0 rfl) ?_
  refine lv_iconst (v := 4) hx hb dX10_init_162 (by decide) ?_
  obtain ⟨r55, h56, h⟩ := ob h
  refine xr_newa (atype := .int) C0 W0 1 4 rfl (by decide) (by decide) rfl ka_int (fun N => nw_int) (by decide) h56 (by decide) (by decide) dX10_init_163 (fun H W0 => ?_)
  refine W.cs (cells' := 6) (slots' := 4027) rfl rfl ?_
  obtain ⟨X57, h58, h⟩ := ob h
  refine xr_putR C0 W0 cl_X10 11 (by decide) fl_X10_71 (Or.inr ⟨rfl, hin, rfl⟩) rfl ⟨rfl, rfl⟩ (by decide) h58 dX10_init_165 (fun H locs W0 => ?_)
  refine lv_aload_n hx hb dX10_init_168 rfl (lv_at hl 0 rfl) ?_
  refine lv_iconst (v := 4) hx hb dX10_init_169 (by decide) ?_
  obtain ⟨r59, h60, h⟩ := ob h
  refine xr_newa (atype := .int) C0 W0 1 4 rfl (by decide) (by decide) rfl ka_int (fun N => nw_int) (by decide) h60 (by decide) (by decide) dX10_init_170 (fun H W0 => ?_)
  refine W.cs (cells' := 7) (slots' := 4031) rfl rfl ?_
  obtain ⟨X61, h62, h⟩ := ob h
  refine xr_putR C0 W0 cl_X10 12 (by decide) fl_X10_74 (Or.inr ⟨rfl, hin, rfl⟩) rfl ⟨rfl, rfl⟩ (by decide) h62 dX10_init_172 (fun H locs W0 => ?_)
  refine lv_aload_n hx hb dX10_init_175 rfl (lv_at hl 0 rfl) ?_
  refine lv_iconst (v := 4) hx hb dX10_init_176 (by decide) ?_
  obtain ⟨r63, h64, h⟩ := ob h
  refine xr_newa (atype := .int) C0 W0 1 4 rfl (by decide) (by decide) rfl ka_int (fun N => nw_int) (by decide) h64 (by decide) (by decide) dX10_init_177 (fun H W0 => ?_)
  refine W.cs (cells' := 8) (slots' := 4035) rfl rfl ?_
  obtain ⟨X65, h66, h⟩ := ob h
  refine xr_putR C0 W0 cl_X10 13 (by decide) fl_X10_77 (Or.inr ⟨rfl, hin, rfl⟩) rfl ⟨rfl, rfl⟩ (by decide) h66 dX10_init_179 (fun H locs W0 => ?_)
  refine lv_aload_n hx hb dX10_init_182 rfl (lv_at hl 0 rfl) ?_
  refine lv_iconst (v := 5) hx hb dX10_init_183 (by decide) ?_
  obtain ⟨r67, h68, h⟩ := ob h
  refine xr_newa (atype := .int) C0 W0 1 5 rfl (by decide) (by decide) rfl ka_int (fun N => nw_int) (by decide) h68 (by decide) (by decide) dX10_init_184 (fun H W0 => ?_)
  refine W.cs (cells' := 9) (slots' := 4040) rfl rfl ?_
  obtain ⟨X69, h70, h⟩ := ob h
  refine xr_putR C0 W0 cl_X10 14 (by decide) fl_X10_80 (Or.inr ⟨rfl, hin, rfl⟩) rfl ⟨rfl, rfl⟩ (by decide) h70 dX10_init_186 (fun H locs W0 => ?_)
  refine lv_aload_n hx hb dX10_init_189 rfl (lv_at hl 0 rfl) ?_
  refine lv_bipush (v := 120) hx hb dX10_init_190 (by decide) ?_
  obtain ⟨r71, h72, h⟩ := ob h
  refine xr_newa (atype := .boolean) C0 W0 3 120 rfl (by decide) (by decide) rfl ka_boolean (fun N => nw_boolean) (by decide) h72 (by decide) (by decide) dX10_init_192 (fun H W0 => ?_)
  refine W.cs (cells' := 10) (slots' := 4160) rfl rfl ?_
  obtain ⟨X73, h74, h⟩ := ob h
  refine xr_putR C0 W0 cl_X10 15 (by decide) fl_X10_83 (Or.inr ⟨rfl, hin, rfl⟩) rfl ⟨rfl, rfl⟩ (by decide) h74 dX10_init_194 (fun H locs W0 => ?_)
  refine lv_aload_n hx hb dX10_init_197 rfl (lv_at hl 0 rfl) ?_
  refine lv_bipush (v := 120) hx hb dX10_init_198 (by decide) ?_
  obtain ⟨r75, h76, h⟩ := ob h
  refine xr_newa (atype := .int) C0 W0 1 120 rfl (by decide) (by decide) rfl ka_int (fun N => nw_int) (by decide) h76 (by decide) (by decide) dX10_init_200 (fun H W0 => ?_)
  refine W.cs (cells' := 11) (slots' := 4280) rfl rfl ?_
  obtain ⟨X77, h78, h⟩ := ob h
  refine xr_putR C0 W0 cl_X10 16 (by decide) fl_X10_87 (Or.inr ⟨rfl, hin, rfl⟩) rfl ⟨rfl, rfl⟩ (by decide) h78 dX10_init_202 (fun H locs W0 => ?_)
  refine lv_aload_n hx hb dX10_init_205 rfl (lv_at hl 0 rfl) ?_
  refine lv_bipush (v := 120) hx hb dX10_init_206 (by decide) ?_
  obtain ⟨r79, h80, h⟩ := ob h
  refine xr_newa (atype := .int) C0 W0 1 120 rfl (by decide) (by decide) rfl ka_int (fun N => nw_int) (by decide) h80 (by decide) (by decide) dX10_init_208 (fun H W0 => ?_)
  refine W.cs (cells' := 12) (slots' := 4400) rfl rfl ?_
  obtain ⟨X81, h82, h⟩ := ob h
  refine xr_putR C0 W0 cl_X10 17 (by decide) fl_X10_90 (Or.inr ⟨rfl, hin, rfl⟩) rfl ⟨rfl, rfl⟩ (by decide) h82 dX10_init_210 (fun H locs W0 => ?_)
  refine lv_aload_n hx hb dX10_init_213 rfl (lv_at hl 0 rfl) ?_
  refine lv_bipush (v := 120) hx hb dX10_init_214 (by decide) ?_
  obtain ⟨r83, h84, h⟩ := ob h
  refine xr_newa (atype := .int) C0 W0 1 120 rfl (by decide) (by decide) rfl ka_int (fun N => nw_int) (by decide) h84 (by decide) (by decide) dX10_init_216 (fun H W0 => ?_)
  refine W.cs (cells' := 13) (slots' := 4520) rfl rfl ?_
  obtain ⟨X85, h86, h⟩ := ob h
  refine xr_putR C0 W0 cl_X10 18 (by decide) fl_X10_93 (Or.inr ⟨rfl, hin, rfl⟩) rfl ⟨rfl, rfl⟩ (by decide) h86 dX10_init_218 (fun H locs W0 => ?_)
  refine lv_aload_n hx hb dX10_init_221 rfl (lv_at hl 0 rfl) ?_
  refine lv_sipush (v := 5300) hx hb dX10_init_222 (by decide) ?_
  obtain ⟨r87, h88, h⟩ := ob h
  refine xr_newa (atype := .int) C0 W0 1 5300 rfl (by decide) (by decide) rfl ka_int (fun N => nw_int) (by decide) h88 (by decide) (by decide) dX10_init_225 (fun H W0 => ?_)
  refine W.cs (cells' := 14) (slots' := 9820) rfl rfl ?_
  obtain ⟨X89, h90, h⟩ := ob h
  refine xr_putR C0 W0 cl_X10 19 (by decide) fl_X10_96 (Or.inr ⟨rfl, hin, rfl⟩) rfl ⟨rfl, rfl⟩ (by decide) h90 dX10_init_227 (fun H locs W0 => ?_)
  refine lv_aload_n hx hb dX10_init_230 rfl (lv_at hl 0 rfl) ?_
  refine lv_sipush (v := 5300) hx hb dX10_init_231 (by decide) ?_
  obtain ⟨r91, h92, h⟩ := ob h
  refine xr_newa (atype := .int) C0 W0 1 5300 rfl (by decide) (by decide) rfl ka_int (fun N => nw_int) (by decide) h92 (by decide) (by decide) dX10_init_234 (fun H W0 => ?_)
  refine W.cs (cells' := 15) (slots' := 15120) rfl rfl ?_
  obtain ⟨X93, h94, h⟩ := ob h
  refine xr_putR C0 W0 cl_X10 20 (by decide) fl_X10_99 (Or.inr ⟨rfl, hin, rfl⟩) rfl ⟨rfl, rfl⟩ (by decide) h94 dX10_init_236 (fun H locs W0 => ?_)
  refine lv_aload_n hx hb dX10_init_239 rfl (lv_at hl 0 rfl) ?_
  refine lv_bipush (v := 7) hx hb dX10_init_240 (by decide) ?_
  obtain ⟨r95, h96, h⟩ := ob h
  refine xr_newa (atype := .int) C0 W0 1 7 rfl (by decide) (by decide) rfl ka_int (fun N => nw_int) (by decide) h96 (by decide) (by decide) dX10_init_242 (fun H W0 => ?_)
  refine W.cs (cells' := 16) (slots' := 15127) rfl rfl ?_
  obtain ⟨X97, h98, h⟩ := ob h
  refine xr_putR C0 W0 cl_X10 23 (by decide) fl_X10_102 (Or.inr ⟨rfl, hin, rfl⟩) rfl ⟨rfl, rfl⟩ (by decide) h98 dX10_init_244 (fun H locs W0 => ?_)
  refine lv_aload_n hx hb dX10_init_247 rfl (lv_at hl 0 rfl) ?_
  refine lv_bipush (v := 7) hx hb dX10_init_248 (by decide) ?_
  obtain ⟨r99, h100, h⟩ := ob h
  refine xr_newa (atype := .int) C0 W0 1 7 rfl (by decide) (by decide) rfl ka_int (fun N => nw_int) (by decide) h100 (by decide) (by decide) dX10_init_250 (fun H W0 => ?_)
  refine W.cs (cells' := 17) (slots' := 15134) rfl rfl ?_
  obtain ⟨X101, h102, h⟩ := ob h
  refine xr_putR C0 W0 cl_X10 24 (by decide) fl_X10_105 (Or.inr ⟨rfl, hin, rfl⟩) rfl ⟨rfl, rfl⟩ (by decide) h102 dX10_init_252 (fun H locs W0 => ?_)
  refine lv_aload_n hx hb dX10_init_255 rfl (lv_at hl 0 rfl) ?_
  refine lv_bipush (v := 7) hx hb dX10_init_256 (by decide) ?_
  obtain ⟨r103, h104, h⟩ := ob h
  refine xr_newa (atype := .int) C0 W0 1 7 rfl (by decide) (by decide) rfl ka_int (fun N => nw_int) (by decide) h104 (by decide) (by decide) dX10_init_258 (fun H W0 => ?_)
  refine W.cs (cells' := 18) (slots' := 15141) rfl rfl ?_
  obtain ⟨X105, h106, h⟩ := ob h
  refine xr_putR C0 W0 cl_X10 25 (by decide) fl_X10_108 (Or.inr ⟨rfl, hin, rfl⟩) rfl ⟨rfl, rfl⟩ (by decide) h106 dX10_init_260 (fun H locs W0 => ?_)
  refine lv_aload_n hx hb dX10_init_263 rfl (lv_at hl 0 rfl) ?_
  refine lv_bipush (v := 13) hx hb dX10_init_264 (by decide) ?_
  obtain ⟨r107, h108, h⟩ := ob h
  refine xr_newa (atype := .int) C0 W0 1 13 rfl (by decide) (by decide) rfl ka_int (fun N => nw_int) (by decide) h108 (by decide) (by decide) dX10_init_266 (fun H W0 => ?_)
  refine W.cs (cells' := 19) (slots' := 15154) rfl rfl ?_
  obtain ⟨X109, h110, h⟩ := ob h
  refine xr_putR C0 W0 cl_X10 26 (by decide) fl_X10_111 (Or.inr ⟨rfl, hin, rfl⟩) rfl ⟨rfl, rfl⟩ (by decide) h110 dX10_init_268 (fun H locs W0 => ?_)
  refine lv_aload_n hx hb dX10_init_271 rfl (lv_at hl 0 rfl) ?_
  refine lv_sipush (v := 1060) hx hb dX10_init_272 (by decide) ?_
  obtain ⟨r111, h112, h⟩ := ob h
  refine xr_newa (atype := .int) C0 W0 1 1060 rfl (by decide) (by decide) rfl ka_int (fun N => nw_int) (by decide) h112 (by decide) (by decide) dX10_init_275 (fun H W0 => ?_)
  refine W.cs (cells' := 20) (slots' := 16214) rfl rfl ?_
  obtain ⟨X113, h114, h⟩ := ob h
  refine xr_putR C0 W0 cl_X10 27 (by decide) fl_X10_114 (Or.inr ⟨rfl, hin, rfl⟩) rfl ⟨rfl, rfl⟩ (by decide) h114 dX10_init_277 (fun H locs W0 => ?_)
  refine lv_aload_n hx hb dX10_init_280 rfl (lv_at hl 0 rfl) ?_
  refine lv_iconst (v := 1) hx hb dX10_init_281 (by decide) ?_
  obtain ⟨X115, h116, h⟩ := ob h
  refine xr_putI C0 W0 cl_X10 28 (by decide) fl_X10_117 rfl rfl rfl (by decide) h116 dX10_init_282 (fun H locs W0 => ?_)
  refine lv_aload_n hx hb dX10_init_285 rfl (lv_at hl 0 rfl) ?_
  refine lv_iconst (v := 4) hx hb dX10_init_286 (by decide) ?_
  obtain ⟨r117, h118, h⟩ := ob h
  refine xr_newa (atype := .int) C0 W0 1 4 rfl (by decide) (by decide) rfl ka_int (fun N => nw_int) (by decide) h118 (by decide) (by decide) dX10_init_287 (fun H W0 => ?_)
  refine W.cs (cells' := 21) (slots' := 16218) rfl rfl ?_
  obtain ⟨X119, h120, h⟩ := ob h
  refine xr_putR C0 W0 cl_X10 30 (by decide) fl_X10_120 (Or.inr ⟨rfl, hin, rfl⟩) rfl ⟨rfl, rfl⟩ (by decide) h120 dX10_init_289 (fun H locs W0 => ?_)
  refine lv_aload_n hx hb dX10_init_292 rfl (lv_at hl 0 rfl) ?_
  refine lv_bipush (v := 64) hx hb dX10_init_293 (by decide) ?_
  obtain ⟨r121, h122, h⟩ := ob h
  refine xr_newa (atype := .int) C0 W0 1 64 rfl (by decide) (by decide) rfl ka_int (fun N => nw_int) (by decide) h122 (by decide) (by decide) dX10_init_295 (fun H W0 => ?_)
  refine W.cs (cells' := 22) (slots' := 16282) rfl rfl ?_
  obtain ⟨X123, h124, h⟩ := ob h
  refine xr_putR C0 W0 cl_X10 31 (by decide) fl_X10_123 (Or.inr ⟨rfl, hin, rfl⟩) rfl ⟨rfl, rfl⟩ (by decide) h124 dX10_init_297 (fun H locs W0 => ?_)
  refine lv_aload_n hx hb dX10_init_300 rfl (lv_at hl 0 rfl) ?_
  refine lv_bipush (v := 64) hx hb dX10_init_301 (by decide) ?_
  obtain ⟨r125, h126, h⟩ := ob h
  refine xr_newa (atype := .int) C0 W0 1 64 rfl (by decide) (by decide) rfl ka_int (fun N => nw_int) (by decide) h126 (by decide) (by decide) dX10_init_303 (fun H W0 => ?_)
  refine W.cs (cells' := 23) (slots' := 16346) rfl rfl ?_
  obtain ⟨X127, h128, h⟩ := ob h
  refine xr_putR C0 W0 cl_X10 32 (by decide) fl_X10_126 (Or.inr ⟨rfl, hin, rfl⟩) rfl ⟨rfl, rfl⟩ (by decide) h128 dX10_init_305 (fun H locs W0 => ?_)
  refine lv_aload_n hx hb dX10_init_308 rfl (lv_at hl 0 rfl) ?_
  refine lv_bipush (v := 64) hx hb dX10_init_309 (by decide) ?_
  obtain ⟨r129, h130, h⟩ := ob h
  refine xr_newa (atype := .int) C0 W0 1 64 rfl (by decide) (by decide) rfl ka_int (fun N => nw_int) (by decide) h130 (by decide) (by decide) dX10_init_311 (fun H W0 => ?_)
  refine W.cs (cells' := 24) (slots' := 16410) rfl rfl ?_
  obtain ⟨X131, h132, h⟩ := ob h
  refine xr_putR C0 W0 cl_X10 33 (by decide) fl_X10_129 (Or.inr ⟨rfl, hin, rfl⟩) rfl ⟨rfl, rfl⟩ (by decide) h132 dX10_init_313 (fun H locs W0 => ?_)
  refine lv_aload_n hx hb dX10_init_316 rfl (lv_at hl 0 rfl) ?_
  refine lv_bipush (v := 64) hx hb dX10_init_317 (by decide) ?_
  obtain ⟨r133, h134, h⟩ := ob h
  refine xr_newa (atype := .boolean) C0 W0 3 64 rfl (by decide) (by decide) rfl ka_boolean (fun N => nw_boolean) (by decide) h134 (by decide) (by decide) dX10_init_319 (fun H W0 => ?_)
  refine W.cs (cells' := 25) (slots' := 16474) rfl rfl ?_
  obtain ⟨X135, h136, h⟩ := ob h
  refine xr_putR C0 W0 cl_X10 34 (by decide) fl_X10_132 (Or.inr ⟨rfl, hin, rfl⟩) rfl ⟨rfl, rfl⟩ (by decide) h136 dX10_init_321 (fun H locs W0 => ?_)
  refine lv_aload_n hx hb dX10_init_324 rfl (lv_at hl 0 rfl) ?_
  refine lv_bipush (v := 64) hx hb dX10_init_325 (by decide) ?_
  obtain ⟨r137, h138, h⟩ := ob h
  refine xr_newa (atype := .boolean) C0 W0 3 64 rfl (by decide) (by decide) rfl ka_boolean (fun N => nw_boolean) (by decide) h138 (by decide) (by decide) dX10_init_327 (fun H W0 => ?_)
  refine W.cs (cells' := 26) (slots' := 16538) rfl rfl ?_
  obtain ⟨X139, h140, h⟩ := ob h
  refine xr_putR C0 W0 cl_X10 35 (by decide) fl_X10_135 (Or.inr ⟨rfl, hin, rfl⟩) rfl ⟨rfl, rfl⟩ (by decide) h140 dX10_init_329 (fun H locs W0 => ?_)
  refine lv_aload_n hx hb dX10_init_332 rfl (lv_at hl 0 rfl) ?_
  refine lv_iconst (v := 4) hx hb dX10_init_333 (by decide) ?_
  obtain ⟨r141, h142, h⟩ := ob h
  refine xr_newa (atype := .int) C0 W0 1 4 rfl (by decide) (by decide) rfl ka_int (fun N => nw_int) (by decide) h142 (by decide) (by decide) dX10_init_334 (fun H W0 => ?_)
  refine W.cs (cells' := 27) (slots' := 16542) rfl rfl ?_
  obtain ⟨X143, h144, h⟩ := ob h
  refine xr_putR C0 W0 cl_X10 36 (by decide) fl_X10_138 (Or.inr ⟨rfl, hin, rfl⟩) rfl ⟨rfl, rfl⟩ (by decide) h144 dX10_init_336 (fun H locs W0 => ?_)
  refine lv_aload_n hx hb dX10_init_339 rfl (lv_at hl 0 rfl) ?_
  refine lv_sipush (v := 960) hx hb dX10_init_340 (by decide) ?_
  obtain ⟨r145, h146, h⟩ := ob h
  refine xr_newa (atype := .int) C0 W0 1 960 rfl (by decide) (by decide) rfl ka_int (fun N => nw_int) (by decide) h146 (by decide) (by decide) dX10_init_343 (fun H W0 => ?_)
  refine W.cs (cells' := 28) (slots' := 17502) rfl rfl ?_
  obtain ⟨X147, h148, h⟩ := ob h
  refine xr_putR C0 W0 cl_X10 37 (by decide) fl_X10_141 (Or.inr ⟨rfl, hin, rfl⟩) rfl ⟨rfl, rfl⟩ (by decide) h148 dX10_init_345 (fun H locs W0 => ?_)
  refine lv_aload_n hx hb dX10_init_348 rfl (lv_at hl 0 rfl) ?_
  refine lv_bipush (v := 6) hx hb dX10_init_349 (by decide) ?_
  obtain ⟨X149, h150, h⟩ := ob h
  refine xr_putI C0 W0 cl_X10 38 (by decide) fl_X10_144 rfl rfl rfl (by decide) h150 dX10_init_351 (fun H locs W0 => ?_)
  refine lv_aload_n hx hb dX10_init_354 rfl (lv_at hl 0 rfl) ?_
  refine lv_iconst (v := 1) hx hb dX10_init_355 (by decide) ?_
  obtain ⟨X151, h152, h⟩ := ob h
  refine xr_putI C0 W0 cl_X10 39 (by decide) fl_X10_147 rfl rfl rfl (by decide) h152 dX10_init_356 (fun H locs W0 => ?_)
  refine lv_aload_n hx hb dX10_init_359 rfl (lv_at hl 0 rfl) ?_
  refine lv_iconst (v := 1) hx hb dX10_init_360 (by decide) ?_
  obtain ⟨X153, h154, h⟩ := ob h
  refine xr_putI C0 W0 cl_X10 40 (by decide) fl_X10_150 rfl rfl rfl (by decide) h154 dX10_init_361 (fun H locs W0 => ?_)
  refine lv_aload_n hx hb dX10_init_364 rfl (lv_at hl 0 rfl) ?_
  refine lv_bipush (v := 17) hx hb dX10_init_365 (by decide) ?_
  obtain ⟨r155, h156, h⟩ := ob h
  refine xr_newa (atype := .int) C0 W0 1 17 rfl (by decide) (by decide) rfl ka_int (fun N => nw_int) (by decide) h156 (by decide) (by decide) dX10_init_367 (fun H W0 => ?_)
  refine W.cs (cells' := 29) (slots' := 17519) rfl rfl ?_
  obtain ⟨X157, h158, h⟩ := ob h
  refine xr_putR C0 W0 cl_X10 41 (by decide) fl_X10_153 (Or.inr ⟨rfl, hin, rfl⟩) rfl ⟨rfl, rfl⟩ (by decide) h158 dX10_init_369 (fun H locs W0 => ?_)
  refine lv_aload_n hx hb dX10_init_372 rfl (lv_at hl 0 rfl) ?_
  refine lv_bipush (v := 16) hx hb dX10_init_373 (by decide) ?_
  obtain ⟨r159, h160, h⟩ := ob h
  refine xr_newa (atype := .int) C0 W0 1 16 rfl (by decide) (by decide) rfl ka_int (fun N => nw_int) (by decide) h160 (by decide) (by decide) dX10_init_375 (fun H W0 => ?_)
  refine W.cs (cells' := 30) (slots' := 17535) rfl rfl ?_
  obtain ⟨X161, h162, h⟩ := ob h
  refine xr_putR C0 W0 cl_X10 43 (by decide) fl_X10_156 (Or.inr ⟨rfl, hin, rfl⟩) rfl ⟨rfl, rfl⟩ (by decide) h162 dX10_init_377 (fun H locs W0 => ?_)
  refine lv_aload_n hx hb dX10_init_380 rfl (lv_at hl 0 rfl) ?_
  refine lv_bipush (v := 16) hx hb dX10_init_381 (by decide) ?_
  obtain ⟨r163, h164, h⟩ := ob h
  refine xr_newa (atype := .int) C0 W0 1 16 rfl (by decide) (by decide) rfl ka_int (fun N => nw_int) (by decide) h164 (by decide) (by decide) dX10_init_383 (fun H W0 => ?_)
  refine W.cs (cells' := 31) (slots' := 17551) rfl rfl ?_
  obtain ⟨X165, h166, h⟩ := ob h
  refine xr_putR C0 W0 cl_X10 44 (by decide) fl_X10_159 (Or.inr ⟨rfl, hin, rfl⟩) rfl ⟨rfl, rfl⟩ (by decide) h166 dX10_init_385 (fun H locs W0 => ?_)
  refine lv_aload_n hx hb dX10_init_388 rfl (lv_at hl 0 rfl) ?_
  refine lv_bipush (v := 16) hx hb dX10_init_389 (by decide) ?_
  obtain ⟨r167, h168, h⟩ := ob h
  refine xr_newa (atype := .int) C0 W0 1 16 rfl (by decide) (by decide) rfl ka_int (fun N => nw_int) (by decide) h168 (by decide) (by decide) dX10_init_391 (fun H W0 => ?_)
  refine W.cs (cells' := 32) (slots' := 17567) rfl rfl ?_
  obtain ⟨X169, h170, h⟩ := ob h
  refine xr_putR C0 W0 cl_X10 45 (by decide) fl_X10_162 (Or.inr ⟨rfl, hin, rfl⟩) rfl ⟨rfl, rfl⟩ (by decide) h170 dX10_init_393 (fun H locs W0 => ?_)
  refine lv_aload_n hx hb dX10_init_396 rfl (lv_at hl 0 rfl) ?_
  refine lv_bipush (v := 16) hx hb dX10_init_397 (by decide) ?_
  obtain ⟨r171, h172, h⟩ := ob h
  refine xr_newa (atype := .boolean) C0 W0 3 16 rfl (by decide) (by decide) rfl ka_boolean (fun N => nw_boolean) (by decide) h172 (by decide) (by decide) dX10_init_399 (fun H W0 => ?_)
  refine W.cs (cells' := 33) (slots' := 17583) rfl rfl ?_
  obtain ⟨X173, h174, h⟩ := ob h
  refine xr_putR C0 W0 cl_X10 46 (by decide) fl_X10_165 (Or.inr ⟨rfl, hin, rfl⟩) rfl ⟨rfl, rfl⟩ (by decide) h174 dX10_init_401 (fun H locs W0 => ?_)
  refine lv_aload_n hx hb dX10_init_404 rfl (lv_at hl 0 rfl) ?_
  refine lv_bipush (v := 80) hx hb dX10_init_405 (by decide) ?_
  obtain ⟨r175, h176, h⟩ := ob h
  refine xr_newa (atype := .int) C0 W0 1 80 rfl (by decide) (by decide) rfl ka_int (fun N => nw_int) (by decide) h176 (by decide) (by decide) dX10_init_407 (fun H W0 => ?_)
  refine W.cs (cells' := 34) (slots' := 17663) rfl rfl ?_
  obtain ⟨X177, h178, h⟩ := ob h
  refine xr_putR C0 W0 cl_X10 48 (by decide) fl_X10_168 (Or.inr ⟨rfl, hin, rfl⟩) rfl ⟨rfl, rfl⟩ (by decide) h178 dX10_init_409 (fun H locs W0 => ?_)
  refine lv_aload_n hx hb dX10_init_412 rfl (lv_at hl 0 rfl) ?_
  refine lv_bipush (v := 80) hx hb dX10_init_413 (by decide) ?_
  obtain ⟨r179, h180, h⟩ := ob h
  refine xr_newa (atype := .int) C0 W0 1 80 rfl (by decide) (by decide) rfl ka_int (fun N => nw_int) (by decide) h180 (by decide) (by decide) dX10_init_415 (fun H W0 => ?_)
  refine W.cs (cells' := 35) (slots' := 17743) rfl rfl ?_
  obtain ⟨X181, h182, h⟩ := ob h
  refine xr_putR C0 W0 cl_X10 49 (by decide) fl_X10_171 (Or.inr ⟨rfl, hin, rfl⟩) rfl ⟨rfl, rfl⟩ (by decide) h182 dX10_init_417 (fun H locs W0 => ?_)
  refine lv_aload_n hx hb dX10_init_420 rfl (lv_at hl 0 rfl) ?_
  refine lv_bipush (v := 80) hx hb dX10_init_421 (by decide) ?_
  obtain ⟨r183, h184, h⟩ := ob h
  refine xr_newa (atype := .int) C0 W0 1 80 rfl (by decide) (by decide) rfl ka_int (fun N => nw_int) (by decide) h184 (by decide) (by decide) dX10_init_423 (fun H W0 => ?_)
  refine W.cs (cells' := 36) (slots' := 17823) rfl rfl ?_
  obtain ⟨X185, h186, h⟩ := ob h
  refine xr_putR C0 W0 cl_X10 50 (by decide) fl_X10_174 (Or.inr ⟨rfl, hin, rfl⟩) rfl ⟨rfl, rfl⟩ (by decide) h186 dX10_init_425 (fun H locs W0 => ?_)
  refine lv_aload_n hx hb dX10_init_428 rfl (lv_at hl 0 rfl) ?_
  refine lv_bipush (v := 80) hx hb dX10_init_429 (by decide) ?_
  obtain ⟨r187, h188, h⟩ := ob h
  refine xr_newa (atype := .boolean) C0 W0 3 80 rfl (by decide) (by decide) rfl ka_boolean (fun N => nw_boolean) (by decide) h188 (by decide) (by decide) dX10_init_431 (fun H W0 => ?_)
  refine W.cs (cells' := 37) (slots' := 17903) rfl rfl ?_
  obtain ⟨X189, h190, h⟩ := ob h
  refine xr_putR C0 W0 cl_X10 51 (by decide) fl_X10_177 (Or.inr ⟨rfl, hin, rfl⟩) rfl ⟨rfl, rfl⟩ (by decide) h190 dX10_init_433 (fun H locs W0 => ?_)
  refine lv_aload_n hx hb dX10_init_436 rfl (lv_at hl 0 rfl) ?_
  refine lv_sipush (v := 240) hx hb dX10_init_437 (by decide) ?_
  obtain ⟨r191, h192, h⟩ := ob h
  refine xr_newa (atype := .int) C0 W0 1 240 rfl (by decide) (by decide) rfl ka_int (fun N => nw_int) (by decide) h192 (by decide) (by decide) dX10_init_440 (fun H W0 => ?_)
  refine W.cs (cells' := 38) (slots' := 18143) rfl rfl ?_
  obtain ⟨X193, h194, h⟩ := ob h
  refine xr_putR C0 W0 cl_X10 52 (by decide) fl_X10_180 (Or.inr ⟨rfl, hin, rfl⟩) rfl ⟨rfl, rfl⟩ (by decide) h194 dX10_init_442 (fun H locs W0 => ?_)
  refine lv_aload_n hx hb dX10_init_445 rfl (lv_at hl 0 rfl) ?_
  refine lv_bipush (v := 16) hx hb dX10_init_446 (by decide) ?_
  obtain ⟨r195, h196, h⟩ := ob h
  refine xr_newa (atype := .int) C0 W0 1 16 rfl (by decide) (by decide) rfl ka_int (fun N => nw_int) (by decide) h196 (by decide) (by decide) dX10_init_448 (fun H W0 => ?_)
  refine W.cs (cells' := 39) (slots' := 18159) rfl rfl ?_
  obtain ⟨X197, h198, h⟩ := ob h
  refine xr_putR C0 W0 cl_X10 53 (by decide) fl_X10_183 (Or.inr ⟨rfl, hin, rfl⟩) rfl ⟨rfl, rfl⟩ (by decide) h198 dX10_init_450 (fun H locs W0 => ?_)
  refine lv_aload_n hx hb dX10_init_453 rfl (lv_at hl 0 rfl) ?_
  refine lv_bipush (v := 16) hx hb dX10_init_454 (by decide) ?_
  obtain ⟨r199, h200, h⟩ := ob h
  refine xr_newa (atype := .int) C0 W0 1 16 rfl (by decide) (by decide) rfl ka_int (fun N => nw_int) (by decide) h200 (by decide) (by decide) dX10_init_456 (fun H W0 => ?_)
  refine W.cs (cells' := 40) (slots' := 18175) rfl rfl ?_
  obtain ⟨X201, h202, h⟩ := ob h
  refine xr_putR C0 W0 cl_X10 54 (by decide) fl_X10_186 (Or.inr ⟨rfl, hin, rfl⟩) rfl ⟨rfl, rfl⟩ (by decide) h202 dX10_init_458 (fun H locs W0 => ?_)
  refine lv_aload_n hx hb dX10_init_461 rfl (lv_at hl 0 rfl) ?_
  refine lv_sipush (v := 320) hx hb dX10_init_462 (by decide) ?_
  obtain ⟨r203, h204, h⟩ := ob h
  refine xr_newa (atype := .int) C0 W0 1 320 rfl (by decide) (by decide) rfl ka_int (fun N => nw_int) (by decide) h204 (by decide) (by decide) dX10_init_465 (fun H W0 => ?_)
  refine W.cs (cells' := 41) (slots' := 18495) rfl rfl ?_
  obtain ⟨X205, h206, h⟩ := ob h
  refine xr_putR C0 W0 cl_X10 56 (by decide) fl_X10_189 (Or.inr ⟨rfl, hin, rfl⟩) rfl ⟨rfl, rfl⟩ (by decide) h206 dX10_init_467 (fun H locs W0 => ?_)
  refine lv_iconst (v := 0) hx hb dX10_init_470 (by decide) ?_
  refine lv_istore_n (lv' := [(1, .int 0), (0, .ref l0)]) hx hb dX10_init_471 rfl hl (by decide) rfl (fun ls hl => ?_)
  obtain ⟨r207, h208, h⟩ := ob h
  refine tX10_init_l472 C0 hret hin (fun {H} {locs} {ls} W0 hl => ?_) FU W0 (lv_sub hl [1, 0] rfl) h208
  refine lv_iconst (v := 0) hx hb dX10_init_499 (by decide) ?_
  refine lv_istore_n (lv' := [(1, .int 0), (0, .ref l0)]) hx hb dX10_init_500 rfl hl (by decide) rfl (fun ls hl => ?_)
  obtain ⟨r209, h210, h⟩ := ob h
  refine tX10_init_l501 C0 hret hin (fun {H} {locs} {ls} W0 hl => ?_) FU W0 (lv_sub hl [1, 0] rfl) h210
  exact xr_vret C0 W0 hret (Option.some.inj h).symm dX10_init_521
def fX10_isLetter (l0 : Int32) (X : XW) : Option (Int32 × XW) :=
  if (l0 < 97 : Prop) then (some (0, X))
  else (if (122 < l0 : Prop) then (some (0, X))
    else (some (1, X)))
theorem ctX10_isLetter (l : Launch) (G : XG) {l0 : Int32} {X : XW} {r : Int32 × XW}  (h : fX10_isLetter l0 X = some r) : XM l G yX10_isLetter cX10_isLetter 1 (some .boolean) 0 0 0 0 [.int l0] X (some (.int r.1), r.2) := by
  refine xm_of (own := RX10) (by decide) rfl (Nat.le_of_ble_eq_true rfl) ?_
  intro p e s m below meth c ls C0 W0 hret hnm hl
  have hx := C0.1
  have hb := C0.2.1
  have hl : lv_has ls 1 [(0, .int l0)] := hl
  unfold fX10_isLetter at h
  refine lv_iload_n hx hb dX10_isLetter_0 rfl (lv_at hl 0 rfl) ?_
  refine lv_bipush (v := 97) hx hb dX10_isLetter_1 (by decide) ?_
  refine lv_icmp_lt (tgt := 16) hx hb dX10_isLetter_3 (by decide) (fun hcq => ?_) (fun hcq => ?_)
  · have h := it_t hcq h
    refine lv_iconst (v := 0) hx hb dX10_isLetter_16 (by decide) ?_
    exact xr_zret C0 W0 hret (by decide) (Option.some.inj h) dX10_isLetter_17
  · have h := it_f hcq h
    refine lv_iload_n hx hb dX10_isLetter_6 rfl (lv_at hl 0 rfl) ?_
    refine lv_bipush (v := 122) hx hb dX10_isLetter_7 (by decide) ?_
    refine lv_icmp_gt (tgt := 16) hx hb dX10_isLetter_9 (by decide) (fun hcq => ?_) (fun hcq => ?_)
    · have h := it_t hcq h
      refine lv_iconst (v := 0) hx hb dX10_isLetter_16 (by decide) ?_
      exact xr_zret C0 W0 hret (by decide) (Option.some.inj h) dX10_isLetter_17
    · have h := it_f hcq h
      refine lv_iconst (v := 1) hx hb dX10_isLetter_12 (by decide) ?_
      refine lv_goto (tgt := 17) hx hb dX10_isLetter_13 (by decide) ?_
      exact xr_zret C0 W0 hret (by decide) (Option.some.inj h) dX10_isLetter_17
def fX10_isDigit (l0 : Int32) (X : XW) : Option (Int32 × XW) :=
  if (l0 < 48 : Prop) then (some (0, X))
  else (if (57 < l0 : Prop) then (some (0, X))
    else (some (1, X)))
theorem ctX10_isDigit (l : Launch) (G : XG) {l0 : Int32} {X : XW} {r : Int32 × XW}  (h : fX10_isDigit l0 X = some r) : XM l G yX10_isDigit cX10_isDigit 1 (some .boolean) 0 0 0 0 [.int l0] X (some (.int r.1), r.2) := by
  refine xm_of (own := RX10) (by decide) rfl (Nat.le_of_ble_eq_true rfl) ?_
  intro p e s m below meth c ls C0 W0 hret hnm hl
  have hx := C0.1
  have hb := C0.2.1
  have hl : lv_has ls 1 [(0, .int l0)] := hl
  unfold fX10_isDigit at h
  refine lv_iload_n hx hb dX10_isDigit_0 rfl (lv_at hl 0 rfl) ?_
  refine lv_bipush (v := 48) hx hb dX10_isDigit_1 (by decide) ?_
  refine lv_icmp_lt (tgt := 16) hx hb dX10_isDigit_3 (by decide) (fun hcq => ?_) (fun hcq => ?_)
  · have h := it_t hcq h
    refine lv_iconst (v := 0) hx hb dX10_isDigit_16 (by decide) ?_
    exact xr_zret C0 W0 hret (by decide) (Option.some.inj h) dX10_isDigit_17
  · have h := it_f hcq h
    refine lv_iload_n hx hb dX10_isDigit_6 rfl (lv_at hl 0 rfl) ?_
    refine lv_bipush (v := 57) hx hb dX10_isDigit_7 (by decide) ?_
    refine lv_icmp_gt (tgt := 16) hx hb dX10_isDigit_9 (by decide) (fun hcq => ?_) (fun hcq => ?_)
    · have h := it_t hcq h
      refine lv_iconst (v := 0) hx hb dX10_isDigit_16 (by decide) ?_
      exact xr_zret C0 W0 hret (by decide) (Option.some.inj h) dX10_isDigit_17
    · have h := it_f hcq h
      refine lv_iconst (v := 1) hx hb dX10_isDigit_12 (by decide) ?_
      refine lv_goto (tgt := 17) hx hb dX10_isDigit_13 (by decide) ?_
      exact xr_zret C0 W0 hret (by decide) (Option.some.inj h) dX10_isDigit_17
