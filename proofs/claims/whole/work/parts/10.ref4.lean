def fX10_change_j93  (l0 : Nat) (l1 : Int32) (l2 : Int32) (l3 : Int32) (l4 : Int32) (l5 : Int32) (l6 : Int32) (X : XW) : Option (Int32 × XW) :=
  gI X l0 10 29 >>= fun v1 =>
  gK X l0 10 >>= fun u3 =>
  fX10_tells l0 ((16 * v1) + l1) l2 l3 l4 l5 l6 X >>= fun X5 =>
  some (1, X5)
def fX10_change_l62_b (rec : Int32 → XW → Option (XW)) (l0 : Nat) (l1 : Int32) (l2 : Int32) (l3 : Int32) (l4 : Int32) (l5 : Int32) (l6 : Int32) (l7 : Int32) (X : XW) : Option (XW) :=
  gI X l0 10 29 >>= fun v1 =>
  if (((240 * v1) + 240) ≤ l7 : Prop) then (some (X))
  else (gR X l0 10 37 >>= fun q3 =>
    uI X q3 l7 (-1) >>= fun X5 =>
    rec (l7 + 1) X5)
def fX10_change_l62 (l0 : Nat) (l1 : Int32) (l2 : Int32) (l3 : Int32) (l4 : Int32) (l5 : Int32) (l6 : Int32) (n : Nat) : Int32 → XW → Option (XW) := iter (fun rec => fX10_change_l62_b rec l0 l1 l2 l3 l4 l5 l6) (fun _ _ => none) n
def fX10_change (l0 : Nat) (l1 : Int32) (l2 : Int32) (l3 : Int32) (l4 : Int32) (l5 : Int32) (l6 : Int32) (X : XW) : Option (Int32 × XW) :=
  pI X l0 10 0 0 >>= fun X1 =>
  if (l1 < 0 : Prop) then (some (0, X1))
  else (gR X1 l0 10 30 >>= fun q3 =>
    gI X1 l0 10 29 >>= fun v5 =>
    aI X1 q3 1 v5 >>= fun v7 =>
    if (v7 ≤ l1 : Prop) then (some (0, X1))
    else (fX10_isWordSo l2 l3 l4 X1 >>= fun r9 =>
      if (r9.1 = 0 : Prop) then (some (0, r9.2))
      else (gR r9.2 l0 10 31 >>= fun q11 =>
        gI r9.2 l0 10 29 >>= fun v13 =>
        aI r9.2 q11 1 ((16 * v13) + l1) >>= fun v15 =>
        if (v15 = l2 : Prop) then (fX10_change_j93 l0 l1 l2 l3 l4 l5 l6 r9.2)
        else (gI r9.2 l0 10 29 >>= fun v17 =>
          fX10_change_l62 l0 l1 l2 l3 l4 l5 l6 FU (240 * v17) r9.2 >>= fun r19 =>
          fX10_change_j93 l0 l1 l2 l3 l4 l5 l6 r19))))
theorem tX10_change_j93 {p : Program} {l : Launch} {e : Env} {s : State} {m : MethodId} {args : Array Value} {below : List Frame} {meth : Method} {c : Code} {G : XG} {X0 : XW} (C0 : XC p s m args meth c RX10 cX10_change 8 G) (hret : meth.sig.returnType = (some .boolean)) {r : Int32 × XW} {l0 : Nat} {l1 : Int32} {l2 : Int32} {l3 : Int32} {l4 : Int32} {l5 : Int32} {l6 : Int32} {X : XW} {H : Heap} {locs : List Loc} {ls : Array Slot} (W0 : XD G X0 X s H locs) (hl : lv_has ls 8 [(0, .ref l0), (1, .int l1), (2, .int l2), (3, .int l3), (4, .int l4), (5, .int l5), (6, .int l6)]) (h : fX10_change_j93 l0 l1 l2 l3 l4 l5 l6 X = some r) : W p l e { frames := 1, cells := 0, slots := 0, locals := 60 } s m args below meth c H locs 0 0 (MQ below (XQ G X0 (some (.int r.1), r.2)) args s 0 0 (xAd X0)) (F0 m 93 ls []) := by
  have hx := C0.1
  have hb := C0.2.1
  unfold fX10_change_j93 at h
  refine lv_aload_n hx hb dX10_change_93 rfl (lv_at hl 0 rfl) ?_
  refine lv_bipush (v := 16) hx hb dX10_change_94 (by decide) ?_
  refine lv_aload_n hx hb dX10_change_96 rfl (lv_at hl 0 rfl) ?_
  obtain ⟨v1, h2, h⟩ := ob h
  refine xr_getI C0 W0 cl_X10 29 (by decide) fl_X10_283 rfl h2 dX10_change_97 ?_
  refine lv_imul hx hb dX10_change_100 ?_
  refine lv_iload_n hx hb dX10_change_101 rfl (lv_at hl 1 rfl) ?_
  refine lv_iadd hx hb dX10_change_102 ?_
  refine lv_iload_n hx hb dX10_change_103 rfl (lv_at hl 2 rfl) ?_
  refine lv_iload_n hx hb dX10_change_104 rfl (lv_at hl 3 rfl) ?_
  refine lv_iload hx hb dX10_change_105 (lv_at hl 4 rfl) ?_
  refine lv_iload hx hb dX10_change_107 (lv_at hl 5 rfl) ?_
  refine lv_iload hx hb dX10_change_109 (lv_at hl 6 rfl) ?_
  obtain ⟨u3, h4, h⟩ := ob h
  obtain ⟨X5, h6, h⟩ := ob h
  refine xr_V (As := [.int ((16 * v1) + l1), .int l2, .int l3, .int l4, .int l5, .int l6]) (rest := []) C0 W0 (ctX10_tells l G h6) (gK_of h4) (rr := (RX10, TX10, 57)) rfl rfl mc_X10_tells mv_X10_tells ml_X10_286 ⟨by decide, by decide⟩ rfl hl.1 rfl (Nat.le_of_ble_eq_true rfl) ⟨by decide, by decide⟩ dX10_change_111 (fun H locs W0 => ?_)
  refine W.cs (cells' := 0) (slots' := 0) rfl rfl ?_
  refine W.eq (g2 := F0 m 114 ls []) rfl ?_
  refine lv_iconst (v := 1) hx hb dX10_change_114 (by decide) ?_
  exact xr_zret C0 W0 hret (by decide) (Option.some.inj h) dX10_change_115
theorem tX10_change_l62_b {p : Program} {l : Launch} {e : Env} {s : State} {m : MethodId} {args : Array Value} {below : List Frame} {meth : Method} {c : Code} {G : XG} {X0 : XW} (C0 : XC p s m args meth c RX10 cX10_change 8 G) (hret : meth.sig.returnType = (some .boolean)) {r : XW} {l0 : Nat} {l1 : Int32} {l2 : Int32} {l3 : Int32} {l4 : Int32} {l5 : Int32} {l6 : Int32} {Q : State → Prop} {rec : Int32 → XW → Option (XW)} (hrec : ∀ {y7 : Int32} {X : XW} {H : Heap} {locs : List Loc} {ls : Array Slot}, XD G X0 X s H locs → lv_has ls 8 [(0, .ref l0), (1, .int l1), (2, .int l2), (3, .int l3), (4, .int l4), (5, .int l5), (6, .int l6), (7, .int y7)] → rec y7 X = some r → W p l e { frames := 1, cells := 0, slots := 0, locals := 60 } s m args below meth c H locs 0 0 Q (F0 m 62 ls [])) (hK : ∀ {H : Heap} {locs : List Loc} {ls : Array Slot}, XD G X0 r s H locs → lv_has ls 8 [(0, .ref l0), (1, .int l1), (2, .int l2), (3, .int l3), (4, .int l4), (5, .int l5), (6, .int l6)] → W p l e { frames := 1, cells := 0, slots := 0, locals := 60 } s m args below meth c H locs 0 0 Q (F0 m 93 ls []))  {l7 : Int32} {X : XW} {H : Heap} {locs : List Loc} {ls : Array Slot} (W0 : XD G X0 X s H locs) (hl : lv_has ls 8 [(0, .ref l0), (1, .int l1), (2, .int l2), (3, .int l3), (4, .int l4), (5, .int l5), (6, .int l6), (7, .int l7)]) (h : fX10_change_l62_b rec l0 l1 l2 l3 l4 l5 l6 l7 X = some r) : W p l e { frames := 1, cells := 0, slots := 0, locals := 60 } s m args below meth c H locs 0 0 Q (F0 m 62 ls []) := by
  have hx := C0.1
  have hb := C0.2.1
  unfold fX10_change_l62_b at h
  refine lv_iload hx hb dX10_change_62 (lv_at hl 7 rfl) ?_
  refine lv_sipush (v := 240) hx hb dX10_change_64 (by decide) ?_
  refine lv_aload_n hx hb dX10_change_67 rfl (lv_at hl 0 rfl) ?_
  obtain ⟨v1, h2, h⟩ := ob h
  refine xr_getI C0 W0 cl_X10 29 (by decide) fl_X10_283 rfl h2 dX10_change_68 ?_
  refine lv_imul hx hb dX10_change_71 ?_
  refine lv_sipush (v := 240) hx hb dX10_change_72 (by decide) ?_
  refine lv_iadd hx hb dX10_change_75 ?_
  refine lv_icmp_ge (tgt := 93) hx hb dX10_change_76 (by decide) (fun hcq => ?_) (fun hcq => ?_)
  · have h := it_t hcq h
    cases h
    exact hK W0 (lv_sub hl [0, 1, 2, 3, 4, 5, 6] rfl)
  · have h := it_f hcq h
    refine lv_aload_n hx hb dX10_change_79 rfl (lv_at hl 0 rfl) ?_
    obtain ⟨q3, h4, h⟩ := ob h
    refine xr_getR C0 W0 cl_X10 37 (by decide) fl_X10_141 rfl h4 dX10_change_80 ?_
    refine lv_iload hx hb dX10_change_83 (lv_at hl 7 rfl) ?_
    refine lv_iconst (v := (-1)) hx hb dX10_change_85 (by decide) ?_
    obtain ⟨X5, h6, h⟩ := ob h
    refine xr_iast C0 W0 h6 dX10_change_86 (fun H locs W0 => ?_)
    refine lv_iinc (v := (l7 + 1)) (lv' := [(7, .int (l7 + 1)), (0, .ref l0), (1, .int l1), (2, .int l2), (3, .int l3), (4, .int l4), (5, .int l5), (6, .int l6)]) hx hb dX10_change_87 hl (k := 7) rfl (ii (by decide)) (by decide) rfl (fun ls hl => ?_)
    refine lv_goto (tgt := 62) hx hb dX10_change_90 (by decide) ?_
    exact hrec W0 (lv_sub hl [1, 2, 3, 4, 5, 6, 7, 0] rfl) h
theorem tX10_change_l62 {p : Program} {l : Launch} {e : Env} {s : State} {m : MethodId} {args : Array Value} {below : List Frame} {meth : Method} {c : Code} {G : XG} {X0 : XW} (C0 : XC p s m args meth c RX10 cX10_change 8 G) (hret : meth.sig.returnType = (some .boolean)) {r : XW} {l0 : Nat} {l1 : Int32} {l2 : Int32} {l3 : Int32} {l4 : Int32} {l5 : Int32} {l6 : Int32} {Q : State → Prop} (hK : ∀ {H : Heap} {locs : List Loc} {ls : Array Slot}, XD G X0 r s H locs → lv_has ls 8 [(0, .ref l0), (1, .int l1), (2, .int l2), (3, .int l3), (4, .int l4), (5, .int l5), (6, .int l6)] → W p l e { frames := 1, cells := 0, slots := 0, locals := 60 } s m args below meth c H locs 0 0 Q (F0 m 93 ls [])) : ∀ (n : Nat) {y7 : Int32} {X : XW} {H : Heap} {locs : List Loc} {ls : Array Slot}, XD G X0 X s H locs → lv_has ls 8 [(0, .ref l0), (1, .int l1), (2, .int l2), (3, .int l3), (4, .int l4), (5, .int l5), (6, .int l6), (7, .int y7)] → fX10_change_l62 l0 l1 l2 l3 l4 l5 l6 n y7 X = some r → W p l e { frames := 1, cells := 0, slots := 0, locals := 60 } s m args below meth c H locs 0 0 Q (F0 m 62 ls []) := by
  intro n
  induction n with
  | zero =>
    intro y7 X H locs ls W0 hl h
    cases h
  | succ n ih =>
    intro y7 X H locs ls W0 hl h
    exact tX10_change_l62_b C0 hret (rec := fX10_change_l62 l0 l1 l2 l3 l4 l5 l6 n) (fun W0 hl h => ih W0 hl h) hK W0 hl h
theorem ctX10_change (l : Launch) (G : XG) {l0 : Nat} {l1 : Int32} {l2 : Int32} {l3 : Int32} {l4 : Int32} {l5 : Int32} {l6 : Int32} {X : XW} {r : Int32 × XW}  (h : fX10_change l0 l1 l2 l3 l4 l5 l6 X = some r) : XM l G yX10_change cX10_change 8 (some .boolean) 1 60 0 0 [.ref l0, .int l1, .int l2, .int l3, .int l4, .int l5, .int l6] X (some (.int r.1), r.2) := by
  refine xm_of (own := RX10) (by decide) rfl (Nat.le_of_ble_eq_true rfl) ?_
  intro p e s m below meth c ls C0 W0 hret hnm hl
  have hx := C0.1
  have hb := C0.2.1
  have hl : lv_has ls 8 [(0, .ref l0), (1, .int l1), (2, .int l2), (3, .int l3), (4, .int l4), (5, .int l5), (6, .int l6)] := hl
  unfold fX10_change at h
  refine lv_aload_n hx hb dX10_change_0 rfl (lv_at hl 0 rfl) ?_
  refine lv_iconst (v := 0) hx hb dX10_change_1 (by decide) ?_
  obtain ⟨X1, h2, h⟩ := ob h
  refine xr_putI C0 W0 cl_X10 0 (by decide) fl_X10_1 rfl rfl rfl (by decide) h2 dX10_change_2 (fun H locs W0 => ?_)
  refine lv_iload_n hx hb dX10_change_5 rfl (lv_at hl 1 rfl) ?_
  refine lv_if_lt (tgt := 32) hx hb dX10_change_6 (by decide) (fun hcq => ?_) (fun hcq => ?_)
  · have h := it_t hcq h
    refine lv_iconst (v := 0) hx hb dX10_change_32 (by decide) ?_
    exact xr_zret C0 W0 hret (by decide) (Option.some.inj h) dX10_change_33
  · have h := it_f hcq h
    refine lv_iload_n hx hb dX10_change_9 rfl (lv_at hl 1 rfl) ?_
    refine lv_aload_n hx hb dX10_change_10 rfl (lv_at hl 0 rfl) ?_
    obtain ⟨q3, h4, h⟩ := ob h
    refine xr_getR C0 W0 cl_X10 30 (by decide) fl_X10_120 rfl h4 dX10_change_11 ?_
    refine lv_aload_n hx hb dX10_change_14 rfl (lv_at hl 0 rfl) ?_
    obtain ⟨v5, h6, h⟩ := ob h
    refine xr_getI C0 W0 cl_X10 29 (by decide) fl_X10_283 rfl h6 dX10_change_15 ?_
    obtain ⟨v7, h8, h⟩ := ob h
    refine xr_iald C0 W0 h8 dX10_change_18 ?_
    refine lv_icmp_ge (tgt := 32) hx hb dX10_change_19 (by decide) (fun hcq => ?_) (fun hcq => ?_)
    · have h := it_t hcq h
      refine lv_iconst (v := 0) hx hb dX10_change_32 (by decide) ?_
      exact xr_zret C0 W0 hret (by decide) (Option.some.inj h) dX10_change_33
    · have h := it_f hcq h
      refine lv_iload_n hx hb dX10_change_22 rfl (lv_at hl 2 rfl) ?_
      refine lv_iload_n hx hb dX10_change_23 rfl (lv_at hl 3 rfl) ?_
      refine lv_iload hx hb dX10_change_24 (lv_at hl 4 rfl) ?_
      obtain ⟨r9, h10, h⟩ := ob h
      refine xr_S (As := [.int l2, .int l3, .int l4]) (rest := []) C0 W0 (ctX10_isWordSo l G h10) mc_X10_isWordSo ms_X10_isWordSo ml_X10_279 ⟨by decide, by decide⟩ rfl hl.1 rfl (Nat.le_of_ble_eq_true rfl) ⟨by decide, by decide⟩ dX10_change_26 (fun H locs W0 => ?_)
      refine W.cs (cells' := 0) (slots' := 0) rfl rfl ?_
      refine W.eq (g2 := F0 m 29 ls [.int r9.1]) rfl ?_
      refine lv_if_ne (tgt := 34) hx hb dX10_change_29 (by decide) (fun hcq => ?_) (fun hcq => ?_)
      · have h := it_f hcq h
        refine lv_aload_n hx hb dX10_change_34 rfl (lv_at hl 0 rfl) ?_
        obtain ⟨q11, h12, h⟩ := ob h
        refine xr_getR C0 W0 cl_X10 31 (by decide) fl_X10_123 rfl h12 dX10_change_35 ?_
        refine lv_bipush (v := 16) hx hb dX10_change_38 (by decide) ?_
        refine lv_aload_n hx hb dX10_change_40 rfl (lv_at hl 0 rfl) ?_
        obtain ⟨v13, h14, h⟩ := ob h
        refine xr_getI C0 W0 cl_X10 29 (by decide) fl_X10_283 rfl h14 dX10_change_41 ?_
        refine lv_imul hx hb dX10_change_44 ?_
        refine lv_iload_n hx hb dX10_change_45 rfl (lv_at hl 1 rfl) ?_
        refine lv_iadd hx hb dX10_change_46 ?_
        obtain ⟨v15, h16, h⟩ := ob h
        refine xr_iald C0 W0 h16 dX10_change_47 ?_
        refine lv_iload_n hx hb dX10_change_48 rfl (lv_at hl 2 rfl) ?_
        refine lv_icmp_eq (tgt := 93) hx hb dX10_change_49 (by decide) (fun hcq => ?_) (fun hcq => ?_)
        · have h := it_t hcq h
          exact tX10_change_j93 C0 hret W0 (lv_sub hl [0, 1, 2, 3, 4, 5, 6] rfl) h
        · have h := it_f hcq h
          refine lv_sipush (v := 240) hx hb dX10_change_52 (by decide) ?_
          refine lv_aload_n hx hb dX10_change_55 rfl (lv_at hl 0 rfl) ?_
          obtain ⟨v17, h18, h⟩ := ob h
          refine xr_getI C0 W0 cl_X10 29 (by decide) fl_X10_283 rfl h18 dX10_change_56 ?_
          refine lv_imul hx hb dX10_change_59 ?_
          refine lv_istore (lv' := [(7, .int (240 * v17)), (0, .ref l0), (1, .int l1), (2, .int l2), (3, .int l3), (4, .int l4), (5, .int l5), (6, .int l6)]) hx hb dX10_change_60 hl (by decide) rfl (fun ls hl => ?_)
          obtain ⟨r19, h20, h⟩ := ob h
          refine tX10_change_l62 C0 hret (fun {H} {locs} {ls} W0 hl => ?_) FU W0 (lv_sub hl [1, 2, 3, 4, 5, 6, 7, 0] rfl) h20
          exact tX10_change_j93 C0 hret W0 (lv_sub hl [0, 1, 2, 3, 4, 5, 6] rfl) h
      · have h := it_t hcq h
        refine lv_iconst (v := 0) hx hb dX10_change_32 (by decide) ?_
        exact xr_zret C0 W0 hret (by decide) (Option.some.inj h) dX10_change_33
def fX10_reading_l52_b (rec : Int32 → XW → Option (XW)) (l0 : Nat) (l1 : Int32) (l2 : Int32) (X : XW) : Option (XW) :=
  if (16 ≤ l2 : Prop) then (some (X))
  else (gI X l0 10 29 >>= fun v1 =>
    gR X l0 10 31 >>= fun q3 =>
    aI X q3 1 ((16 * v1) + l2) >>= fun v5 =>
    gR X l0 10 32 >>= fun q7 =>
    aI X q7 1 ((16 * v1) + l2) >>= fun v9 =>
    gR X l0 10 33 >>= fun q11 =>
    aI X q11 1 ((16 * v1) + l2) >>= fun v13 =>
    gR X l0 10 34 >>= fun q15 =>
    aI X q15 3 ((16 * v1) + l2) >>= fun v17 =>
    gR X l0 10 35 >>= fun q19 =>
    aI X q19 3 ((16 * v1) + l2) >>= fun v21 =>
    gK X l0 10 >>= fun u23 =>
    fX10_tells l0 ((16 * l1) + l2) v5 v9 v13 v17 v21 X >>= fun X25 =>
    rec (l2 + 1) X25)
def fX10_reading_l52 (l0 : Nat) (l1 : Int32) (n : Nat) : Int32 → XW → Option (XW) := iter (fun rec => fX10_reading_l52_b rec l0 l1) (fun _ _ => none) n
def fX10_reading_l116_b (rec : Int32 → XW → Option (XW)) (l0 : Nat) (l1 : Int32) (l2 : Int32) (X : XW) : Option (XW) :=
  if (240 ≤ l2 : Prop) then (some (X))
  else (gR X l0 10 37 >>= fun q1 =>
    gR X l0 10 37 >>= fun q3 =>
    gI X l0 10 29 >>= fun v5 =>
    aI X q3 1 ((240 * v5) + l2) >>= fun v7 =>
    uI X q1 ((240 * l1) + l2) v7 >>= fun X9 =>
    rec (l2 + 1) X9)
def fX10_reading_l116 (l0 : Nat) (l1 : Int32) (n : Nat) : Int32 → XW → Option (XW) := iter (fun rec => fX10_reading_l116_b rec l0 l1) (fun _ _ => none) n
def fX10_reading (l0 : Nat) (X : XW) : Option (Int32 × XW) :=
  pI X l0 10 0 0 >>= fun X1 =>
  gI X1 l0 10 28 >>= fun v3 =>
  if (v3 = 4 : Prop) then (some ((-1), X1))
  else (gI X1 l0 10 28 >>= fun v5 =>
    gR X1 l0 10 30 >>= fun q7 =>
    gR X1 l0 10 30 >>= fun q9 =>
    gI X1 l0 10 29 >>= fun v11 =>
    aI X1 q9 1 v11 >>= fun v13 =>
    uI X1 q7 v5 v13 >>= fun X15 =>
    gR X15 l0 10 36 >>= fun q17 =>
    gR X15 l0 10 36 >>= fun q19 =>
    gI X15 l0 10 29 >>= fun v21 =>
    aI X15 q19 1 v21 >>= fun v23 =>
    uI X15 q17 v5 v23 >>= fun X25 =>
    fX10_reading_l52 l0 v5 FU 0 X25 >>= fun r27 =>
    fX10_reading_l116 l0 v5 FU 0 r27 >>= fun r29 =>
    gI r29 l0 10 28 >>= fun v31 =>
    pI r29 l0 10 28 (v31 + 1) >>= fun X33 =>
    pI X33 l0 10 29 v5 >>= fun X35 =>
    some (v5, X35))
theorem tX10_reading_l52_b {p : Program} {l : Launch} {e : Env} {s : State} {m : MethodId} {args : Array Value} {below : List Frame} {meth : Method} {c : Code} {G : XG} {X0 : XW} (C0 : XC p s m args meth c RX10 cX10_reading 4 G) (hret : meth.sig.returnType = (some .int)) {r : XW} {l0 : Nat} {l1 : Int32} {Q : State → Prop} {rec : Int32 → XW → Option (XW)} (hrec : ∀ {y2 : Int32} {X : XW} {H : Heap} {locs : List Loc} {ls : Array Slot}, XD G X0 X s H locs → lv_has ls 4 [(0, .ref l0), (1, .int l1), (2, .int y2)] → rec y2 X = some r → W p l e { frames := 1, cells := 0, slots := 0, locals := 60 } s m args below meth c H locs 0 0 Q (F0 m 52 ls [])) (hK : ∀ {H : Heap} {locs : List Loc} {ls : Array Slot}, XD G X0 r s H locs → lv_has ls 4 [(0, .ref l0), (1, .int l1)] → W p l e { frames := 1, cells := 0, slots := 0, locals := 60 } s m args below meth c H locs 0 0 Q (F0 m 114 ls []))  {l2 : Int32} {X : XW} {H : Heap} {locs : List Loc} {ls : Array Slot} (W0 : XD G X0 X s H locs) (hl : lv_has ls 4 [(0, .ref l0), (1, .int l1), (2, .int l2)]) (h : fX10_reading_l52_b rec l0 l1 l2 X = some r) : W p l e { frames := 1, cells := 0, slots := 0, locals := 60 } s m args below meth c H locs 0 0 Q (F0 m 52 ls []) := by
  have hx := C0.1
  have hb := C0.2.1
  unfold fX10_reading_l52_b at h
  refine lv_iload_n hx hb dX10_reading_52 rfl (lv_at hl 2 rfl) ?_
  refine lv_bipush (v := 16) hx hb dX10_reading_53 (by decide) ?_
  refine lv_icmp_ge (tgt := 114) hx hb dX10_reading_55 (by decide) (fun hcq => ?_) (fun hcq => ?_)
  · have h := it_t hcq h
    cases h
    exact hK W0 (lv_sub hl [0, 1] rfl)
  · have h := it_f hcq h
    refine lv_bipush (v := 16) hx hb dX10_reading_58 (by decide) ?_
    refine lv_aload_n hx hb dX10_reading_60 rfl (lv_at hl 0 rfl) ?_
    obtain ⟨v1, h2, h⟩ := ob h
    refine xr_getI C0 W0 cl_X10 29 (by decide) fl_X10_283 rfl h2 dX10_reading_61 ?_
    refine lv_imul hx hb dX10_reading_64 ?_
    refine lv_iload_n hx hb dX10_reading_65 rfl (lv_at hl 2 rfl) ?_
    refine lv_iadd hx hb dX10_reading_66 ?_
    refine lv_istore_n (lv' := [(3, .int ((16 * v1) + l2)), (0, .ref l0), (1, .int l1), (2, .int l2)]) hx hb dX10_reading_67 rfl hl (by decide) rfl (fun ls hl => ?_)
    refine lv_aload_n hx hb dX10_reading_68 rfl (lv_at hl 1 rfl) ?_
    refine lv_bipush (v := 16) hx hb dX10_reading_69 (by decide) ?_
    refine lv_iload_n hx hb dX10_reading_71 rfl (lv_at hl 2 rfl) ?_
    refine lv_imul hx hb dX10_reading_72 ?_
    refine lv_iload_n hx hb dX10_reading_73 rfl (lv_at hl 3 rfl) ?_
    refine lv_iadd hx hb dX10_reading_74 ?_
    refine lv_aload_n hx hb dX10_reading_75 rfl (lv_at hl 1 rfl) ?_
    obtain ⟨q3, h4, h⟩ := ob h
    refine xr_getR C0 W0 cl_X10 31 (by decide) fl_X10_123 rfl h4 dX10_reading_76 ?_
    refine lv_iload_n hx hb dX10_reading_79 rfl (lv_at hl 0 rfl) ?_
    obtain ⟨v5, h6, h⟩ := ob h
    refine xr_iald C0 W0 h6 dX10_reading_80 ?_
    refine lv_aload_n hx hb dX10_reading_81 rfl (lv_at hl 1 rfl) ?_
    obtain ⟨q7, h8, h⟩ := ob h
    refine xr_getR C0 W0 cl_X10 32 (by decide) fl_X10_126 rfl h8 dX10_reading_82 ?_
    refine lv_iload_n hx hb dX10_reading_85 rfl (lv_at hl 0 rfl) ?_
    obtain ⟨v9, h10, h⟩ := ob h
    refine xr_iald C0 W0 h10 dX10_reading_86 ?_
    refine lv_aload_n hx hb dX10_reading_87 rfl (lv_at hl 1 rfl) ?_
    obtain ⟨q11, h12, h⟩ := ob h
    refine xr_getR C0 W0 cl_X10 33 (by decide) fl_X10_129 rfl h12 dX10_reading_88 ?_
    refine lv_iload_n hx hb dX10_reading_91 rfl (lv_at hl 0 rfl) ?_
    obtain ⟨v13, h14, h⟩ := ob h
    refine xr_iald C0 W0 h14 dX10_reading_92 ?_
    refine lv_aload_n hx hb dX10_reading_93 rfl (lv_at hl 1 rfl) ?_
    obtain ⟨q15, h16, h⟩ := ob h
    refine xr_getR C0 W0 cl_X10 34 (by decide) fl_X10_132 rfl h16 dX10_reading_94 ?_
    refine lv_iload_n hx hb dX10_reading_97 rfl (lv_at hl 0 rfl) ?_
    obtain ⟨v17, h18, h⟩ := ob h
    refine xr_zald C0 W0 h18 dX10_reading_98 ?_
    refine lv_aload_n hx hb dX10_reading_99 rfl (lv_at hl 1 rfl) ?_
    obtain ⟨q19, h20, h⟩ := ob h
    refine xr_getR C0 W0 cl_X10 35 (by decide) fl_X10_135 rfl h20 dX10_reading_100 ?_
    refine lv_iload_n hx hb dX10_reading_103 rfl (lv_at hl 0 rfl) ?_
    obtain ⟨v21, h22, h⟩ := ob h
    refine xr_zald C0 W0 h22 dX10_reading_104 ?_
    obtain ⟨u23, h24, h⟩ := ob h
    obtain ⟨X25, h26, h⟩ := ob h
    refine xr_V (As := [.int ((16 * l1) + l2), .int v5, .int v9, .int v13, .int v17, .int v21]) (rest := []) C0 W0 (ctX10_tells l G h26) (gK_of h24) (rr := (RX10, TX10, 57)) rfl rfl mc_X10_tells mv_X10_tells ml_X10_286 ⟨by decide, by decide⟩ rfl hl.1 rfl (Nat.le_of_ble_eq_true rfl) ⟨by decide, by decide⟩ dX10_reading_105 (fun H locs W0 => ?_)
    refine W.cs (cells' := 0) (slots' := 0) rfl rfl ?_
    refine W.eq (g2 := F0 m 108 ls []) rfl ?_
    refine lv_iinc (v := (l2 + 1)) (lv' := [(2, .int (l2 + 1)), (3, .int ((16 * v1) + l2)), (0, .ref l0), (1, .int l1)]) hx hb dX10_reading_108 hl (k := 3) rfl (ii (by decide)) (by decide) rfl (fun ls hl => ?_)
    refine lv_goto (tgt := 52) hx hb dX10_reading_111 (by decide) ?_
    exact hrec W0 (lv_sub hl [2, 3, 0] rfl) h
theorem tX10_reading_l52 {p : Program} {l : Launch} {e : Env} {s : State} {m : MethodId} {args : Array Value} {below : List Frame} {meth : Method} {c : Code} {G : XG} {X0 : XW} (C0 : XC p s m args meth c RX10 cX10_reading 4 G) (hret : meth.sig.returnType = (some .int)) {r : XW} {l0 : Nat} {l1 : Int32} {Q : State → Prop} (hK : ∀ {H : Heap} {locs : List Loc} {ls : Array Slot}, XD G X0 r s H locs → lv_has ls 4 [(0, .ref l0), (1, .int l1)] → W p l e { frames := 1, cells := 0, slots := 0, locals := 60 } s m args below meth c H locs 0 0 Q (F0 m 114 ls [])) : ∀ (n : Nat) {y2 : Int32} {X : XW} {H : Heap} {locs : List Loc} {ls : Array Slot}, XD G X0 X s H locs → lv_has ls 4 [(0, .ref l0), (1, .int l1), (2, .int y2)] → fX10_reading_l52 l0 l1 n y2 X = some r → W p l e { frames := 1, cells := 0, slots := 0, locals := 60 } s m args below meth c H locs 0 0 Q (F0 m 52 ls []) := by
  intro n
  induction n with
  | zero =>
    intro y2 X H locs ls W0 hl h
    cases h
  | succ n ih =>
    intro y2 X H locs ls W0 hl h
    exact tX10_reading_l52_b C0 hret (rec := fX10_reading_l52 l0 l1 n) (fun W0 hl h => ih W0 hl h) hK W0 hl h
theorem tX10_reading_l116_b {p : Program} {l : Launch} {e : Env} {s : State} {m : MethodId} {args : Array Value} {below : List Frame} {meth : Method} {c : Code} {G : XG} {X0 : XW} (C0 : XC p s m args meth c RX10 cX10_reading 4 G) (hret : meth.sig.returnType = (some .int)) {r : XW} {l0 : Nat} {l1 : Int32} {Q : State → Prop} {rec : Int32 → XW → Option (XW)} (hrec : ∀ {y2 : Int32} {X : XW} {H : Heap} {locs : List Loc} {ls : Array Slot}, XD G X0 X s H locs → lv_has ls 4 [(0, .ref l0), (1, .int l1), (2, .int y2)] → rec y2 X = some r → W p l e { frames := 1, cells := 0, slots := 0, locals := 60 } s m args below meth c H locs 0 0 Q (F0 m 116 ls [])) (hK : ∀ {H : Heap} {locs : List Loc} {ls : Array Slot}, XD G X0 r s H locs → lv_has ls 4 [(0, .ref l0), (1, .int l1)] → W p l e { frames := 1, cells := 0, slots := 0, locals := 60 } s m args below meth c H locs 0 0 Q (F0 m 156 ls []))  {l2 : Int32} {X : XW} {H : Heap} {locs : List Loc} {ls : Array Slot} (W0 : XD G X0 X s H locs) (hl : lv_has ls 4 [(0, .ref l0), (1, .int l1), (2, .int l2)]) (h : fX10_reading_l116_b rec l0 l1 l2 X = some r) : W p l e { frames := 1, cells := 0, slots := 0, locals := 60 } s m args below meth c H locs 0 0 Q (F0 m 116 ls []) := by
  have hx := C0.1
  have hb := C0.2.1
  unfold fX10_reading_l116_b at h
  refine lv_iload_n hx hb dX10_reading_116 rfl (lv_at hl 2 rfl) ?_
  refine lv_sipush (v := 240) hx hb dX10_reading_117 (by decide) ?_
  refine lv_icmp_ge (tgt := 156) hx hb dX10_reading_120 (by decide) (fun hcq => ?_) (fun hcq => ?_)
  · have h := it_t hcq h
    cases h
    exact hK W0 (lv_sub hl [0, 1] rfl)
  · have h := it_f hcq h
    refine lv_aload_n hx hb dX10_reading_123 rfl (lv_at hl 0 rfl) ?_
    obtain ⟨q1, h2, h⟩ := ob h
    refine xr_getR C0 W0 cl_X10 37 (by decide) fl_X10_141 rfl h2 dX10_reading_124 ?_
    refine lv_sipush (v := 240) hx hb dX10_reading_127 (by decide) ?_
    refine lv_iload_n hx hb dX10_reading_130 rfl (lv_at hl 1 rfl) ?_
    refine lv_imul hx hb dX10_reading_131 ?_
    refine lv_iload_n hx hb dX10_reading_132 rfl (lv_at hl 2 rfl) ?_
    refine lv_iadd hx hb dX10_reading_133 ?_
    refine lv_aload_n hx hb dX10_reading_134 rfl (lv_at hl 0 rfl) ?_
    obtain ⟨q3, h4, h⟩ := ob h
    refine xr_getR C0 W0 cl_X10 37 (by decide) fl_X10_141 rfl h4 dX10_reading_135 ?_
    refine lv_sipush (v := 240) hx hb dX10_reading_138 (by decide) ?_
    refine lv_aload_n hx hb dX10_reading_141 rfl (lv_at hl 0 rfl) ?_
    obtain ⟨v5, h6, h⟩ := ob h
    refine xr_getI C0 W0 cl_X10 29 (by decide) fl_X10_283 rfl h6 dX10_reading_142 ?_
    refine lv_imul hx hb dX10_reading_145 ?_
    refine lv_iload_n hx hb dX10_reading_146 rfl (lv_at hl 2 rfl) ?_
    refine lv_iadd hx hb dX10_reading_147 ?_
    obtain ⟨v7, h8, h⟩ := ob h
    refine xr_iald C0 W0 h8 dX10_reading_148 ?_
    obtain ⟨X9, h10, h⟩ := ob h
    refine xr_iast C0 W0 h10 dX10_reading_149 (fun H locs W0 => ?_)
    refine lv_iinc (v := (l2 + 1)) (lv' := [(2, .int (l2 + 1)), (0, .ref l0), (1, .int l1)]) hx hb dX10_reading_150 hl (k := 2) rfl (ii (by decide)) (by decide) rfl (fun ls hl => ?_)
    refine lv_goto (tgt := 116) hx hb dX10_reading_153 (by decide) ?_
    exact hrec W0 (lv_sub hl [1, 2, 0] rfl) h
theorem tX10_reading_l116 {p : Program} {l : Launch} {e : Env} {s : State} {m : MethodId} {args : Array Value} {below : List Frame} {meth : Method} {c : Code} {G : XG} {X0 : XW} (C0 : XC p s m args meth c RX10 cX10_reading 4 G) (hret : meth.sig.returnType = (some .int)) {r : XW} {l0 : Nat} {l1 : Int32} {Q : State → Prop} (hK : ∀ {H : Heap} {locs : List Loc} {ls : Array Slot}, XD G X0 r s H locs → lv_has ls 4 [(0, .ref l0), (1, .int l1)] → W p l e { frames := 1, cells := 0, slots := 0, locals := 60 } s m args below meth c H locs 0 0 Q (F0 m 156 ls [])) : ∀ (n : Nat) {y2 : Int32} {X : XW} {H : Heap} {locs : List Loc} {ls : Array Slot}, XD G X0 X s H locs → lv_has ls 4 [(0, .ref l0), (1, .int l1), (2, .int y2)] → fX10_reading_l116 l0 l1 n y2 X = some r → W p l e { frames := 1, cells := 0, slots := 0, locals := 60 } s m args below meth c H locs 0 0 Q (F0 m 116 ls []) := by
  intro n
  induction n with
  | zero =>
    intro y2 X H locs ls W0 hl h
    cases h
  | succ n ih =>
    intro y2 X H locs ls W0 hl h
    exact tX10_reading_l116_b C0 hret (rec := fX10_reading_l116 l0 l1 n) (fun W0 hl h => ih W0 hl h) hK W0 hl h
theorem ctX10_reading (l : Launch) (G : XG) {l0 : Nat} {X : XW} {r : Int32 × XW}  (h : fX10_reading l0 X = some r) : XM l G yX10_reading cX10_reading 4 (some .int) 1 60 0 0 [.ref l0] X (some (.int r.1), r.2) := by
  refine xm_of (own := RX10) (by decide) rfl (Nat.le_of_ble_eq_true rfl) ?_
  intro p e s m below meth c ls C0 W0 hret hnm hl
  have hx := C0.1
  have hb := C0.2.1
  have hl : lv_has ls 4 [(0, .ref l0)] := hl
  unfold fX10_reading at h
  refine lv_aload_n hx hb dX10_reading_0 rfl (lv_at hl 0 rfl) ?_
  refine lv_iconst (v := 0) hx hb dX10_reading_1 (by decide) ?_
  obtain ⟨X1, h2, h⟩ := ob h
  refine xr_putI C0 W0 cl_X10 0 (by decide) fl_X10_1 rfl rfl rfl (by decide) h2 dX10_reading_2 (fun H locs W0 => ?_)
  refine lv_aload_n hx hb dX10_reading_5 rfl (lv_at hl 0 rfl) ?_
  obtain ⟨v3, h4, h⟩ := ob h
  refine xr_getI C0 W0 cl_X10 28 (by decide) fl_X10_117 rfl h4 dX10_reading_6 ?_
  refine lv_iconst (v := 4) hx hb dX10_reading_9 (by decide) ?_
  refine lv_icmp_ne (tgt := 15) hx hb dX10_reading_10 (by decide) (fun hcq => ?_) (fun hcq => ?_)
  · have h := it_f hcq h
    refine lv_aload_n hx hb dX10_reading_15 rfl (lv_at hl 0 rfl) ?_
    obtain ⟨v5, h6, h⟩ := ob h
    refine xr_getI C0 W0 cl_X10 28 (by decide) fl_X10_117 rfl h6 dX10_reading_16 ?_
    refine lv_istore_n (lv' := [(1, .int v5), (0, .ref l0)]) hx hb dX10_reading_19 rfl hl (by decide) rfl (fun ls hl => ?_)
    refine lv_aload_n hx hb dX10_reading_20 rfl (lv_at hl 1 rfl) ?_
    obtain ⟨q7, h8, h⟩ := ob h
    refine xr_getR C0 W0 cl_X10 30 (by decide) fl_X10_120 rfl h8 dX10_reading_21 ?_
    refine lv_iload_n hx hb dX10_reading_24 rfl (lv_at hl 0 rfl) ?_
    refine lv_aload_n hx hb dX10_reading_25 rfl (lv_at hl 1 rfl) ?_
    obtain ⟨q9, h10, h⟩ := ob h
    refine xr_getR C0 W0 cl_X10 30 (by decide) fl_X10_120 rfl h10 dX10_reading_26 ?_
    refine lv_aload_n hx hb dX10_reading_29 rfl (lv_at hl 1 rfl) ?_
    obtain ⟨v11, h12, h⟩ := ob h
    refine xr_getI C0 W0 cl_X10 29 (by decide) fl_X10_283 rfl h12 dX10_reading_30 ?_
    obtain ⟨v13, h14, h⟩ := ob h
    refine xr_iald C0 W0 h14 dX10_reading_33 ?_
    obtain ⟨X15, h16, h⟩ := ob h
    refine xr_iast C0 W0 h16 dX10_reading_34 (fun H locs W0 => ?_)
    refine lv_aload_n hx hb dX10_reading_35 rfl (lv_at hl 1 rfl) ?_
    obtain ⟨q17, h18, h⟩ := ob h
    refine xr_getR C0 W0 cl_X10 36 (by decide) fl_X10_138 rfl h18 dX10_reading_36 ?_
    refine lv_iload_n hx hb dX10_reading_39 rfl (lv_at hl 0 rfl) ?_
    refine lv_aload_n hx hb dX10_reading_40 rfl (lv_at hl 1 rfl) ?_
    obtain ⟨q19, h20, h⟩ := ob h
    refine xr_getR C0 W0 cl_X10 36 (by decide) fl_X10_138 rfl h20 dX10_reading_41 ?_
    refine lv_aload_n hx hb dX10_reading_44 rfl (lv_at hl 1 rfl) ?_
    obtain ⟨v21, h22, h⟩ := ob h
    refine xr_getI C0 W0 cl_X10 29 (by decide) fl_X10_283 rfl h22 dX10_reading_45 ?_
    obtain ⟨v23, h24, h⟩ := ob h
    refine xr_iald C0 W0 h24 dX10_reading_48 ?_
    obtain ⟨X25, h26, h⟩ := ob h
    refine xr_iast C0 W0 h26 dX10_reading_49 (fun H locs W0 => ?_)
    refine lv_iconst (v := 0) hx hb dX10_reading_50 (by decide) ?_
    refine lv_istore_n (lv' := [(2, .int 0), (1, .int v5), (0, .ref l0)]) hx hb dX10_reading_51 rfl hl (by decide) rfl (fun ls hl => ?_)
    obtain ⟨r27, h28, h⟩ := ob h
    refine tX10_reading_l52 C0 hret (fun {H} {locs} {ls} W0 hl => ?_) FU W0 (lv_sub hl [2, 1, 0] rfl) h28
    refine lv_iconst (v := 0) hx hb dX10_reading_114 (by decide) ?_
    refine lv_istore_n (lv' := [(2, .int 0), (0, .ref l0), (1, .int v5)]) hx hb dX10_reading_115 rfl hl (by decide) rfl (fun ls hl => ?_)
    obtain ⟨r29, h30, h⟩ := ob h
    refine tX10_reading_l116 C0 hret (fun {H} {locs} {ls} W0 hl => ?_) FU W0 (lv_sub hl [1, 2, 0] rfl) h30
    refine lv_aload_n hx hb dX10_reading_156 rfl (lv_at hl 0 rfl) ?_
    refine lv_dup hx hb dX10_reading_157 rfl ?_
    obtain ⟨v31, h32, h⟩ := ob h
    refine xr_getI C0 W0 cl_X10 28 (by decide) fl_X10_117 rfl h32 dX10_reading_158 ?_
    refine lv_iconst (v := 1) hx hb dX10_reading_161 (by decide) ?_
    refine lv_iadd hx hb dX10_reading_162 ?_
    obtain ⟨X33, h34, h⟩ := ob h
    refine xr_putI C0 W0 cl_X10 28 (by decide) fl_X10_117 rfl rfl rfl (by decide) h34 dX10_reading_163 (fun H locs W0 => ?_)
    refine lv_aload_n hx hb dX10_reading_166 rfl (lv_at hl 0 rfl) ?_
    refine lv_iload_n hx hb dX10_reading_167 rfl (lv_at hl 1 rfl) ?_
    obtain ⟨X35, h36, h⟩ := ob h
    refine xr_putI C0 W0 cl_X10 29 (by decide) fl_X10_283 rfl rfl rfl (by decide) h36 dX10_reading_168 (fun H locs W0 => ?_)
    refine lv_iload_n hx hb dX10_reading_171 rfl (lv_at hl 1 rfl) ?_
    exact xr_iret C0 W0 hret (Option.some.inj h) dX10_reading_172
  · have h := it_t hcq h
    refine lv_iconst (v := (-1)) hx hb dX10_reading_13 (by decide) ?_
    exact xr_iret C0 W0 hret (Option.some.inj h) dX10_reading_14
def fX10_isReading (l0 : Nat) (l1 : Int32) (X : XW) : Option (Int32 × XW) :=
  if (l1 < 0 : Prop) then (some (0, X))
  else (gI X l0 10 28 >>= fun v1 =>
    if (v1 ≤ l1 : Prop) then (some (0, X))
    else (some (1, X)))
theorem ctX10_isReading (l : Launch) (G : XG) {l0 : Nat} {l1 : Int32} {X : XW} {r : Int32 × XW}  (h : fX10_isReading l0 l1 X = some r) : XM l G yX10_isReading cX10_isReading 2 (some .boolean) 0 0 0 0 [.ref l0, .int l1] X (some (.int r.1), r.2) := by
  refine xm_of (own := RX10) (by decide) rfl (Nat.le_of_ble_eq_true rfl) ?_
  intro p e s m below meth c ls C0 W0 hret hnm hl
  have hx := C0.1
  have hb := C0.2.1
  have hl : lv_has ls 2 [(0, .ref l0), (1, .int l1)] := hl
  unfold fX10_isReading at h
  refine lv_iload_n hx hb dX10_isReading_0 rfl (lv_at hl 1 rfl) ?_
  refine lv_if_lt (tgt := 16) hx hb dX10_isReading_1 (by decide) (fun hcq => ?_) (fun hcq => ?_)
  · have h := it_t hcq h
    refine lv_iconst (v := 0) hx hb dX10_isReading_16 (by decide) ?_
    exact xr_zret C0 W0 hret (by decide) (Option.some.inj h) dX10_isReading_17
  · have h := it_f hcq h
    refine lv_iload_n hx hb dX10_isReading_4 rfl (lv_at hl 1 rfl) ?_
    refine lv_aload_n hx hb dX10_isReading_5 rfl (lv_at hl 0 rfl) ?_
    obtain ⟨v1, h2, h⟩ := ob h
    refine xr_getI C0 W0 cl_X10 28 (by decide) fl_X10_117 rfl h2 dX10_isReading_6 ?_
    refine lv_icmp_ge (tgt := 16) hx hb dX10_isReading_9 (by decide) (fun hcq => ?_) (fun hcq => ?_)
    · have h := it_t hcq h
      refine lv_iconst (v := 0) hx hb dX10_isReading_16 (by decide) ?_
      exact xr_zret C0 W0 hret (by decide) (Option.some.inj h) dX10_isReading_17
    · have h := it_f hcq h
      refine lv_iconst (v := 1) hx hb dX10_isReading_12 (by decide) ?_
      refine lv_goto (tgt := 17) hx hb dX10_isReading_13 (by decide) ?_
      exact xr_zret C0 W0 hret (by decide) (Option.some.inj h) dX10_isReading_17
def fX10_take (l0 : Nat) (l1 : Int32) (X : XW) : Option (Int32 × XW) :=
  pI X l0 10 0 0 >>= fun X1 =>
  gK X1 l0 10 >>= fun u3 =>
  fX10_isReading l0 l1 X1 >>= fun r5 =>
  if (r5.1 = 0 : Prop) then (some (0, r5.2))
  else (pI r5.2 l0 10 29 l1 >>= fun X7 =>
    some (1, X7))
theorem ctX10_take (l : Launch) (G : XG) {l0 : Nat} {l1 : Int32} {X : XW} {r : Int32 × XW}  (h : fX10_take l0 l1 X = some r) : XM l G yX10_take cX10_take 2 (some .boolean) 1 60 0 0 [.ref l0, .int l1] X (some (.int r.1), r.2) := by
  refine xm_of (own := RX10) (by decide) rfl (Nat.le_of_ble_eq_true rfl) ?_
  intro p e s m below meth c ls C0 W0 hret hnm hl
  have hx := C0.1
  have hb := C0.2.1
  have hl : lv_has ls 2 [(0, .ref l0), (1, .int l1)] := hl
  unfold fX10_take at h
  refine lv_aload_n hx hb dX10_take_0 rfl (lv_at hl 0 rfl) ?_
  refine lv_iconst (v := 0) hx hb dX10_take_1 (by decide) ?_
  obtain ⟨X1, h2, h⟩ := ob h
  refine xr_putI C0 W0 cl_X10 0 (by decide) fl_X10_1 rfl rfl rfl (by decide) h2 dX10_take_2 (fun H locs W0 => ?_)
  refine lv_aload_n hx hb dX10_take_5 rfl (lv_at hl 0 rfl) ?_
  refine lv_iload_n hx hb dX10_take_6 rfl (lv_at hl 1 rfl) ?_
  obtain ⟨u3, h4, h⟩ := ob h
  obtain ⟨r5, h6, h⟩ := ob h
  refine xr_V (As := [.int l1]) (rest := []) C0 W0 (ctX10_isReading l G h6) (gK_of h4) (rr := (RX10, TX10, 57)) rfl rfl mc_X10_isReading mv_X10_isReading ml_X10_290 ⟨by decide, by decide⟩ rfl hl.1 rfl (Nat.le_of_ble_eq_true rfl) ⟨by decide, by decide⟩ dX10_take_7 (fun H locs W0 => ?_)
  refine W.cs (cells' := 0) (slots' := 0) rfl rfl ?_
  refine W.eq (g2 := F0 m 10 ls [.int r5.1]) rfl ?_
  refine lv_if_ne (tgt := 15) hx hb dX10_take_10 (by decide) (fun hcq => ?_) (fun hcq => ?_)
  · have h := it_f hcq h
    refine lv_aload_n hx hb dX10_take_15 rfl (lv_at hl 0 rfl) ?_
    refine lv_iload_n hx hb dX10_take_16 rfl (lv_at hl 1 rfl) ?_
    obtain ⟨X7, h8, h⟩ := ob h
    refine xr_putI C0 W0 cl_X10 29 (by decide) fl_X10_283 rfl rfl rfl (by decide) h8 dX10_take_17 (fun H locs W0 => ?_)
    refine lv_iconst (v := 1) hx hb dX10_take_20 (by decide) ?_
    exact xr_zret C0 W0 hret (by decide) (Option.some.inj h) dX10_take_21
  · have h := it_t hcq h
    refine lv_iconst (v := 0) hx hb dX10_take_13 (by decide) ?_
    exact xr_zret C0 W0 hret (by decide) (Option.some.inj h) dX10_take_14
def fX10_tune (l0 : Nat) (l1 : Int32) (X : XW) : Option (Int32 × XW) :=
  pI X l0 10 0 0 >>= fun X1 =>
  if (l1 < 0 : Prop) then (some (0, X1))
  else (if (l1 ≤ 3 : Prop) then (gR X1 l0 10 36 >>= fun q3 =>
      gI X1 l0 10 29 >>= fun v5 =>
      uI X1 q3 v5 l1 >>= fun X7 =>
      some (1, X7))
    else (some (0, X1)))
theorem ctX10_tune (l : Launch) (G : XG) {l0 : Nat} {l1 : Int32} {X : XW} {r : Int32 × XW}  (h : fX10_tune l0 l1 X = some r) : XM l G yX10_tune cX10_tune 2 (some .boolean) 0 0 0 0 [.ref l0, .int l1] X (some (.int r.1), r.2) := by
  refine xm_of (own := RX10) (by decide) rfl (Nat.le_of_ble_eq_true rfl) ?_
  intro p e s m below meth c ls C0 W0 hret hnm hl
  have hx := C0.1
  have hb := C0.2.1
  have hl : lv_has ls 2 [(0, .ref l0), (1, .int l1)] := hl
  unfold fX10_tune at h
  refine lv_aload_n hx hb dX10_tune_0 rfl (lv_at hl 0 rfl) ?_
  refine lv_iconst (v := 0) hx hb dX10_tune_1 (by decide) ?_
  obtain ⟨X1, h2, h⟩ := ob h
  refine xr_putI C0 W0 cl_X10 0 (by decide) fl_X10_1 rfl rfl rfl (by decide) h2 dX10_tune_2 (fun H locs W0 => ?_)
  refine lv_iload_n hx hb dX10_tune_5 rfl (lv_at hl 1 rfl) ?_
  refine lv_if_lt (tgt := 14) hx hb dX10_tune_6 (by decide) (fun hcq => ?_) (fun hcq => ?_)
  · have h := it_t hcq h
    refine lv_iconst (v := 0) hx hb dX10_tune_14 (by decide) ?_
    exact xr_zret C0 W0 hret (by decide) (Option.some.inj h) dX10_tune_15
  · have h := it_f hcq h
    refine lv_iload_n hx hb dX10_tune_9 rfl (lv_at hl 1 rfl) ?_
    refine lv_iconst (v := 3) hx hb dX10_tune_10 (by decide) ?_
    refine lv_icmp_le (tgt := 16) hx hb dX10_tune_11 (by decide) (fun hcq => ?_) (fun hcq => ?_)
    · have h := it_t hcq h
      refine lv_aload_n hx hb dX10_tune_16 rfl (lv_at hl 0 rfl) ?_
      obtain ⟨q3, h4, h⟩ := ob h
      refine xr_getR C0 W0 cl_X10 36 (by decide) fl_X10_138 rfl h4 dX10_tune_17 ?_
      refine lv_aload_n hx hb dX10_tune_20 rfl (lv_at hl 0 rfl) ?_
      obtain ⟨v5, h6, h⟩ := ob h
      refine xr_getI C0 W0 cl_X10 29 (by decide) fl_X10_283 rfl h6 dX10_tune_21 ?_
      refine lv_iload_n hx hb dX10_tune_24 rfl (lv_at hl 1 rfl) ?_
      obtain ⟨X7, h8, h⟩ := ob h
      refine xr_iast C0 W0 h8 dX10_tune_25 (fun H locs W0 => ?_)
      refine lv_iconst (v := 1) hx hb dX10_tune_26 (by decide) ?_
      exact xr_zret C0 W0 hret (by decide) (Option.some.inj h) dX10_tune_27
    · have h := it_f hcq h
      refine lv_iconst (v := 0) hx hb dX10_tune_14 (by decide) ?_
      exact xr_zret C0 W0 hret (by decide) (Option.some.inj h) dX10_tune_15
def fX10_ideal (l0 : Nat) (l1 : Int32) (X : XW) : Option (Int32 × XW) :=
  pI X l0 10 0 0 >>= fun X1 =>
  if (l1 < 1 : Prop) then (some (0, X1))
  else (if (l1 ≤ 20 : Prop) then (pI X1 l0 10 38 l1 >>= fun X3 =>
      some (1, X3))
    else (some (0, X1)))
theorem ctX10_ideal (l : Launch) (G : XG) {l0 : Nat} {l1 : Int32} {X : XW} {r : Int32 × XW}  (h : fX10_ideal l0 l1 X = some r) : XM l G yX10_ideal cX10_ideal 2 (some .boolean) 0 0 0 0 [.ref l0, .int l1] X (some (.int r.1), r.2) := by
  refine xm_of (own := RX10) (by decide) rfl (Nat.le_of_ble_eq_true rfl) ?_
  intro p e s m below meth c ls C0 W0 hret hnm hl
  have hx := C0.1
  have hb := C0.2.1
  have hl : lv_has ls 2 [(0, .ref l0), (1, .int l1)] := hl
  unfold fX10_ideal at h
  refine lv_aload_n hx hb dX10_ideal_0 rfl (lv_at hl 0 rfl) ?_
  refine lv_iconst (v := 0) hx hb dX10_ideal_1 (by decide) ?_
  obtain ⟨X1, h2, h⟩ := ob h
  refine xr_putI C0 W0 cl_X10 0 (by decide) fl_X10_1 rfl rfl rfl (by decide) h2 dX10_ideal_2 (fun H locs W0 => ?_)
  refine lv_iload_n hx hb dX10_ideal_5 rfl (lv_at hl 1 rfl) ?_
  refine lv_iconst (v := 1) hx hb dX10_ideal_6 (by decide) ?_
  refine lv_icmp_lt (tgt := 16) hx hb dX10_ideal_7 (by decide) (fun hcq => ?_) (fun hcq => ?_)
  · have h := it_t hcq h
    refine lv_iconst (v := 0) hx hb dX10_ideal_16 (by decide) ?_
    exact xr_zret C0 W0 hret (by decide) (Option.some.inj h) dX10_ideal_17
  · have h := it_f hcq h
    refine lv_iload_n hx hb dX10_ideal_10 rfl (lv_at hl 1 rfl) ?_
    refine lv_bipush (v := 20) hx hb dX10_ideal_11 (by decide) ?_
    refine lv_icmp_le (tgt := 18) hx hb dX10_ideal_13 (by decide) (fun hcq => ?_) (fun hcq => ?_)
    · have h := it_t hcq h
      refine lv_aload_n hx hb dX10_ideal_18 rfl (lv_at hl 0 rfl) ?_
      refine lv_iload_n hx hb dX10_ideal_19 rfl (lv_at hl 1 rfl) ?_
      obtain ⟨X3, h4, h⟩ := ob h
      refine xr_putI C0 W0 cl_X10 38 (by decide) fl_X10_144 rfl rfl rfl (by decide) h4 dX10_ideal_20 (fun H locs W0 => ?_)
      refine lv_iconst (v := 1) hx hb dX10_ideal_23 (by decide) ?_
      exact xr_zret C0 W0 hret (by decide) (Option.some.inj h) dX10_ideal_24
    · have h := it_f hcq h
      refine lv_iconst (v := 0) hx hb dX10_ideal_16 (by decide) ?_
      exact xr_zret C0 W0 hret (by decide) (Option.some.inj h) dX10_ideal_17
def fX10_speed (l0 : Nat) (l1 : Int32) (l2 : Int32) (X : XW) : Option (Int32 × XW) :=
  pI X l0 10 0 0 >>= fun X1 =>
  if (l1 < 1 : Prop) then (some (0, X1))
  else (if (100 < l1 : Prop) then (some (0, X1))
    else (if (l2 < 1 : Prop) then (some (0, X1))
      else (if (l2 ≤ 100 : Prop) then (pI X1 l0 10 39 l1 >>= fun X3 =>
          pI X3 l0 10 40 l2 >>= fun X5 =>
          some (1, X5))
        else (some (0, X1)))))
theorem ctX10_speed (l : Launch) (G : XG) {l0 : Nat} {l1 : Int32} {l2 : Int32} {X : XW} {r : Int32 × XW}  (h : fX10_speed l0 l1 l2 X = some r) : XM l G yX10_speed cX10_speed 3 (some .boolean) 0 0 0 0 [.ref l0, .int l1, .int l2] X (some (.int r.1), r.2) := by
  refine xm_of (own := RX10) (by decide) rfl (Nat.le_of_ble_eq_true rfl) ?_
  intro p e s m below meth c ls C0 W0 hret hnm hl
  have hx := C0.1
  have hb := C0.2.1
  have hl : lv_has ls 3 [(0, .ref l0), (1, .int l1), (2, .int l2)] := hl
  unfold fX10_speed at h
  refine lv_aload_n hx hb dX10_speed_0 rfl (lv_at hl 0 rfl) ?_
  refine lv_iconst (v := 0) hx hb dX10_speed_1 (by decide) ?_
  obtain ⟨X1, h2, h⟩ := ob h
  refine xr_putI C0 W0 cl_X10 0 (by decide) fl_X10_1 rfl rfl rfl (by decide) h2 dX10_speed_2 (fun H locs W0 => ?_)
  refine lv_iload_n hx hb dX10_speed_5 rfl (lv_at hl 1 rfl) ?_
  refine lv_iconst (v := 1) hx hb dX10_speed_6 (by decide) ?_
  refine lv_icmp_lt (tgt := 27) hx hb dX10_speed_7 (by decide) (fun hcq => ?_) (fun hcq => ?_)
  · have h := it_t hcq h
    refine lv_iconst (v := 0) hx hb dX10_speed_27 (by decide) ?_
    exact xr_zret C0 W0 hret (by decide) (Option.some.inj h) dX10_speed_28
  · have h := it_f hcq h
    refine lv_iload_n hx hb dX10_speed_10 rfl (lv_at hl 1 rfl) ?_
    refine lv_bipush (v := 100) hx hb dX10_speed_11 (by decide) ?_
    refine lv_icmp_gt (tgt := 27) hx hb dX10_speed_13 (by decide) (fun hcq => ?_) (fun hcq => ?_)
    · have h := it_t hcq h
      refine lv_iconst (v := 0) hx hb dX10_speed_27 (by decide) ?_
      exact xr_zret C0 W0 hret (by decide) (Option.some.inj h) dX10_speed_28
    · have h := it_f hcq h
      refine lv_iload_n hx hb dX10_speed_16 rfl (lv_at hl 2 rfl) ?_
      refine lv_iconst (v := 1) hx hb dX10_speed_17 (by decide) ?_
      refine lv_icmp_lt (tgt := 27) hx hb dX10_speed_18 (by decide) (fun hcq => ?_) (fun hcq => ?_)
      · have h := it_t hcq h
        refine lv_iconst (v := 0) hx hb dX10_speed_27 (by decide) ?_
        exact xr_zret C0 W0 hret (by decide) (Option.some.inj h) dX10_speed_28
      · have h := it_f hcq h
        refine lv_iload_n hx hb dX10_speed_21 rfl (lv_at hl 2 rfl) ?_
        refine lv_bipush (v := 100) hx hb dX10_speed_22 (by decide) ?_
        refine lv_icmp_le (tgt := 29) hx hb dX10_speed_24 (by decide) (fun hcq => ?_) (fun hcq => ?_)
        · have h := it_t hcq h
          refine lv_aload_n hx hb dX10_speed_29 rfl (lv_at hl 0 rfl) ?_
          refine lv_iload_n hx hb dX10_speed_30 rfl (lv_at hl 1 rfl) ?_
          obtain ⟨X3, h4, h⟩ := ob h
          refine xr_putI C0 W0 cl_X10 39 (by decide) fl_X10_147 rfl rfl rfl (by decide) h4 dX10_speed_31 (fun H locs W0 => ?_)
          refine lv_aload_n hx hb dX10_speed_34 rfl (lv_at hl 0 rfl) ?_
          refine lv_iload_n hx hb dX10_speed_35 rfl (lv_at hl 2 rfl) ?_
          obtain ⟨X5, h6, h⟩ := ob h
          refine xr_putI C0 W0 cl_X10 40 (by decide) fl_X10_150 rfl rfl rfl (by decide) h6 dX10_speed_36 (fun H locs W0 => ?_)
          refine lv_iconst (v := 1) hx hb dX10_speed_39 (by decide) ?_
          exact xr_zret C0 W0 hret (by decide) (Option.some.inj h) dX10_speed_40
        · have h := it_f hcq h
          refine lv_iconst (v := 0) hx hb dX10_speed_27 (by decide) ?_
          exact xr_zret C0 W0 hret (by decide) (Option.some.inj h) dX10_speed_28
def fX10_soundsOf_l7_b (rec : Int32 → Int32 → XW → Option (Int32 × XW)) (l0 : Nat) (l1 : Int32) (l2 : Int32) (l3 : Int32) (X : XW) : Option (Int32 × XW) :=
  gR X l0 10 30 >>= fun q1 =>
  aI X q1 1 l1 >>= fun v3 =>
  if (((16 * l1) + v3) ≤ l3 : Prop) then (some (l2, X))
  else (gR X l0 10 31 >>= fun q5 =>
    aI X q5 1 l3 >>= fun v7 =>
    rec (l2 + v7) (l3 + 1) X)
def fX10_soundsOf_l7 (l0 : Nat) (l1 : Int32) (n : Nat) : Int32 → Int32 → XW → Option (Int32 × XW) := iter (fun rec => fX10_soundsOf_l7_b rec l0 l1) (fun _ _ _ => none) n
def fX10_soundsOf (l0 : Nat) (l1 : Int32) (X : XW) : Option (Int32 × XW) :=
  fX10_soundsOf_l7 l0 l1 FU 0 (16 * l1) X >>= fun r1 =>
  some (r1.1, r1.2)
theorem tX10_soundsOf_l7_b {p : Program} {l : Launch} {e : Env} {s : State} {m : MethodId} {args : Array Value} {below : List Frame} {meth : Method} {c : Code} {G : XG} {X0 : XW} (C0 : XC p s m args meth c RX10 cX10_soundsOf 4 G) (hret : meth.sig.returnType = (some .int)) {r : Int32 × XW} {l0 : Nat} {l1 : Int32} {Q : State → Prop} {rec : Int32 → Int32 → XW → Option (Int32 × XW)} (hrec : ∀ {y2 : Int32} {y3 : Int32} {X : XW} {H : Heap} {locs : List Loc} {ls : Array Slot}, XD G X0 X s H locs → lv_has ls 4 [(0, .ref l0), (1, .int l1), (2, .int y2), (3, .int y3)] → rec y2 y3 X = some r → W p l e { frames := 0, cells := 0, slots := 0, locals := 0 } s m args below meth c H locs 0 0 Q (F0 m 7 ls [])) (hK : ∀ {H : Heap} {locs : List Loc} {ls : Array Slot}, XD G X0 r.2 s H locs → lv_has ls 4 [(2, .int r.1)] → W p l e { frames := 0, cells := 0, slots := 0, locals := 0 } s m args below meth c H locs 0 0 Q (F0 m 37 ls []))  {l2 : Int32} {l3 : Int32} {X : XW} {H : Heap} {locs : List Loc} {ls : Array Slot} (W0 : XD G X0 X s H locs) (hl : lv_has ls 4 [(0, .ref l0), (1, .int l1), (2, .int l2), (3, .int l3)]) (h : fX10_soundsOf_l7_b rec l0 l1 l2 l3 X = some r) : W p l e { frames := 0, cells := 0, slots := 0, locals := 0 } s m args below meth c H locs 0 0 Q (F0 m 7 ls []) := by
  have hx := C0.1
  have hb := C0.2.1
  unfold fX10_soundsOf_l7_b at h
  refine lv_iload_n hx hb dX10_soundsOf_7 rfl (lv_at hl 3 rfl) ?_
  refine lv_bipush (v := 16) hx hb dX10_soundsOf_8 (by decide) ?_
  refine lv_iload_n hx hb dX10_soundsOf_10 rfl (lv_at hl 1 rfl) ?_
  refine lv_imul hx hb dX10_soundsOf_11 ?_
  refine lv_aload_n hx hb dX10_soundsOf_12 rfl (lv_at hl 0 rfl) ?_
  obtain ⟨q1, h2, h⟩ := ob h
  refine xr_getR C0 W0 cl_X10 30 (by decide) fl_X10_120 rfl h2 dX10_soundsOf_13 ?_
  refine lv_iload_n hx hb dX10_soundsOf_16 rfl (lv_at hl 1 rfl) ?_
  obtain ⟨v3, h4, h⟩ := ob h
  refine xr_iald C0 W0 h4 dX10_soundsOf_17 ?_
  refine lv_iadd hx hb dX10_soundsOf_18 ?_
  refine lv_icmp_ge (tgt := 37) hx hb dX10_soundsOf_19 (by decide) (fun hcq => ?_) (fun hcq => ?_)
  · have h := it_t hcq h
    cases h
    exact hK W0 (lv_sub hl [2] rfl)
  · have h := it_f hcq h
    refine lv_iload_n hx hb dX10_soundsOf_22 rfl (lv_at hl 2 rfl) ?_
    refine lv_aload_n hx hb dX10_soundsOf_23 rfl (lv_at hl 0 rfl) ?_
    obtain ⟨q5, h6, h⟩ := ob h
    refine xr_getR C0 W0 cl_X10 31 (by decide) fl_X10_123 rfl h6 dX10_soundsOf_24 ?_
    refine lv_iload_n hx hb dX10_soundsOf_27 rfl (lv_at hl 3 rfl) ?_
    obtain ⟨v7, h8, h⟩ := ob h
    refine xr_iald C0 W0 h8 dX10_soundsOf_28 ?_
    refine lv_iadd hx hb dX10_soundsOf_29 ?_
    refine lv_istore_n (lv' := [(2, .int (l2 + v7)), (0, .ref l0), (1, .int l1), (3, .int l3)]) hx hb dX10_soundsOf_30 rfl hl (by decide) rfl (fun ls hl => ?_)
    refine lv_iinc (v := (l3 + 1)) (lv' := [(3, .int (l3 + 1)), (2, .int (l2 + v7)), (0, .ref l0), (1, .int l1)]) hx hb dX10_soundsOf_31 hl (k := 3) rfl (ii (by decide)) (by decide) rfl (fun ls hl => ?_)
    refine lv_goto (tgt := 7) hx hb dX10_soundsOf_34 (by decide) ?_
    exact hrec W0 (lv_sub hl [2, 3, 1, 0] rfl) h
theorem tX10_soundsOf_l7 {p : Program} {l : Launch} {e : Env} {s : State} {m : MethodId} {args : Array Value} {below : List Frame} {meth : Method} {c : Code} {G : XG} {X0 : XW} (C0 : XC p s m args meth c RX10 cX10_soundsOf 4 G) (hret : meth.sig.returnType = (some .int)) {r : Int32 × XW} {l0 : Nat} {l1 : Int32} {Q : State → Prop} (hK : ∀ {H : Heap} {locs : List Loc} {ls : Array Slot}, XD G X0 r.2 s H locs → lv_has ls 4 [(2, .int r.1)] → W p l e { frames := 0, cells := 0, slots := 0, locals := 0 } s m args below meth c H locs 0 0 Q (F0 m 37 ls [])) : ∀ (n : Nat) {y2 : Int32} {y3 : Int32} {X : XW} {H : Heap} {locs : List Loc} {ls : Array Slot}, XD G X0 X s H locs → lv_has ls 4 [(0, .ref l0), (1, .int l1), (2, .int y2), (3, .int y3)] → fX10_soundsOf_l7 l0 l1 n y2 y3 X = some r → W p l e { frames := 0, cells := 0, slots := 0, locals := 0 } s m args below meth c H locs 0 0 Q (F0 m 7 ls []) := by
  intro n
  induction n with
  | zero =>
    intro y2 y3 X H locs ls W0 hl h
    cases h
  | succ n ih =>
    intro y2 y3 X H locs ls W0 hl h
    exact tX10_soundsOf_l7_b C0 hret (rec := fX10_soundsOf_l7 l0 l1 n) (fun W0 hl h => ih W0 hl h) hK W0 hl h
theorem ctX10_soundsOf (l : Launch) (G : XG) {l0 : Nat} {l1 : Int32} {X : XW} {r : Int32 × XW}  (h : fX10_soundsOf l0 l1 X = some r) : XM l G yX10_soundsOf cX10_soundsOf 4 (some .int) 0 0 0 0 [.ref l0, .int l1] X (some (.int r.1), r.2) := by
  refine xm_of (own := RX10) (by decide) rfl (Nat.le_of_ble_eq_true rfl) ?_
  intro p e s m below meth c ls C0 W0 hret hnm hl
  have hx := C0.1
  have hb := C0.2.1
  have hl : lv_has ls 4 [(0, .ref l0), (1, .int l1)] := hl
  unfold fX10_soundsOf at h
  refine lv_iconst (v := 0) hx hb dX10_soundsOf_0 (by decide) ?_
  refine lv_istore_n (lv' := [(2, .int 0), (0, .ref l0), (1, .int l1)]) hx hb dX10_soundsOf_1 rfl hl (by decide) rfl (fun ls hl => ?_)
  refine lv_bipush (v := 16) hx hb dX10_soundsOf_2 (by decide) ?_
  refine lv_iload_n hx hb dX10_soundsOf_4 rfl (lv_at hl 2 rfl) ?_
  refine lv_imul hx hb dX10_soundsOf_5 ?_
  refine lv_istore_n (lv' := [(3, .int (16 * l1)), (2, .int 0), (0, .ref l0), (1, .int l1)]) hx hb dX10_soundsOf_6 rfl hl (by decide) rfl (fun ls hl => ?_)
  obtain ⟨r1, h2, h⟩ := ob h
  refine tX10_soundsOf_l7 C0 hret (fun {H} {locs} {ls} W0 hl => ?_) FU W0 (lv_sub hl [2, 3, 1, 0] rfl) h2
  refine lv_iload_n hx hb dX10_soundsOf_37 rfl (lv_at hl 0 rfl) ?_
  exact xr_iret C0 W0 hret (Option.some.inj h) dX10_soundsOf_38
def fX10_hand_j74  (l0 : Nat) (l1 : Int32) (l2 : Int32) (l3 : Int32) (X : XW) : Option (Int32 × XW) :=
  gR X l0 10 37 >>= fun q1 =>
  gI X l0 10 29 >>= fun v3 =>
  uI X q1 ((3 * ((80 * v3) + l1)) + l2) l3 >>= fun X5 =>
  some (1, X5)
def fX10_hand_j28  (l0 : Nat) (l1 : Int32) (l2 : Int32) (l3 : Int32) (l4 : Int32) (s0 : Int32) (X : XW) : Option (Int32 × XW) :=
  if (l1 < 0 : Prop) then (some (0, X))
  else (gI X l0 10 29 >>= fun v1 =>
    gK X l0 10 >>= fun u3 =>
    fX10_soundsOf l0 v1 X >>= fun r5 =>
    if (r5.1 ≤ l1 : Prop) then (some (0, r5.2))
    else (if (l2 < 0 : Prop) then (some (0, r5.2))
      else (if (2 < l2 : Prop) then (some (0, r5.2))
        else (if (l3 = (-1) : Prop) then (fX10_hand_j74 l0 l1 l2 l3 r5.2)
          else (if (l3 < l4 : Prop) then (some (0, r5.2))
            else (if (l3 ≤ s0 : Prop) then (fX10_hand_j74 l0 l1 l2 l3 r5.2)
              else (some (0, r5.2))))))))
def fX10_hand_j14  (l0 : Nat) (l1 : Int32) (l2 : Int32) (l3 : Int32) (s0 : Int32) (X : XW) : Option (Int32 × XW) :=
  if (l2 = 2 : Prop) then (fX10_hand_j28 l0 l1 l2 l3 s0 9 X)
  else (fX10_hand_j28 l0 l1 l2 l3 s0 99 X)
def fX10_hand (l0 : Nat) (l1 : Int32) (l2 : Int32) (l3 : Int32) (X : XW) : Option (Int32 × XW) :=
  pI X l0 10 0 0 >>= fun X1 =>
  if (l2 = 0 : Prop) then (fX10_hand_j14 l0 l1 l2 l3 1 X1)
  else (fX10_hand_j14 l0 l1 l2 l3 0 X1)
theorem tX10_hand_j74 {p : Program} {l : Launch} {e : Env} {s : State} {m : MethodId} {args : Array Value} {below : List Frame} {meth : Method} {c : Code} {G : XG} {X0 : XW} (C0 : XC p s m args meth c RX10 cX10_hand 6 G) (hret : meth.sig.returnType = (some .boolean)) {r : Int32 × XW} {l0 : Nat} {l1 : Int32} {l2 : Int32} {l3 : Int32} {X : XW} {H : Heap} {locs : List Loc} {ls : Array Slot} (W0 : XD G X0 X s H locs) (hl : lv_has ls 6 [(0, .ref l0), (1, .int l1), (2, .int l2), (3, .int l3)]) (h : fX10_hand_j74 l0 l1 l2 l3 X = some r) : W p l e { frames := 1, cells := 0, slots := 0, locals := 60 } s m args below meth c H locs 0 0 (MQ below (XQ G X0 (some (.int r.1), r.2)) args s 0 0 (xAd X0)) (F0 m 74 ls []) := by
  have hx := C0.1
  have hb := C0.2.1
  unfold fX10_hand_j74 at h
  refine lv_aload_n hx hb dX10_hand_74 rfl (lv_at hl 0 rfl) ?_
  obtain ⟨q1, h2, h⟩ := ob h
  refine xr_getR C0 W0 cl_X10 37 (by decide) fl_X10_141 rfl h2 dX10_hand_75 ?_
  refine lv_iconst (v := 3) hx hb dX10_hand_78 (by decide) ?_
  refine lv_bipush (v := 80) hx hb dX10_hand_79 (by decide) ?_
  refine lv_aload_n hx hb dX10_hand_81 rfl (lv_at hl 0 rfl) ?_
  obtain ⟨v3, h4, h⟩ := ob h
  refine xr_getI C0 W0 cl_X10 29 (by decide) fl_X10_283 rfl h4 dX10_hand_82 ?_
  refine lv_imul hx hb dX10_hand_85 ?_
  refine lv_iload_n hx hb dX10_hand_86 rfl (lv_at hl 1 rfl) ?_
  refine lv_iadd hx hb dX10_hand_87 ?_
  refine lv_imul hx hb dX10_hand_88 ?_
  refine lv_iload_n hx hb dX10_hand_89 rfl (lv_at hl 2 rfl) ?_
  refine lv_iadd hx hb dX10_hand_90 ?_
  refine lv_iload_n hx hb dX10_hand_91 rfl (lv_at hl 3 rfl) ?_
  obtain ⟨X5, h6, h⟩ := ob h
  refine xr_iast C0 W0 h6 dX10_hand_92 (fun H locs W0 => ?_)
  refine lv_iconst (v := 1) hx hb dX10_hand_93 (by decide) ?_
  exact xr_zret C0 W0 hret (by decide) (Option.some.inj h) dX10_hand_94
theorem tX10_hand_j28 {p : Program} {l : Launch} {e : Env} {s : State} {m : MethodId} {args : Array Value} {below : List Frame} {meth : Method} {c : Code} {G : XG} {X0 : XW} (C0 : XC p s m args meth c RX10 cX10_hand 6 G) (hret : meth.sig.returnType = (some .boolean)) {r : Int32 × XW} {l0 : Nat} {l1 : Int32} {l2 : Int32} {l3 : Int32} {l4 : Int32} {s0 : Int32} {X : XW} {H : Heap} {locs : List Loc} {ls : Array Slot} (W0 : XD G X0 X s H locs) (hl : lv_has ls 6 [(0, .ref l0), (1, .int l1), (2, .int l2), (3, .int l3), (4, .int l4)]) (h : fX10_hand_j28 l0 l1 l2 l3 l4 s0 X = some r) : W p l e { frames := 1, cells := 0, slots := 0, locals := 60 } s m args below meth c H locs 0 0 (MQ below (XQ G X0 (some (.int r.1), r.2)) args s 0 0 (xAd X0)) (F0 m 28 ls [.int s0]) := by
  have hx := C0.1
  have hb := C0.2.1
  unfold fX10_hand_j28 at h
  refine lv_istore (lv' := [(5, .int s0), (0, .ref l0), (1, .int l1), (2, .int l2), (3, .int l3), (4, .int l4)]) hx hb dX10_hand_28 hl (by decide) rfl (fun ls hl => ?_)
  refine lv_iload_n hx hb dX10_hand_30 rfl (lv_at hl 2 rfl) ?_
  refine lv_if_lt (tgt := 72) hx hb dX10_hand_31 (by decide) (fun hcq => ?_) (fun hcq => ?_)
  · have h := it_t hcq h
    refine lv_iconst (v := 0) hx hb dX10_hand_72 (by decide) ?_
    exact xr_zret C0 W0 hret (by decide) (Option.some.inj h) dX10_hand_73
  · have h := it_f hcq h
    refine lv_iload_n hx hb dX10_hand_34 rfl (lv_at hl 2 rfl) ?_
    refine lv_aload_n hx hb dX10_hand_35 rfl (lv_at hl 1 rfl) ?_
    refine lv_aload_n hx hb dX10_hand_36 rfl (lv_at hl 1 rfl) ?_
    obtain ⟨v1, h2, h⟩ := ob h
    refine xr_getI C0 W0 cl_X10 29 (by decide) fl_X10_283 rfl h2 dX10_hand_37 ?_
    obtain ⟨u3, h4, h⟩ := ob h
    obtain ⟨r5, h6, h⟩ := ob h
    refine xr_V (As := [.int v1]) (rest := [.int l1]) C0 W0 (ctX10_soundsOf l G h6) (gK_of h4) (rr := (RX10, TX10, 57)) rfl rfl mc_X10_soundsOf mv_X10_soundsOf ml_X10_293 ⟨by decide, by decide⟩ rfl hl.1 rfl (Nat.le_of_ble_eq_true rfl) ⟨by decide, by decide⟩ dX10_hand_40 (fun H locs W0 => ?_)
    refine W.cs (cells' := 0) (slots' := 0) rfl rfl ?_
    refine W.eq (g2 := F0 m 43 ls [.int r5.1, .int l1]) rfl ?_
    refine lv_icmp_ge (tgt := 72) hx hb dX10_hand_43 (by decide) (fun hcq => ?_) (fun hcq => ?_)
    · have h := it_t hcq h
      refine lv_iconst (v := 0) hx hb dX10_hand_72 (by decide) ?_
      exact xr_zret C0 W0 hret (by decide) (Option.some.inj h) dX10_hand_73
    · have h := it_f hcq h
      refine lv_iload_n hx hb dX10_hand_46 rfl (lv_at hl 3 rfl) ?_
      refine lv_if_lt (tgt := 72) hx hb dX10_hand_47 (by decide) (fun hcq => ?_) (fun hcq => ?_)
      · have h := it_t hcq h
        refine lv_iconst (v := 0) hx hb dX10_hand_72 (by decide) ?_
        exact xr_zret C0 W0 hret (by decide) (Option.some.inj h) dX10_hand_73
      · have h := it_f hcq h
        refine lv_iload_n hx hb dX10_hand_50 rfl (lv_at hl 3 rfl) ?_
        refine lv_iconst (v := 2) hx hb dX10_hand_51 (by decide) ?_
        refine lv_icmp_gt (tgt := 72) hx hb dX10_hand_52 (by decide) (fun hcq => ?_) (fun hcq => ?_)
        · have h := it_t hcq h
          refine lv_iconst (v := 0) hx hb dX10_hand_72 (by decide) ?_
          exact xr_zret C0 W0 hret (by decide) (Option.some.inj h) dX10_hand_73
        · have h := it_f hcq h
          refine lv_iload_n hx hb dX10_hand_55 rfl (lv_at hl 4 rfl) ?_
          refine lv_iconst (v := (-1)) hx hb dX10_hand_56 (by decide) ?_
          refine lv_icmp_eq (tgt := 74) hx hb dX10_hand_57 (by decide) (fun hcq => ?_) (fun hcq => ?_)
          · have h := it_t hcq h
            exact tX10_hand_j74 C0 hret W0 (lv_sub hl [1, 2, 3, 4] rfl) h
          · have h := it_f hcq h
            refine lv_iload_n hx hb dX10_hand_60 rfl (lv_at hl 4 rfl) ?_
            refine lv_iload hx hb dX10_hand_61 (lv_at hl 5 rfl) ?_
            refine lv_icmp_lt (tgt := 72) hx hb dX10_hand_63 (by decide) (fun hcq => ?_) (fun hcq => ?_)
            · have h := it_t hcq h
              refine lv_iconst (v := 0) hx hb dX10_hand_72 (by decide) ?_
              exact xr_zret C0 W0 hret (by decide) (Option.some.inj h) dX10_hand_73
            · have h := it_f hcq h
              refine lv_iload_n hx hb dX10_hand_66 rfl (lv_at hl 4 rfl) ?_
              refine lv_iload hx hb dX10_hand_67 (lv_at hl 0 rfl) ?_
              refine lv_icmp_le (tgt := 74) hx hb dX10_hand_69 (by decide) (fun hcq => ?_) (fun hcq => ?_)
              · have h := it_t hcq h
                exact tX10_hand_j74 C0 hret W0 (lv_sub hl [1, 2, 3, 4] rfl) h
              · have h := it_f hcq h
                refine lv_iconst (v := 0) hx hb dX10_hand_72 (by decide) ?_
                exact xr_zret C0 W0 hret (by decide) (Option.some.inj h) dX10_hand_73
theorem tX10_hand_j14 {p : Program} {l : Launch} {e : Env} {s : State} {m : MethodId} {args : Array Value} {below : List Frame} {meth : Method} {c : Code} {G : XG} {X0 : XW} (C0 : XC p s m args meth c RX10 cX10_hand 6 G) (hret : meth.sig.returnType = (some .boolean)) {r : Int32 × XW} {l0 : Nat} {l1 : Int32} {l2 : Int32} {l3 : Int32} {s0 : Int32} {X : XW} {H : Heap} {locs : List Loc} {ls : Array Slot} (W0 : XD G X0 X s H locs) (hl : lv_has ls 6 [(0, .ref l0), (1, .int l1), (2, .int l2), (3, .int l3)]) (h : fX10_hand_j14 l0 l1 l2 l3 s0 X = some r) : W p l e { frames := 1, cells := 0, slots := 0, locals := 60 } s m args below meth c H locs 0 0 (MQ below (XQ G X0 (some (.int r.1), r.2)) args s 0 0 (xAd X0)) (F0 m 14 ls [.int s0]) := by
  have hx := C0.1
  have hb := C0.2.1
  unfold fX10_hand_j14 at h
  refine lv_istore (lv' := [(4, .int s0), (0, .ref l0), (1, .int l1), (2, .int l2), (3, .int l3)]) hx hb dX10_hand_14 hl (by decide) rfl (fun ls hl => ?_)
  refine lv_iload_n hx hb dX10_hand_16 rfl (lv_at hl 3 rfl) ?_
  refine lv_iconst (v := 2) hx hb dX10_hand_17 (by decide) ?_
  refine lv_icmp_ne (tgt := 26) hx hb dX10_hand_18 (by decide) (fun hcq => ?_) (fun hcq => ?_)
  · have h := it_f hcq h
    refine lv_bipush (v := 99) hx hb dX10_hand_26 (by decide) ?_
    exact tX10_hand_j28 C0 hret W0 (lv_sub hl [1, 2, 3, 4, 0] rfl) h
  · have h := it_t hcq h
    refine lv_bipush (v := 9) hx hb dX10_hand_21 (by decide) ?_
    refine lv_goto (tgt := 28) hx hb dX10_hand_23 (by decide) ?_
    exact tX10_hand_j28 C0 hret W0 (lv_sub hl [1, 2, 3, 4, 0] rfl) h
theorem ctX10_hand (l : Launch) (G : XG) {l0 : Nat} {l1 : Int32} {l2 : Int32} {l3 : Int32} {X : XW} {r : Int32 × XW}  (h : fX10_hand l0 l1 l2 l3 X = some r) : XM l G yX10_hand cX10_hand 6 (some .boolean) 1 60 0 0 [.ref l0, .int l1, .int l2, .int l3] X (some (.int r.1), r.2) := by
  refine xm_of (own := RX10) (by decide) rfl (Nat.le_of_ble_eq_true rfl) ?_
  intro p e s m below meth c ls C0 W0 hret hnm hl
  have hx := C0.1
  have hb := C0.2.1
  have hl : lv_has ls 6 [(0, .ref l0), (1, .int l1), (2, .int l2), (3, .int l3)] := hl
  unfold fX10_hand at h
  refine lv_aload_n hx hb dX10_hand_0 rfl (lv_at hl 0 rfl) ?_
  refine lv_iconst (v := 0) hx hb dX10_hand_1 (by decide) ?_
  obtain ⟨X1, h2, h⟩ := ob h
  refine xr_putI C0 W0 cl_X10 0 (by decide) fl_X10_1 rfl rfl rfl (by decide) h2 dX10_hand_2 (fun H locs W0 => ?_)
  refine lv_iload_n hx hb dX10_hand_5 rfl (lv_at hl 2 rfl) ?_
  refine lv_if_ne (tgt := 13) hx hb dX10_hand_6 (by decide) (fun hcq => ?_) (fun hcq => ?_)
  · have h := it_f hcq h
    refine lv_iconst (v := 0) hx hb dX10_hand_13 (by decide) ?_
    exact tX10_hand_j14 C0 hret W0 (lv_sub hl [0, 1, 2, 3] rfl) h
  · have h := it_t hcq h
    refine lv_iconst (v := 1) hx hb dX10_hand_9 (by decide) ?_
    refine lv_goto (tgt := 14) hx hb dX10_hand_10 (by decide) ?_
    exact tX10_hand_j14 C0 hret W0 (lv_sub hl [0, 1, 2, 3] rfl) h
def fX10_costOf_l11_b (rec : Int32 → Int32 → XW → Option (Int32 × XW)) (l0 : Nat) (l1 : Int32) (l3 : Int32) (l4 : Int32) (l5 : Int32) (X : XW) : Option (Int32 × XW) :=
  if (((16 * l1) + l3) ≤ l5 : Prop) then (some (l4, X))
  else (gR X l0 10 31 >>= fun q1 =>
    aI X q1 1 l5 >>= fun v3 =>
    rec (l4 + v3) (l5 + 1) X)
def fX10_costOf_l11 (l0 : Nat) (l1 : Int32) (l3 : Int32) (n : Nat) : Int32 → Int32 → XW → Option (Int32 × XW) := iter (fun rec => fX10_costOf_l11_b rec l0 l1 l3) (fun _ _ _ => none) n
def fX10_costOf (l0 : Nat) (l1 : Int32) (l2 : Int32) (l3 : Int32) (X : XW) : Option (Int32 × XW) :=
  fX10_costOf_l11 l0 l1 l3 FU 0 ((16 * l1) + l2) X >>= fun r1 =>
  gI r1.2 l0 10 38 >>= fun v3 =>
  gI r1.2 l0 10 38 >>= fun v5 =>
  gR r1.2 l0 10 30 >>= fun q7 =>
  aI r1.2 q7 1 l1 >>= fun v9 =>
  if (v9 ≤ l3 : Prop) then (some ((((r1.1 - v3) * (r1.1 - v5)) + 0), r1.2))
  else (gR r1.2 l0 10 33 >>= fun q11 =>
    aI r1.2 q11 1 (((16 * l1) + l3) - 1) >>= fun v13 =>
    some ((((r1.1 - v3) * (r1.1 - v5)) + (1 + v13)), r1.2))
theorem tX10_costOf_l11_b {p : Program} {l : Launch} {e : Env} {s : State} {m : MethodId} {args : Array Value} {below : List Frame} {meth : Method} {c : Code} {G : XG} {X0 : XW} (C0 : XC p s m args meth c RX10 cX10_costOf 6 G) (hret : meth.sig.returnType = (some .int)) {r : Int32 × XW} {l0 : Nat} {l1 : Int32} {l3 : Int32} {Q : State → Prop} {rec : Int32 → Int32 → XW → Option (Int32 × XW)} (hrec : ∀ {y4 : Int32} {y5 : Int32} {X : XW} {H : Heap} {locs : List Loc} {ls : Array Slot}, XD G X0 X s H locs → lv_has ls 6 [(0, .ref l0), (1, .int l1), (3, .int l3), (4, .int y4), (5, .int y5)] → rec y4 y5 X = some r → W p l e { frames := 0, cells := 0, slots := 0, locals := 0 } s m args below meth c H locs 0 0 Q (F0 m 11 ls [])) (hK : ∀ {H : Heap} {locs : List Loc} {ls : Array Slot}, XD G X0 r.2 s H locs → lv_has ls 6 [(0, .ref l0), (1, .int l1), (3, .int l3), (4, .int r.1)] → W p l e { frames := 0, cells := 0, slots := 0, locals := 0 } s m args below meth c H locs 0 0 Q (F0 m 40 ls []))  {l4 : Int32} {l5 : Int32} {X : XW} {H : Heap} {locs : List Loc} {ls : Array Slot} (W0 : XD G X0 X s H locs) (hl : lv_has ls 6 [(0, .ref l0), (1, .int l1), (3, .int l3), (4, .int l4), (5, .int l5)]) (h : fX10_costOf_l11_b rec l0 l1 l3 l4 l5 X = some r) : W p l e { frames := 0, cells := 0, slots := 0, locals := 0 } s m args below meth c H locs 0 0 Q (F0 m 11 ls []) := by
  have hx := C0.1
  have hb := C0.2.1
  unfold fX10_costOf_l11_b at h
  refine lv_iload hx hb dX10_costOf_11 (lv_at hl 4 rfl) ?_
  refine lv_bipush (v := 16) hx hb dX10_costOf_13 (by decide) ?_
  refine lv_iload_n hx hb dX10_costOf_15 rfl (lv_at hl 1 rfl) ?_
  refine lv_imul hx hb dX10_costOf_16 ?_
  refine lv_iload_n hx hb dX10_costOf_17 rfl (lv_at hl 2 rfl) ?_
  refine lv_iadd hx hb dX10_costOf_18 ?_
  refine lv_icmp_ge (tgt := 40) hx hb dX10_costOf_19 (by decide) (fun hcq => ?_) (fun hcq => ?_)
  · have h := it_t hcq h
    cases h
    exact hK W0 (lv_sub hl [0, 1, 2, 3] rfl)
  · have h := it_f hcq h
    refine lv_iload hx hb dX10_costOf_22 (lv_at hl 3 rfl) ?_
    refine lv_aload_n hx hb dX10_costOf_24 rfl (lv_at hl 0 rfl) ?_
    obtain ⟨q1, h2, h⟩ := ob h
    refine xr_getR C0 W0 cl_X10 31 (by decide) fl_X10_123 rfl h2 dX10_costOf_25 ?_
    refine lv_iload hx hb dX10_costOf_28 (lv_at hl 4 rfl) ?_
    obtain ⟨v3, h4, h⟩ := ob h
    refine xr_iald C0 W0 h4 dX10_costOf_30 ?_
    refine lv_iadd hx hb dX10_costOf_31 ?_
    refine lv_istore (lv' := [(4, .int (l4 + v3)), (0, .ref l0), (1, .int l1), (3, .int l3), (5, .int l5)]) hx hb dX10_costOf_32 hl (by decide) rfl (fun ls hl => ?_)
    refine lv_iinc (v := (l5 + 1)) (lv' := [(5, .int (l5 + 1)), (4, .int (l4 + v3)), (0, .ref l0), (1, .int l1), (3, .int l3)]) hx hb dX10_costOf_34 hl (k := 4) rfl (ii (by decide)) (by decide) rfl (fun ls hl => ?_)
    refine lv_goto (tgt := 11) hx hb dX10_costOf_37 (by decide) ?_
    exact hrec W0 (lv_sub hl [2, 3, 4, 1, 0] rfl) h
theorem tX10_costOf_l11 {p : Program} {l : Launch} {e : Env} {s : State} {m : MethodId} {args : Array Value} {below : List Frame} {meth : Method} {c : Code} {G : XG} {X0 : XW} (C0 : XC p s m args meth c RX10 cX10_costOf 6 G) (hret : meth.sig.returnType = (some .int)) {r : Int32 × XW} {l0 : Nat} {l1 : Int32} {l3 : Int32} {Q : State → Prop} (hK : ∀ {H : Heap} {locs : List Loc} {ls : Array Slot}, XD G X0 r.2 s H locs → lv_has ls 6 [(0, .ref l0), (1, .int l1), (3, .int l3), (4, .int r.1)] → W p l e { frames := 0, cells := 0, slots := 0, locals := 0 } s m args below meth c H locs 0 0 Q (F0 m 40 ls [])) : ∀ (n : Nat) {y4 : Int32} {y5 : Int32} {X : XW} {H : Heap} {locs : List Loc} {ls : Array Slot}, XD G X0 X s H locs → lv_has ls 6 [(0, .ref l0), (1, .int l1), (3, .int l3), (4, .int y4), (5, .int y5)] → fX10_costOf_l11 l0 l1 l3 n y4 y5 X = some r → W p l e { frames := 0, cells := 0, slots := 0, locals := 0 } s m args below meth c H locs 0 0 Q (F0 m 11 ls []) := by
  intro n
  induction n with
  | zero =>
    intro y4 y5 X H locs ls W0 hl h
    cases h
  | succ n ih =>
    intro y4 y5 X H locs ls W0 hl h
    exact tX10_costOf_l11_b C0 hret (rec := fX10_costOf_l11 l0 l1 l3 n) (fun W0 hl h => ih W0 hl h) hK W0 hl h
theorem ctX10_costOf (l : Launch) (G : XG) {l0 : Nat} {l1 : Int32} {l2 : Int32} {l3 : Int32} {X : XW} {r : Int32 × XW}  (h : fX10_costOf l0 l1 l2 l3 X = some r) : XM l G yX10_costOf cX10_costOf 6 (some .int) 0 0 0 0 [.ref l0, .int l1, .int l2, .int l3] X (some (.int r.1), r.2) := by
  refine xm_of (own := RX10) (by decide) rfl (Nat.le_of_ble_eq_true rfl) ?_
  intro p e s m below meth c ls C0 W0 hret hnm hl
  have hx := C0.1
  have hb := C0.2.1
  have hl : lv_has ls 6 [(0, .ref l0), (1, .int l1), (2, .int l2), (3, .int l3)] := hl
  unfold fX10_costOf at h
  refine lv_iconst (v := 0) hx hb dX10_costOf_0 (by decide) ?_
  refine lv_istore (lv' := [(4, .int 0), (0, .ref l0), (1, .int l1), (2, .int l2), (3, .int l3)]) hx hb dX10_costOf_1 hl (by decide) rfl (fun ls hl => ?_)
  refine lv_bipush (v := 16) hx hb dX10_costOf_3 (by decide) ?_
  refine lv_iload_n hx hb dX10_costOf_5 rfl (lv_at hl 2 rfl) ?_
  refine lv_imul hx hb dX10_costOf_6 ?_
  refine lv_iload_n hx hb dX10_costOf_7 rfl (lv_at hl 3 rfl) ?_
  refine lv_iadd hx hb dX10_costOf_8 ?_
  refine lv_istore (lv' := [(5, .int ((16 * l1) + l2)), (4, .int 0), (0, .ref l0), (1, .int l1), (2, .int l2), (3, .int l3)]) hx hb dX10_costOf_9 hl (by decide) rfl (fun ls hl => ?_)
  obtain ⟨r1, h2, h⟩ := ob h
  refine tX10_costOf_l11 C0 hret (fun {H} {locs} {ls} W0 hl => ?_) FU W0 (lv_sub hl [2, 3, 5, 1, 0] rfl) h2
  refine lv_iload hx hb dX10_costOf_40 (lv_at hl 3 rfl) ?_
  refine lv_aload_n hx hb dX10_costOf_42 rfl (lv_at hl 0 rfl) ?_
  obtain ⟨v3, h4, h⟩ := ob h
  refine xr_getI C0 W0 cl_X10 38 (by decide) fl_X10_144 rfl h4 dX10_costOf_43 ?_
  refine lv_isub hx hb dX10_costOf_46 ?_
  refine lv_iload hx hb dX10_costOf_47 (lv_at hl 3 rfl) ?_
  refine lv_aload_n hx hb dX10_costOf_49 rfl (lv_at hl 0 rfl) ?_
  obtain ⟨v5, h6, h⟩ := ob h
  refine xr_getI C0 W0 cl_X10 38 (by decide) fl_X10_144 rfl h6 dX10_costOf_50 ?_
  refine lv_isub hx hb dX10_costOf_53 ?_
  refine lv_imul hx hb dX10_costOf_54 ?_
  refine lv_iload_n hx hb dX10_costOf_55 rfl (lv_at hl 2 rfl) ?_
  refine lv_aload_n hx hb dX10_costOf_56 rfl (lv_at hl 0 rfl) ?_
  obtain ⟨q7, h8, h⟩ := ob h
  refine xr_getR C0 W0 cl_X10 30 (by decide) fl_X10_120 rfl h8 dX10_costOf_57 ?_
  refine lv_iload_n hx hb dX10_costOf_60 rfl (lv_at hl 1 rfl) ?_
  obtain ⟨v9, h10, h⟩ := ob h
  refine xr_iald C0 W0 h10 dX10_costOf_61 ?_
  refine lv_icmp_ge (tgt := 83) hx hb dX10_costOf_62 (by decide) (fun hcq => ?_) (fun hcq => ?_)
  · have h := it_t hcq h
    refine lv_iconst (v := 0) hx hb dX10_costOf_83 (by decide) ?_
    refine lv_iadd hx hb dX10_costOf_84 ?_
    exact xr_iret C0 W0 hret (Option.some.inj h) dX10_costOf_85
  · have h := it_f hcq h
    refine lv_iconst (v := 1) hx hb dX10_costOf_65 (by decide) ?_
    refine lv_aload_n hx hb dX10_costOf_66 rfl (lv_at hl 0 rfl) ?_
    obtain ⟨q11, h12, h⟩ := ob h
    refine xr_getR C0 W0 cl_X10 33 (by decide) fl_X10_129 rfl h12 dX10_costOf_67 ?_
    refine lv_bipush (v := 16) hx hb dX10_costOf_70 (by decide) ?_
    refine lv_iload_n hx hb dX10_costOf_72 rfl (lv_at hl 1 rfl) ?_
    refine lv_imul hx hb dX10_costOf_73 ?_
    refine lv_iload_n hx hb dX10_costOf_74 rfl (lv_at hl 2 rfl) ?_
    refine lv_iadd hx hb dX10_costOf_75 ?_
    refine lv_iconst (v := 1) hx hb dX10_costOf_76 (by decide) ?_
    refine lv_isub hx hb dX10_costOf_77 ?_
    obtain ⟨v13, h14, h⟩ := ob h
    refine xr_iald C0 W0 h14 dX10_costOf_78 ?_
    refine lv_iadd hx hb dX10_costOf_79 ?_
    refine lv_goto (tgt := 84) hx hb dX10_costOf_80 (by decide) ?_
    refine lv_iadd hx hb dX10_costOf_84 ?_
    exact xr_iret C0 W0 hret (Option.some.inj h) dX10_costOf_85
