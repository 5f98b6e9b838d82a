def fX10_opens (l0 : Nat) (X : XW) : Option (XW) :=
  gR X l0 10 23 >>= fun q1 =>
  gI X l0 10 22 >>= fun v3 =>
  uI X q1 v3 0 >>= fun X5 =>
  gR X5 l0 10 24 >>= fun q7 =>
  gI X5 l0 10 22 >>= fun v9 =>
  uI X5 q7 v9 0 >>= fun X11 =>
  gR X11 l0 10 25 >>= fun q13 =>
  gI X11 l0 10 22 >>= fun v15 =>
  uI X11 q13 v15 0 >>= fun X17 =>
  some X17
theorem ctX10_opens (l : Launch) (G : XG) {l0 : Nat} {X : XW} {r : XW}  (h : fX10_opens l0 X = some r) : XM l G yX10_opens cX10_opens 1 none 0 0 0 0 [.ref l0] X (none, r) := by
  refine xm_of (own := RX10) (by decide) rfl (Nat.le_of_ble_eq_true rfl) ?_
  intro p e s m below meth c ls C0 W0 hret hnm hl
  have hx := C0.1
  have hb := C0.2.1
  have hl : lv_has ls 1 [(0, .ref l0)] := hl
  unfold fX10_opens at h
  refine lv_aload_n hx hb dX10_opens_0 rfl (lv_at hl 0 rfl) ?_
  obtain ⟨q1, h2, h⟩ := ob h
  refine xr_getR C0 W0 cl_X10 23 (by decide) fl_X10_102 rfl h2 dX10_opens_1 ?_
  refine lv_aload_n hx hb dX10_opens_4 rfl (lv_at hl 0 rfl) ?_
  obtain ⟨v3, h4, h⟩ := ob h
  refine xr_getI C0 W0 cl_X10 22 (by decide) fl_X10_259 rfl h4 dX10_opens_5 ?_
  refine lv_iconst (v := 0) hx hb dX10_opens_8 (by decide) ?_
  obtain ⟨X5, h6, h⟩ := ob h
  refine xr_iast C0 W0 h6 dX10_opens_9 (fun H locs W0 => ?_)
  refine lv_aload_n hx hb dX10_opens_10 rfl (lv_at hl 0 rfl) ?_
  obtain ⟨q7, h8, h⟩ := ob h
  refine xr_getR C0 W0 cl_X10 24 (by decide) fl_X10_105 rfl h8 dX10_opens_11 ?_
  refine lv_aload_n hx hb dX10_opens_14 rfl (lv_at hl 0 rfl) ?_
  obtain ⟨v9, h10, h⟩ := ob h
  refine xr_getI C0 W0 cl_X10 22 (by decide) fl_X10_259 rfl h10 dX10_opens_15 ?_
  refine lv_iconst (v := 0) hx hb dX10_opens_18 (by decide) ?_
  obtain ⟨X11, h12, h⟩ := ob h
  refine xr_iast C0 W0 h12 dX10_opens_19 (fun H locs W0 => ?_)
  refine lv_aload_n hx hb dX10_opens_20 rfl (lv_at hl 0 rfl) ?_
  obtain ⟨q13, h14, h⟩ := ob h
  refine xr_getR C0 W0 cl_X10 25 (by decide) fl_X10_108 rfl h14 dX10_opens_21 ?_
  refine lv_aload_n hx hb dX10_opens_24 rfl (lv_at hl 0 rfl) ?_
  obtain ⟨v15, h16, h⟩ := ob h
  refine xr_getI C0 W0 cl_X10 22 (by decide) fl_X10_259 rfl h16 dX10_opens_25 ?_
  refine lv_iconst (v := 0) hx hb dX10_opens_28 (by decide) ?_
  obtain ⟨X17, h18, h⟩ := ob h
  refine xr_iast C0 W0 h18 dX10_opens_29 (fun H locs W0 => ?_)
  exact xr_vret C0 W0 hret (Option.some.inj h).symm dX10_opens_30
def fX10_part_j121  (l0 : Nat) (s0 : Int32) (s1 : Int32) (s2 : Nat) (X : XW) : Option (Int32 × XW) :=
  gK X s2 10 >>= fun u1 =>
  fX10_emit s2 s1 s0 X >>= fun X3 =>
  gI X3 l0 10 7 >>= fun v5 =>
  pI X3 l0 10 7 (v5 + 1) >>= fun X7 =>
  some (0, X7)
def fX10_part_j103  (l0 : Nat) (l1 : Int32) (s0 : Int32) (s1 : Nat) (X : XW) : Option (Int32 × XW) :=
  if (0 ≤ l1 : Prop) then (fX10_part_j121 l0 l1 s0 s1 X)
  else (gR X l0 10 6 >>= fun q1 =>
    gI X l0 10 7 >>= fun v3 =>
    aL X q1 v3 >>= fun v5 =>
    fX10_part_j121 l0 ((v5).toInt32) s0 s1 X)
def fX10_part_j59  (l0 : Nat) (l1 : Int32) (X : XW) : Option (Int32 × XW) :=
  gI X l0 10 8 >>= fun v1 =>
  if (v1 ≤ 0 : Prop) then (gK X l0 10 >>= fun u3 =>
    fX10_hasSign l0 40 X >>= fun r5 =>
    if (r5.1 = 0 : Prop) then (if (0 ≤ l1 : Prop) then (fX10_part_j103 l0 l1 2 l0 r5.2)
      else (fX10_part_j103 l0 l1 1 l0 r5.2))
    else (gI r5.2 l0 10 22 >>= fun v7 =>
      pI r5.2 l0 10 22 (v7 + 1) >>= fun X9 =>
      gK X9 l0 10 >>= fun u11 =>
      fX10_opens l0 X9 >>= fun X13 =>
      some (1, X13)))
  else (some (0, X))
def fX10_part_j46  (l0 : Nat) (l1 : Int32) (X : XW) : Option (Int32 × XW) :=
  gI X l0 10 22 >>= fun v1 =>
  if (v1 = 5 : Prop) then (gK X l0 10 >>= fun u3 =>
    fX10_wrong l0 5 X >>= fun X5 =>
    fX10_part_j59 l0 l1 X5)
  else (fX10_part_j59 l0 l1 X)
def fX10_part (l0 : Nat) (X : XW) : Option (Int32 × XW) :=
  gK X l0 10 >>= fun u1 =>
  fX10_partWord l0 X >>= fun r3 =>
  gI r3.2 l0 10 8 >>= fun v5 =>
  if (v5 = 0 : Prop) then (gR r3.2 l0 10 4 >>= fun q7 =>
    gI r3.2 l0 10 7 >>= fun v9 =>
    aI r3.2 q7 1 v9 >>= fun v11 =>
    if (v11 = 2 : Prop) then (fX10_part_j46 l0 r3.1 r3.2)
    else (gK r3.2 l0 10 >>= fun u13 =>
      fX10_isSign l0 40 r3.2 >>= fun r15 =>
      if (r15.1 = 0 : Prop) then (if (0 ≤ r3.1 : Prop) then (fX10_part_j46 l0 r3.1 r15.2)
        else (gK r15.2 l0 10 >>= fun u17 =>
          fX10_wrong l0 1 r15.2 >>= fun X19 =>
          fX10_part_j59 l0 r3.1 X19))
      else (fX10_part_j46 l0 r3.1 r15.2)))
  else (fX10_part_j46 l0 r3.1 r3.2)
theorem tX10_part_j121 {p : Program} {l : Launch} {e : Env} {s : State} {m : MethodId} {args : Array Value} {below : List Frame} {meth : Method} {c : Code} {G : XG} {X0 : XW} (C0 : XC p s m args meth c RX10 cX10_part 2 G) (hret : meth.sig.returnType = (some .boolean)) {r : Int32 × XW} {l0 : Nat} {s0 : Int32} {s1 : Int32} {s2 : Nat} {X : XW} {H : Heap} {locs : List Loc} {ls : Array Slot} (W0 : XD G X0 X s H locs) (hl : lv_has ls 2 [(0, .ref l0)]) (h : fX10_part_j121 l0 s0 s1 s2 X = some r) : W p l e { frames := 2, cells := 0, slots := 0, locals := 120 } s m args below meth c H locs 0 0 (MQ below (XQ G X0 (some (.int r.1), r.2)) args s 0 0 (xAd X0)) (F0 m 121 ls [.int s0, .int s1, .ref s2]) := by
  have hx := C0.1
  have hb := C0.2.1
  unfold fX10_part_j121 at h
  obtain ⟨u1, h2, h⟩ := ob h
  obtain ⟨X3, h4, h⟩ := ob h
  refine xr_V (As := [.int s1, .int s0]) (rest := []) C0 W0 (ctX10_emit l G h4) (gK_of h2) (rr := (RX10, TX10, 57)) rfl rfl mc_X10_emit mv_X10_emit ml_X10_272 ⟨by decide, by decide⟩ rfl hl.1 rfl (Nat.le_of_ble_eq_true rfl) ⟨by decide, by decide⟩ dX10_part_121 (fun H locs W0 => ?_)
  refine W.cs (cells' := 0) (slots' := 0) rfl rfl ?_
  refine W.eq (g2 := F0 m 124 ls []) rfl ?_
  refine lv_aload_n hx hb dX10_part_124 rfl (lv_at hl 0 rfl) ?_
  refine lv_dup hx hb dX10_part_125 rfl ?_
  obtain ⟨v5, h6, h⟩ := ob h
  refine xr_getI C0 W0 cl_X10 7 (by decide) fl_X10_215 rfl h6 dX10_part_126 ?_
  refine lv_iconst (v := 1) hx hb dX10_part_129 (by decide) ?_
  refine lv_iadd hx hb dX10_part_130 ?_
  obtain ⟨X7, h8, h⟩ := ob h
  refine xr_putI C0 W0 cl_X10 7 (by decide) fl_X10_215 rfl rfl rfl (by decide) h8 dX10_part_131 (fun H locs W0 => ?_)
  refine lv_iconst (v := 0) hx hb dX10_part_134 (by decide) ?_
  exact xr_zret C0 W0 hret (by decide) (Option.some.inj h) dX10_part_135
theorem tX10_part_j103 {p : Program} {l : Launch} {e : Env} {s : State} {m : MethodId} {args : Array Value} {below : List Frame} {meth : Method} {c : Code} {G : XG} {X0 : XW} (C0 : XC p s m args meth c RX10 cX10_part 2 G) (hret : meth.sig.returnType = (some .boolean)) {r : Int32 × XW} {l0 : Nat} {l1 : Int32} {s0 : Int32} {s1 : Nat} {X : XW} {H : Heap} {locs : List Loc} {ls : Array Slot} (W0 : XD G X0 X s H locs) (hl : lv_has ls 2 [(0, .ref l0), (1, .int l1)]) (h : fX10_part_j103 l0 l1 s0 s1 X = some r) : W p l e { frames := 2, cells := 0, slots := 0, locals := 120 } s m args below meth c H locs 0 0 (MQ below (XQ G X0 (some (.int r.1), r.2)) args s 0 0 (xAd X0)) (F0 m 103 ls [.int s0, .ref s1]) := by
  have hx := C0.1
  have hb := C0.2.1
  unfold fX10_part_j103 at h
  refine lv_iload_n hx hb dX10_part_103 rfl (lv_at hl 1 rfl) ?_
  refine lv_if_ge (tgt := 120) hx hb dX10_part_104 (by decide) (fun hcq => ?_) (fun hcq => ?_)
  · have h := it_t hcq h
    refine lv_iload_n hx hb dX10_part_120 rfl (lv_at hl 1 rfl) ?_
    exact tX10_part_j121 C0 hret W0 (lv_sub hl [0] rfl) h
  · have h := it_f hcq h
    refine lv_aload_n hx hb dX10_part_107 rfl (lv_at hl 0 rfl) ?_
    obtain ⟨q1, h2, h⟩ := ob h
    refine xr_getR C0 W0 cl_X10 6 (by decide) fl_X10_30 rfl h2 dX10_part_108 ?_
    refine lv_aload_n hx hb dX10_part_111 rfl (lv_at hl 0 rfl) ?_
    obtain ⟨v3, h4, h⟩ := ob h
    refine xr_getI C0 W0 cl_X10 7 (by decide) fl_X10_215 rfl h4 dX10_part_112 ?_
    obtain ⟨v5, h6, h⟩ := ob h
    refine xr_lald C0 W0 h6 dX10_part_115 ?_
    refine lv_l2i (v := ((v5).toInt32)) hx hb dX10_part_116 rfl ?_
    refine lv_goto (tgt := 121) hx hb dX10_part_117 (by decide) ?_
    exact tX10_part_j121 C0 hret W0 (lv_sub hl [0] rfl) h
theorem tX10_part_j59 {p : Program} {l : Launch} {e : Env} {s : State} {m : MethodId} {args : Array Value} {below : List Frame} {meth : Method} {c : Code} {G : XG} {X0 : XW} (C0 : XC p s m args meth c RX10 cX10_part 2 G) (hret : meth.sig.returnType = (some .boolean)) {r : Int32 × XW} {l0 : Nat} {l1 : Int32} {X : XW} {H : Heap} {locs : List Loc} {ls : Array Slot} (W0 : XD G X0 X s H locs) (hl : lv_has ls 2 [(0, .ref l0), (1, .int l1)]) (h : fX10_part_j59 l0 l1 X = some r) : W p l e { frames := 2, cells := 0, slots := 0, locals := 120 } s m args below meth c H locs 0 0 (MQ below (XQ G X0 (some (.int r.1), r.2)) args s 0 0 (xAd X0)) (F0 m 59 ls []) := by
  have hx := C0.1
  have hb := C0.2.1
  unfold fX10_part_j59 at h
  refine lv_aload_n hx hb dX10_part_59 rfl (lv_at hl 0 rfl) ?_
  obtain ⟨v1, h2, h⟩ := ob h
  refine xr_getI C0 W0 cl_X10 8 (by decide) fl_X10_218 rfl h2 dX10_part_60 ?_
  refine lv_if_le (tgt := 68) hx hb dX10_part_63 (by decide) (fun hcq => ?_) (fun hcq => ?_)
  · have h := it_t hcq h
    refine lv_aload_n hx hb dX10_part_68 rfl (lv_at hl 0 rfl) ?_
    refine lv_bipush (v := 40) hx hb dX10_part_69 (by decide) ?_
    obtain ⟨u3, h4, h⟩ := ob h
    obtain ⟨r5, h6, h⟩ := ob h
    refine xr_V (As := [.int 40]) (rest := []) C0 W0 (ctX10_hasSign l G h6) (gK_of h4) (rr := (RX10, TX10, 57)) rfl rfl mc_X10_hasSign mv_X10_hasSign ml_X10_276 ⟨by decide, by decide⟩ rfl hl.1 rfl (Nat.le_of_ble_eq_true rfl) ⟨by decide, by decide⟩ dX10_part_71 (fun H locs W0 => ?_)
    refine W.cs (cells' := 0) (slots' := 0) rfl rfl ?_
    refine W.eq (g2 := F0 m 74 ls [.int r5.1]) rfl ?_
    refine lv_if_eq (tgt := 93) hx hb dX10_part_74 (by decide) (fun hcq => ?_) (fun hcq => ?_)
    · have h := it_t hcq h
      refine lv_aload_n hx hb dX10_part_93 rfl (lv_at hl 0 rfl) ?_
      refine lv_iload_n hx hb dX10_part_94 rfl (lv_at hl 1 rfl) ?_
      refine lv_if_ge (tgt := 102) hx hb dX10_part_95 (by decide) (fun hcq => ?_) (fun hcq => ?_)
      · have h := it_t hcq h
        refine lv_iconst (v := 2) hx hb dX10_part_102 (by decide) ?_
        exact tX10_part_j103 C0 hret W0 (lv_sub hl [0, 1] rfl) h
      · have h := it_f hcq h
        refine lv_iconst (v := 1) hx hb dX10_part_98 (by decide) ?_
        refine lv_goto (tgt := 103) hx hb dX10_part_99 (by decide) ?_
        exact tX10_part_j103 C0 hret W0 (lv_sub hl [0, 1] rfl) h
    · have h := it_f hcq h
      refine lv_aload_n hx hb dX10_part_77 rfl (lv_at hl 0 rfl) ?_
      refine lv_dup hx hb dX10_part_78 rfl ?_
      obtain ⟨v7, h8, h⟩ := ob h
      refine xr_getI C0 W0 cl_X10 22 (by decide) fl_X10_259 rfl h8 dX10_part_79 ?_
      refine lv_iconst (v := 1) hx hb dX10_part_82 (by decide) ?_
      refine lv_iadd hx hb dX10_part_83 ?_
      obtain ⟨X9, h10, h⟩ := ob h
      refine xr_putI C0 W0 cl_X10 22 (by decide) fl_X10_259 rfl rfl rfl (by decide) h10 dX10_part_84 (fun H locs W0 => ?_)
      refine lv_aload_n hx hb dX10_part_87 rfl (lv_at hl 0 rfl) ?_
      obtain ⟨u11, h12, h⟩ := ob h
      obtain ⟨X13, h14, h⟩ := ob h
      refine xr_V (As := []) (rest := []) C0 W0 (ctX10_opens l G h14) (gK_of h12) (rr := (RX10, TX10, 57)) rfl rfl mc_X10_opens mv_X10_opens ml_X10_262 ⟨by decide, by decide⟩ rfl hl.1 rfl (Nat.le_of_ble_eq_true rfl) ⟨by decide, by decide⟩ dX10_part_88 (fun H locs W0 => ?_)
      refine W.cs (cells' := 0) (slots' := 0) rfl rfl ?_
      refine W.eq (g2 := F0 m 91 ls []) rfl ?_
      refine lv_iconst (v := 1) hx hb dX10_part_91 (by decide) ?_
      exact xr_zret C0 W0 hret (by decide) (Option.some.inj h) dX10_part_92
  · have h := it_f hcq h
    refine lv_iconst (v := 0) hx hb dX10_part_66 (by decide) ?_
    exact xr_zret C0 W0 hret (by decide) (Option.some.inj h) dX10_part_67
theorem tX10_part_j46 {p : Program} {l : Launch} {e : Env} {s : State} {m : MethodId} {args : Array Value} {below : List Frame} {meth : Method} {c : Code} {G : XG} {X0 : XW} (C0 : XC p s m args meth c RX10 cX10_part 2 G) (hret : meth.sig.returnType = (some .boolean)) {r : Int32 × XW} {l0 : Nat} {l1 : Int32} {X : XW} {H : Heap} {locs : List Loc} {ls : Array Slot} (W0 : XD G X0 X s H locs) (hl : lv_has ls 2 [(0, .ref l0), (1, .int l1)]) (h : fX10_part_j46 l0 l1 X = some r) : W p l e { frames := 2, cells := 0, slots := 0, locals := 120 } s m args below meth c H locs 0 0 (MQ below (XQ G X0 (some (.int r.1), r.2)) args s 0 0 (xAd X0)) (F0 m 46 ls []) := by
  have hx := C0.1
  have hb := C0.2.1
  unfold fX10_part_j46 at h
  refine lv_aload_n hx hb dX10_part_46 rfl (lv_at hl 0 rfl) ?_
  obtain ⟨v1, h2, h⟩ := ob h
  refine xr_getI C0 W0 cl_X10 22 (by decide) fl_X10_259 rfl h2 dX10_part_47 ?_
  refine lv_iconst (v := 5) hx hb dX10_part_50 (by decide) ?_
  refine lv_icmp_ne (tgt := 59) hx hb dX10_part_51 (by decide) (fun hcq => ?_) (fun hcq => ?_)
  · have h := it_f hcq h
    exact tX10_part_j59 C0 hret W0 (lv_sub hl [0, 1] rfl) h
  · have h := it_t hcq h
    refine lv_aload_n hx hb dX10_part_54 rfl (lv_at hl 0 rfl) ?_
    refine lv_iconst (v := 5) hx hb dX10_part_55 (by decide) ?_
    obtain ⟨u3, h4, h⟩ := ob h
    obtain ⟨X5, h6, h⟩ := ob h
    refine xr_V (As := [.int 5]) (rest := []) C0 W0 (ctX10_wrong l G h6) (gK_of h4) (rr := (RX10, TX10, 57)) rfl rfl mc_X10_wrong mv_X10_wrong ml_X10_224 ⟨by decide, by decide⟩ rfl hl.1 rfl (Nat.le_of_ble_eq_true rfl) ⟨by decide, by decide⟩ dX10_part_56 (fun H locs W0 => ?_)
    refine W.cs (cells' := 0) (slots' := 0) rfl rfl ?_
    refine W.eq (g2 := F0 m 59 ls []) rfl ?_
    exact tX10_part_j59 C0 hret W0 (lv_sub hl [0, 1] rfl) h
theorem ctX10_part (l : Launch) (G : XG) {l0 : Nat} {X : XW} {r : Int32 × XW}  (h : fX10_part l0 X = some r) : XM l G yX10_part cX10_part 2 (some .boolean) 2 120 0 0 [.ref l0] X (some (.int r.1), r.2) := by
  refine xm_of (own := RX10) (by decide) rfl (Nat.le_of_ble_eq_true rfl) ?_
  intro p e s m below meth c ls C0 W0 hret hnm hl
  have hx := C0.1
  have hb := C0.2.1
  have hl : lv_has ls 2 [(0, .ref l0)] := hl
  unfold fX10_part at h
  refine lv_aload_n hx hb dX10_part_0 rfl (lv_at hl 0 rfl) ?_
  obtain ⟨u1, h2, h⟩ := ob h
  obtain ⟨r3, h4, h⟩ := ob h
  refine xr_V (As := []) (rest := []) C0 W0 (ctX10_partWord l G h4) (gK_of h2) (rr := (RX10, TX10, 57)) rfl rfl mc_X10_partWord mv_X10_partWord ml_X10_249 ⟨by decide, by decide⟩ rfl hl.1 rfl (Nat.le_of_ble_eq_true rfl) ⟨by decide, by decide⟩ dX10_part_1 (fun H locs W0 => ?_)
  refine W.cs (cells' := 0) (slots' := 0) rfl rfl ?_
  refine W.eq (g2 := F0 m 4 ls [.int r3.1]) rfl ?_
  refine lv_istore_n (lv' := [(1, .int r3.1), (0, .ref l0)]) hx hb dX10_part_4 rfl hl (by decide) rfl (fun ls hl => ?_)
  refine lv_aload_n hx hb dX10_part_5 rfl (lv_at hl 1 rfl) ?_
  obtain ⟨v5, h6, h⟩ := ob h
  refine xr_getI C0 W0 cl_X10 8 (by decide) fl_X10_218 rfl h6 dX10_part_6 ?_
  refine lv_if_ne (tgt := 46) hx hb dX10_part_9 (by decide) (fun hcq => ?_) (fun hcq => ?_)
  · have h := it_f hcq h
    exact tX10_part_j46 C0 hret W0 (lv_sub hl [1, 0] rfl) h
  · have h := it_t hcq h
    refine lv_aload_n hx hb dX10_part_12 rfl (lv_at hl 1 rfl) ?_
    obtain ⟨q7, h8, h⟩ := ob h
    refine xr_getR C0 W0 cl_X10 4 (by decide) fl_X10_24 rfl h8 dX10_part_13 ?_
    refine lv_aload_n hx hb dX10_part_16 rfl (lv_at hl 1 rfl) ?_
    obtain ⟨v9, h10, h⟩ := ob h
    refine xr_getI C0 W0 cl_X10 7 (by decide) fl_X10_215 rfl h10 dX10_part_17 ?_
    obtain ⟨v11, h12, h⟩ := ob h
    refine xr_iald C0 W0 h12 dX10_part_20 ?_
    refine lv_iconst (v := 2) hx hb dX10_part_21 (by decide) ?_
    refine lv_icmp_eq (tgt := 46) hx hb dX10_part_22 (by decide) (fun hcq => ?_) (fun hcq => ?_)
    · have h := it_t hcq h
      exact tX10_part_j46 C0 hret W0 (lv_sub hl [1, 0] rfl) h
    · have h := it_f hcq h
      refine lv_aload_n hx hb dX10_part_25 rfl (lv_at hl 1 rfl) ?_
      refine lv_bipush (v := 40) hx hb dX10_part_26 (by decide) ?_
      obtain ⟨u13, h14, h⟩ := ob h
      obtain ⟨r15, h16, h⟩ := ob h
      refine xr_V (As := [.int 40]) (rest := []) C0 W0 (ctX10_isSign l G h16) (gK_of h14) (rr := (RX10, TX10, 57)) rfl rfl mc_X10_isSign mv_X10_isSign ml_X10_221 ⟨by decide, by decide⟩ rfl hl.1 rfl (Nat.le_of_ble_eq_true rfl) ⟨by decide, by decide⟩ dX10_part_28 (fun H locs W0 => ?_)
      refine W.cs (cells' := 0) (slots' := 0) rfl rfl ?_
      refine W.eq (g2 := F0 m 31 ls [.int r15.1]) rfl ?_
      refine lv_if_ne (tgt := 46) hx hb dX10_part_31 (by decide) (fun hcq => ?_) (fun hcq => ?_)
      · have h := it_f hcq h
        exact tX10_part_j46 C0 hret W0 (lv_sub hl [1, 0] rfl) h
      · have h := it_t hcq h
        refine lv_iload_n hx hb dX10_part_34 rfl (lv_at hl 0 rfl) ?_
        refine lv_if_ge (tgt := 46) hx hb dX10_part_35 (by decide) (fun hcq => ?_) (fun hcq => ?_)
        · have h := it_t hcq h
          exact tX10_part_j46 C0 hret W0 (lv_sub hl [1, 0] rfl) h
        · have h := it_f hcq h
          refine lv_aload_n hx hb dX10_part_38 rfl (lv_at hl 1 rfl) ?_
          refine lv_iconst (v := 1) hx hb dX10_part_39 (by decide) ?_
          obtain ⟨u17, h18, h⟩ := ob h
          obtain ⟨X19, h20, h⟩ := ob h
          refine xr_V (As := [.int 1]) (rest := []) C0 W0 (ctX10_wrong l G h20) (gK_of h18) (rr := (RX10, TX10, 57)) rfl rfl mc_X10_wrong mv_X10_wrong ml_X10_224 ⟨by decide, by decide⟩ rfl hl.1 rfl (Nat.le_of_ble_eq_true rfl) ⟨by decide, by decide⟩ dX10_part_40 (fun H locs W0 => ?_)
          refine W.cs (cells' := 0) (slots' := 0) rfl rfl ?_
          refine W.eq (g2 := F0 m 43 ls []) rfl ?_
          refine lv_goto (tgt := 59) hx hb dX10_part_43 (by decide) ?_
          exact tX10_part_j59 C0 hret W0 (lv_sub hl [1, 0] rfl) h
def fX10_goesOnBehind_j83  (l0 : Nat) (s0 : Int32) (s1 : Int32) (s2 : Nat) (X : XW) : Option (Int32 × XW) :=
  uI X s2 s1 s0 >>= fun X1 =>
  gI X1 l0 10 7 >>= fun v3 =>
  pI X1 l0 10 7 (v3 + 1) >>= fun X5 =>
  some (1, X5)
def fX10_goesOnBehind_j61  (l0 : Nat) (X : XW) : Option (Int32 × XW) :=
  gR X l0 10 23 >>= fun q1 =>
  gI X l0 10 22 >>= fun v3 =>
  gK X l0 10 >>= fun u5 =>
  fX10_isSign l0 43 X >>= fun r7 =>
  if (r7.1 = 0 : Prop) then (fX10_goesOnBehind_j83 l0 4 v3 q1 r7.2)
  else (fX10_goesOnBehind_j83 l0 3 v3 q1 r7.2)
def fX10_goesOnBehind_j176  (l0 : Nat) (s0 : Int32) (s1 : Int32) (s2 : Nat) (X : XW) : Option (Int32 × XW) :=
  uI X s2 s1 s0 >>= fun X1 =>
  gI X1 l0 10 7 >>= fun v3 =>
  pI X1 l0 10 7 (v3 + 1) >>= fun X5 =>
  some (1, X5)
def fX10_goesOnBehind_j153  (l0 : Nat) (X : XW) : Option (Int32 × XW) :=
  gR X l0 10 24 >>= fun q1 =>
  gI X l0 10 22 >>= fun v3 =>
  gK X l0 10 >>= fun u5 =>
  fX10_isSign l0 60 X >>= fun r7 =>
  if (r7.1 = 0 : Prop) then (fX10_goesOnBehind_j176 l0 6 v3 q1 r7.2)
  else (fX10_goesOnBehind_j176 l0 5 v3 q1 r7.2)
def fX10_goesOnBehind_j218 (rec : XW → Option (Int32 × XW)) (l0 : Nat) (X : XW) : Option (Int32 × XW) :=
  gK X l0 10 >>= fun u1 =>
  fX10_isWord l0 3 X >>= fun r3 =>
  if (r3.1 = 0 : Prop) then (gI r3.2 l0 10 22 >>= fun v5 =>
    if (v5 = 0 : Prop) then (some (0, r3.2))
    else (gK r3.2 l0 10 >>= fun u7 =>
      fX10_takeSign l0 41 r3.2 >>= fun X9 =>
      gI X9 l0 10 22 >>= fun v11 =>
      pI X9 l0 10 22 (v11 - 1) >>= fun X13 =>
      rec  X13))
  else (gR r3.2 l0 10 25 >>= fun q15 =>
    gI r3.2 l0 10 22 >>= fun v17 =>
    uI r3.2 q15 v17 7 >>= fun X19 =>
    gI X19 l0 10 7 >>= fun v21 =>
    pI X19 l0 10 7 (v21 + 1) >>= fun X23 =>
    some (1, X23))
def fX10_goesOnBehind_j189 (rec : XW → Option (Int32 × XW)) (l0 : Nat) (X : XW) : Option (Int32 × XW) :=
  gR X l0 10 25 >>= fun q1 =>
  gI X l0 10 22 >>= fun v3 =>
  aI X q1 1 v3 >>= fun v5 =>
  if (v5 = 0 : Prop) then (fX10_goesOnBehind_j218 rec l0 X)
  else (gK X l0 10 >>= fun u7 =>
    fX10_emit l0 7 0 X >>= fun X9 =>
    gR X9 l0 10 25 >>= fun q11 =>
    gI X9 l0 10 22 >>= fun v13 =>
    uI X9 q11 v13 0 >>= fun X15 =>
    fX10_goesOnBehind_j218 rec l0 X15)
def fX10_goesOnBehind_j43 (rec : XW → Option (Int32 × XW)) (l0 : Nat) (X : XW) : Option (Int32 × XW) :=
  gK X l0 10 >>= fun u1 =>
  fX10_isSign l0 43 X >>= fun r3 =>
  if (r3.1 = 0 : Prop) then (gK r3.2 l0 10 >>= fun u5 =>
    fX10_isSign l0 45 r3.2 >>= fun r7 =>
    if (r7.1 = 0 : Prop) then (gR r7.2 l0 10 24 >>= fun q9 =>
      gI r7.2 l0 10 22 >>= fun v11 =>
      aI r7.2 q9 1 v11 >>= fun v13 =>
      if (v13 = 0 : Prop) then (gK r7.2 l0 10 >>= fun u15 =>
        fX10_isSign l0 60 r7.2 >>= fun r17 =>
        if (r17.1 = 0 : Prop) then (gK r17.2 l0 10 >>= fun u19 =>
          fX10_isSign l0 61 r17.2 >>= fun r21 =>
          if (r21.1 = 0 : Prop) then (fX10_goesOnBehind_j189 rec l0 r21.2)
          else (fX10_goesOnBehind_j153 l0 r21.2))
        else (fX10_goesOnBehind_j153 l0 r17.2))
      else (gR r7.2 l0 10 24 >>= fun q23 =>
        gI r7.2 l0 10 22 >>= fun v25 =>
        aI r7.2 q23 1 v25 >>= fun v27 =>
        gK r7.2 l0 10 >>= fun u29 =>
        fX10_emit l0 v27 0 r7.2 >>= fun X31 =>
        gR X31 l0 10 24 >>= fun q33 =>
        gI X31 l0 10 22 >>= fun v35 =>
        uI X31 q33 v35 0 >>= fun X37 =>
        fX10_goesOnBehind_j189 rec l0 X37))
    else (fX10_goesOnBehind_j61 l0 r7.2))
  else (fX10_goesOnBehind_j61 l0 r3.2)
def fX10_goesOnBehind_l0_b (rec : XW → Option (Int32 × XW)) (l0 : Nat) (X : XW) : Option (Int32 × XW) :=
  gI X l0 10 8 >>= fun v1 =>
  if (v1 = 0 : Prop) then (gR X l0 10 23 >>= fun q3 =>
    gI X l0 10 22 >>= fun v5 =>
    aI X q3 1 v5 >>= fun v7 =>
    if (v7 = 0 : Prop) then (fX10_goesOnBehind_j43 rec l0 X)
    else (gR X l0 10 23 >>= fun q9 =>
      gI X l0 10 22 >>= fun v11 =>
      aI X q9 1 v11 >>= fun v13 =>
      gK X l0 10 >>= fun u15 =>
      fX10_emit l0 v13 0 X >>= fun X17 =>
      gR X17 l0 10 23 >>= fun q19 =>
      gI X17 l0 10 22 >>= fun v21 =>
      uI X17 q19 v21 0 >>= fun X23 =>
      fX10_goesOnBehind_j43 rec l0 X23))
  else (some (0, X))
def fX10_goesOnBehind_l0 (l0 : Nat) (n : Nat) : XW → Option (Int32 × XW) := iter (fun rec => fX10_goesOnBehind_l0_b rec l0) (fun  _ => none) n
def fX10_goesOnBehind (l0 : Nat) (X : XW) : Option (Int32 × XW) :=
  fX10_goesOnBehind_l0 l0 FU  X
theorem tX10_goesOnBehind_j83 {p : Program} {l : Launch} {e : Env} {s : State} {m : MethodId} {args : Array Value} {below : List Frame} {meth : Method} {c : Code} {G : XG} {X0 : XW} (C0 : XC p s m args meth c RX10 cX10_goesOnBehind 1 G) (hret : meth.sig.returnType = (some .boolean)) {r : Int32 × XW} {l0 : Nat} {s0 : Int32} {s1 : Int32} {s2 : Nat} {X : XW} {H : Heap} {locs : List Loc} {ls : Array Slot} (W0 : XD G X0 X s H locs) (hl : lv_has ls 1 [(0, .ref l0)]) (h : fX10_goesOnBehind_j83 l0 s0 s1 s2 X = some r) : W p l e { frames := 2, cells := 0, slots := 0, locals := 120 } s m args below meth c H locs 0 0 (MQ below (XQ G X0 (some (.int r.1), r.2)) args s 0 0 (xAd X0)) (F0 m 83 ls [.int s0, .int s1, .ref s2]) := by
  have hx := C0.1
  have hb := C0.2.1
  unfold fX10_goesOnBehind_j83 at h
  obtain ⟨X1, h2, h⟩ := ob h
  refine xr_iast C0 W0 h2 dX10_goesOnBehind_83 (fun H locs W0 => ?_)
  refine lv_aload_n hx hb dX10_goesOnBehind_84 rfl (lv_at hl 0 rfl) ?_
  refine lv_dup hx hb dX10_goesOnBehind_85 rfl ?_
  obtain ⟨v3, h4, h⟩ := ob h
  refine xr_getI C0 W0 cl_X10 7 (by decide) fl_X10_215 rfl h4 dX10_goesOnBehind_86 ?_
  refine lv_iconst (v := 1) hx hb dX10_goesOnBehind_89 (by decide) ?_
  refine lv_iadd hx hb dX10_goesOnBehind_90 ?_
  obtain ⟨X5, h6, h⟩ := ob h
  refine xr_putI C0 W0 cl_X10 7 (by decide) fl_X10_215 rfl rfl rfl (by decide) h6 dX10_goesOnBehind_91 (fun H locs W0 => ?_)
  refine lv_iconst (v := 1) hx hb dX10_goesOnBehind_94 (by decide) ?_
  exact xr_zret C0 W0 hret (by decide) (Option.some.inj h) dX10_goesOnBehind_95
theorem tX10_goesOnBehind_j61 {p : Program} {l : Launch} {e : Env} {s : State} {m : MethodId} {args : Array Value} {below : List Frame} {meth : Method} {c : Code} {G : XG} {X0 : XW} (C0 : XC p s m args meth c RX10 cX10_goesOnBehind 1 G) (hret : meth.sig.returnType = (some .boolean)) {r : Int32 × XW} {l0 : Nat} {X : XW} {H : Heap} {locs : List Loc} {ls : Array Slot} (W0 : XD G X0 X s H locs) (hl : lv_has ls 1 [(0, .ref l0)]) (h : fX10_goesOnBehind_j61 l0 X = some r) : W p l e { frames := 2, cells := 0, slots := 0, locals := 120 } s m args below meth c H locs 0 0 (MQ below (XQ G X0 (some (.int r.1), r.2)) args s 0 0 (xAd X0)) (F0 m 61 ls []) := by
  have hx := C0.1
  have hb := C0.2.1
  unfold fX10_goesOnBehind_j61 at h
  refine lv_aload_n hx hb dX10_goesOnBehind_61 rfl (lv_at hl 0 rfl) ?_
  obtain ⟨q1, h2, h⟩ := ob h
  refine xr_getR C0 W0 cl_X10 23 (by decide) fl_X10_102 rfl h2 dX10_goesOnBehind_62 ?_
  refine lv_aload_n hx hb dX10_goesOnBehind_65 rfl (lv_at hl 0 rfl) ?_
  obtain ⟨v3, h4, h⟩ := ob h
  refine xr_getI C0 W0 cl_X10 22 (by decide) fl_X10_259 rfl h4 dX10_goesOnBehind_66 ?_
  refine lv_aload_n hx hb dX10_goesOnBehind_69 rfl (lv_at hl 0 rfl) ?_
  refine lv_bipush (v := 43) hx hb dX10_goesOnBehind_70 (by decide) ?_
  obtain ⟨u5, h6, h⟩ := ob h
  obtain ⟨r7, h8, h⟩ := ob h
  refine xr_V (As := [.int 43]) (rest := [.int v3, .ref q1]) C0 W0 (ctX10_isSign l G h8) (gK_of h6) (rr := (RX10, TX10, 57)) rfl rfl mc_X10_isSign mv_X10_isSign ml_X10_221 ⟨by decide, by decide⟩ rfl hl.1 rfl (Nat.le_of_ble_eq_true rfl) ⟨by decide, by decide⟩ dX10_goesOnBehind_72 (fun H locs W0 => ?_)
  refine W.cs (cells' := 0) (slots' := 0) rfl rfl ?_
  refine W.eq (g2 := F0 m 75 ls [.int r7.1, .int v3, .ref q1]) rfl ?_
  refine lv_if_eq (tgt := 82) hx hb dX10_goesOnBehind_75 (by decide) (fun hcq => ?_) (fun hcq => ?_)
  · have h := it_t hcq h
    refine lv_iconst (v := 4) hx hb dX10_goesOnBehind_82 (by decide) ?_
    exact tX10_goesOnBehind_j83 C0 hret W0 (lv_sub hl [0] rfl) h
  · have h := it_f hcq h
    refine lv_iconst (v := 3) hx hb dX10_goesOnBehind_78 (by decide) ?_
    refine lv_goto (tgt := 83) hx hb dX10_goesOnBehind_79 (by decide) ?_
    exact tX10_goesOnBehind_j83 C0 hret W0 (lv_sub hl [0] rfl) h
theorem tX10_goesOnBehind_j176 {p : Program} {l : Launch} {e : Env} {s : State} {m : MethodId} {args : Array Value} {below : List Frame} {meth : Method} {c : Code} {G : XG} {X0 : XW} (C0 : XC p s m args meth c RX10 cX10_goesOnBehind 1 G) (hret : meth.sig.returnType = (some .boolean)) {r : Int32 × XW} {l0 : Nat} {s0 : Int32} {s1 : Int32} {s2 : Nat} {X : XW} {H : Heap} {locs : List Loc} {ls : Array Slot} (W0 : XD G X0 X s H locs) (hl : lv_has ls 1 [(0, .ref l0)]) (h : fX10_goesOnBehind_j176 l0 s0 s1 s2 X = some r) : W p l e { frames := 2, cells := 0, slots := 0, locals := 120 } s m args below meth c H locs 0 0 (MQ below (XQ G X0 (some (.int r.1), r.2)) args s 0 0 (xAd X0)) (F0 m 176 ls [.int s0, .int s1, .ref s2]) := by
  have hx := C0.1
  have hb := C0.2.1
  unfold fX10_goesOnBehind_j176 at h
  obtain ⟨X1, h2, h⟩ := ob h
  refine xr_iast C0 W0 h2 dX10_goesOnBehind_176 (fun H locs W0 => ?_)
  refine lv_aload_n hx hb dX10_goesOnBehind_177 rfl (lv_at hl 0 rfl) ?_
  refine lv_dup hx hb dX10_goesOnBehind_178 rfl ?_
  obtain ⟨v3, h4, h⟩ := ob h
  refine xr_getI C0 W0 cl_X10 7 (by decide) fl_X10_215 rfl h4 dX10_goesOnBehind_179 ?_
  refine lv_iconst (v := 1) hx hb dX10_goesOnBehind_182 (by decide) ?_
  refine lv_iadd hx hb dX10_goesOnBehind_183 ?_
  obtain ⟨X5, h6, h⟩ := ob h
  refine xr_putI C0 W0 cl_X10 7 (by decide) fl_X10_215 rfl rfl rfl (by decide) h6 dX10_goesOnBehind_184 (fun H locs W0 => ?_)
  refine lv_iconst (v := 1) hx hb dX10_goesOnBehind_187 (by decide) ?_
  exact xr_zret C0 W0 hret (by decide) (Option.some.inj h) dX10_goesOnBehind_188
theorem tX10_goesOnBehind_j153 {p : Program} {l : Launch} {e : Env} {s : State} {m : MethodId} {args : Array Value} {below : List Frame} {meth : Method} {c : Code} {G : XG} {X0 : XW} (C0 : XC p s m args meth c RX10 cX10_goesOnBehind 1 G) (hret : meth.sig.returnType = (some .boolean)) {r : Int32 × XW} {l0 : Nat} {X : XW} {H : Heap} {locs : List Loc} {ls : Array Slot} (W0 : XD G X0 X s H locs) (hl : lv_has ls 1 [(0, .ref l0)]) (h : fX10_goesOnBehind_j153 l0 X = some r) : W p l e { frames := 2, cells := 0, slots := 0, locals := 120 } s m args below meth c H locs 0 0 (MQ below (XQ G X0 (some (.int r.1), r.2)) args s 0 0 (xAd X0)) (F0 m 153 ls []) := by
  have hx := C0.1
  have hb := C0.2.1
  unfold fX10_goesOnBehind_j153 at h
  refine lv_aload_n hx hb dX10_goesOnBehind_153 rfl (lv_at hl 0 rfl) ?_
  obtain ⟨q1, h2, h⟩ := ob h
  refine xr_getR C0 W0 cl_X10 24 (by decide) fl_X10_105 rfl h2 dX10_goesOnBehind_154 ?_
  refine lv_aload_n hx hb dX10_goesOnBehind_157 rfl (lv_at hl 0 rfl) ?_
  obtain ⟨v3, h4, h⟩ := ob h
  refine xr_getI C0 W0 cl_X10 22 (by decide) fl_X10_259 rfl h4 dX10_goesOnBehind_158 ?_
  refine lv_aload_n hx hb dX10_goesOnBehind_161 rfl (lv_at hl 0 rfl) ?_
  refine lv_bipush (v := 60) hx hb dX10_goesOnBehind_162 (by decide) ?_
  obtain ⟨u5, h6, h⟩ := ob h
  obtain ⟨r7, h8, h⟩ := ob h
  refine xr_V (As := [.int 60]) (rest := [.int v3, .ref q1]) C0 W0 (ctX10_isSign l G h8) (gK_of h6) (rr := (RX10, TX10, 57)) rfl rfl mc_X10_isSign mv_X10_isSign ml_X10_221 ⟨by decide, by decide⟩ rfl hl.1 rfl (Nat.le_of_ble_eq_true rfl) ⟨by decide, by decide⟩ dX10_goesOnBehind_164 (fun H locs W0 => ?_)
  refine W.cs (cells' := 0) (slots' := 0) rfl rfl ?_
  refine W.eq (g2 := F0 m 167 ls [.int r7.1, .int v3, .ref q1]) rfl ?_
  refine lv_if_eq (tgt := 174) hx hb dX10_goesOnBehind_167 (by decide) (fun hcq => ?_) (fun hcq => ?_)
  · have h := it_t hcq h
    refine lv_bipush (v := 6) hx hb dX10_goesOnBehind_174 (by decide) ?_
    exact tX10_goesOnBehind_j176 C0 hret W0 (lv_sub hl [0] rfl) h
  · have h := it_f hcq h
    refine lv_iconst (v := 5) hx hb dX10_goesOnBehind_170 (by decide) ?_
    refine lv_goto (tgt := 176) hx hb dX10_goesOnBehind_171 (by decide) ?_
    exact tX10_goesOnBehind_j176 C0 hret W0 (lv_sub hl [0] rfl) h
theorem tX10_goesOnBehind_j218 {p : Program} {l : Launch} {e : Env} {s : State} {m : MethodId} {args : Array Value} {below : List Frame} {meth : Method} {c : Code} {G : XG} {X0 : XW} (C0 : XC p s m args meth c RX10 cX10_goesOnBehind 1 G) (hret : meth.sig.returnType = (some .boolean)) {r : Int32 × XW} {l0 : Nat}  {rec : XW → Option (Int32 × XW)} (hrec : ∀  {X : XW} {H : Heap} {locs : List Loc} {ls : Array Slot}, XD G X0 X s H locs → lv_has ls 1 [(0, .ref l0)] → rec  X = some r → W p l e { frames := 2, cells := 0, slots := 0, locals := 120 } s m args below meth c H locs 0 0 (MQ below (XQ G X0 (some (.int r.1), r.2)) args s 0 0 (xAd X0)) (F0 m 0 ls []))   {X : XW} {H : Heap} {locs : List Loc} {ls : Array Slot} (W0 : XD G X0 X s H locs) (hl : lv_has ls 1 [(0, .ref l0)]) (h : fX10_goesOnBehind_j218 rec l0 X = some r) : W p l e { frames := 2, cells := 0, slots := 0, locals := 120 } s m args below meth c H locs 0 0 (MQ below (XQ G X0 (some (.int r.1), r.2)) args s 0 0 (xAd X0)) (F0 m 218 ls []) := by
  have hx := C0.1
  have hb := C0.2.1
  unfold fX10_goesOnBehind_j218 at h
  refine lv_aload_n hx hb dX10_goesOnBehind_218 rfl (lv_at hl 0 rfl) ?_
  refine lv_iconst (v := 3) hx hb dX10_goesOnBehind_219 (by decide) ?_
  obtain ⟨u1, h2, h⟩ := ob h
  obtain ⟨r3, h4, h⟩ := ob h
  refine xr_V (As := [.int 3]) (rest := []) C0 W0 (ctX10_isWord l G h4) (gK_of h2) (rr := (RX10, TX10, 57)) rfl rfl mc_X10_isWord mv_X10_isWord ml_X10_228 ⟨by decide, by decide⟩ rfl hl.1 rfl (Nat.le_of_ble_eq_true rfl) ⟨by decide, by decide⟩ dX10_goesOnBehind_220 (fun H locs W0 => ?_)
  refine W.cs (cells' := 0) (slots' := 0) rfl rfl ?_
  refine W.eq (g2 := F0 m 223 ls [.int r3.1]) rfl ?_
  refine lv_if_eq (tgt := 249) hx hb dX10_goesOnBehind_223 (by decide) (fun hcq => ?_) (fun hcq => ?_)
  · have h := it_t hcq h
    refine lv_aload_n hx hb dX10_goesOnBehind_249 rfl (lv_at hl 0 rfl) ?_
    obtain ⟨v5, h6, h⟩ := ob h
    refine xr_getI C0 W0 cl_X10 22 (by decide) fl_X10_259 rfl h6 dX10_goesOnBehind_250 ?_
    refine lv_if_ne (tgt := 258) hx hb dX10_goesOnBehind_253 (by decide) (fun hcq => ?_) (fun hcq => ?_)
    · have h := it_f hcq h
      refine lv_aload_n hx hb dX10_goesOnBehind_258 rfl (lv_at hl 0 rfl) ?_
      refine lv_bipush (v := 41) hx hb dX10_goesOnBehind_259 (by decide) ?_
      obtain ⟨u7, h8, h⟩ := ob h
      obtain ⟨X9, h10, h⟩ := ob h
      refine xr_V (As := [.int 41]) (rest := []) C0 W0 (ctX10_takeSign l G h10) (gK_of h8) (rr := (RX10, TX10, 57)) rfl rfl mc_X10_takeSign mv_X10_takeSign ml_X10_256 ⟨by decide, by decide⟩ rfl hl.1 rfl (Nat.le_of_ble_eq_true rfl) ⟨by decide, by decide⟩ dX10_goesOnBehind_261 (fun H locs W0 => ?_)
      refine W.cs (cells' := 0) (slots' := 0) rfl rfl ?_
      refine W.eq (g2 := F0 m 264 ls []) rfl ?_
      refine lv_aload_n hx hb dX10_goesOnBehind_264 rfl (lv_at hl 0 rfl) ?_
      refine lv_dup hx hb dX10_goesOnBehind_265 rfl ?_
      obtain ⟨v11, h12, h⟩ := ob h
      refine xr_getI C0 W0 cl_X10 22 (by decide) fl_X10_259 rfl h12 dX10_goesOnBehind_266 ?_
      refine lv_iconst (v := 1) hx hb dX10_goesOnBehind_269 (by decide) ?_
      refine lv_isub hx hb dX10_goesOnBehind_270 ?_
      obtain ⟨X13, h14, h⟩ := ob h
      refine xr_putI C0 W0 cl_X10 22 (by decide) fl_X10_259 rfl rfl rfl (by decide) h14 dX10_goesOnBehind_271 (fun H locs W0 => ?_)
      refine lv_goto (tgt := 0) hx hb dX10_goesOnBehind_274 (by decide) ?_
      exact hrec W0 (lv_sub hl [0] rfl) h
    · have h := it_t hcq h
      refine lv_iconst (v := 0) hx hb dX10_goesOnBehind_256 (by decide) ?_
      exact xr_zret C0 W0 hret (by decide) (Option.some.inj h) dX10_goesOnBehind_257
  · have h := it_f hcq h
    refine lv_aload_n hx hb dX10_goesOnBehind_226 rfl (lv_at hl 0 rfl) ?_
    obtain ⟨q15, h16, h⟩ := ob h
    refine xr_getR C0 W0 cl_X10 25 (by decide) fl_X10_108 rfl h16 dX10_goesOnBehind_227 ?_
    refine lv_aload_n hx hb dX10_goesOnBehind_230 rfl (lv_at hl 0 rfl) ?_
    obtain ⟨v17, h18, h⟩ := ob h
    refine xr_getI C0 W0 cl_X10 22 (by decide) fl_X10_259 rfl h18 dX10_goesOnBehind_231 ?_
    refine lv_bipush (v := 7) hx hb dX10_goesOnBehind_234 (by decide) ?_
    obtain ⟨X19, h20, h⟩ := ob h
    refine xr_iast C0 W0 h20 dX10_goesOnBehind_236 (fun H locs W0 => ?_)
    refine lv_aload_n hx hb dX10_goesOnBehind_237 rfl (lv_at hl 0 rfl) ?_
    refine lv_dup hx hb dX10_goesOnBehind_238 rfl ?_
    obtain ⟨v21, h22, h⟩ := ob h
    refine xr_getI C0 W0 cl_X10 7 (by decide) fl_X10_215 rfl h22 dX10_goesOnBehind_239 ?_
    refine lv_iconst (v := 1) hx hb dX10_goesOnBehind_242 (by decide) ?_
    refine lv_iadd hx hb dX10_goesOnBehind_243 ?_
    obtain ⟨X23, h24, h⟩ := ob h
    refine xr_putI C0 W0 cl_X10 7 (by decide) fl_X10_215 rfl rfl rfl (by decide) h24 dX10_goesOnBehind_244 (fun H locs W0 => ?_)
    refine lv_iconst (v := 1) hx hb dX10_goesOnBehind_247 (by decide) ?_
    exact xr_zret C0 W0 hret (by decide) (Option.some.inj h) dX10_goesOnBehind_248
theorem tX10_goesOnBehind_j189 {p : Program} {l : Launch} {e : Env} {s : State} {m : MethodId} {args : Array Value} {below : List Frame} {meth : Method} {c : Code} {G : XG} {X0 : XW} (C0 : XC p s m args meth c RX10 cX10_goesOnBehind 1 G) (hret : meth.sig.returnType = (some .boolean)) {r : Int32 × XW} {l0 : Nat}  {rec : XW → Option (Int32 × XW)} (hrec : ∀  {X : XW} {H : Heap} {locs : List Loc} {ls : Array Slot}, XD G X0 X s H locs → lv_has ls 1 [(0, .ref l0)] → rec  X = some r → W p l e { frames := 2, cells := 0, slots := 0, locals := 120 } s m args below meth c H locs 0 0 (MQ below (XQ G X0 (some (.int r.1), r.2)) args s 0 0 (xAd X0)) (F0 m 0 ls []))   {X : XW} {H : Heap} {locs : List Loc} {ls : Array Slot} (W0 : XD G X0 X s H locs) (hl : lv_has ls 1 [(0, .ref l0)]) (h : fX10_goesOnBehind_j189 rec l0 X = some r) : W p l e { frames := 2, cells := 0, slots := 0, locals := 120 } s m args below meth c H locs 0 0 (MQ below (XQ G X0 (some (.int r.1), r.2)) args s 0 0 (xAd X0)) (F0 m 189 ls []) := by
  have hx := C0.1
  have hb := C0.2.1
  unfold fX10_goesOnBehind_j189 at h
  refine lv_aload_n hx hb dX10_goesOnBehind_189 rfl (lv_at hl 0 rfl) ?_
  obtain ⟨q1, h2, h⟩ := ob h
  refine xr_getR C0 W0 cl_X10 25 (by decide) fl_X10_108 rfl h2 dX10_goesOnBehind_190 ?_
  refine lv_aload_n hx hb dX10_goesOnBehind_193 rfl (lv_at hl 0 rfl) ?_
  obtain ⟨v3, h4, h⟩ := ob h
  refine xr_getI C0 W0 cl_X10 22 (by decide) fl_X10_259 rfl h4 dX10_goesOnBehind_194 ?_
  obtain ⟨v5, h6, h⟩ := ob h
  refine xr_iald C0 W0 h6 dX10_goesOnBehind_197 ?_
  refine lv_if_eq (tgt := 218) hx hb dX10_goesOnBehind_198 (by decide) (fun hcq => ?_) (fun hcq => ?_)
  · have h := it_t hcq h
    exact tX10_goesOnBehind_j218 C0 hret hrec W0 (lv_sub hl [0] rfl) h
  · have h := it_f hcq h
    refine lv_aload_n hx hb dX10_goesOnBehind_201 rfl (lv_at hl 0 rfl) ?_
    refine lv_bipush (v := 7) hx hb dX10_goesOnBehind_202 (by decide) ?_
    refine lv_iconst (v := 0) hx hb dX10_goesOnBehind_204 (by decide) ?_
    obtain ⟨u7, h8, h⟩ := ob h
    obtain ⟨X9, h10, h⟩ := ob h
    refine xr_V (As := [.int 7, .int 0]) (rest := []) C0 W0 (ctX10_emit l G h10) (gK_of h8) (rr := (RX10, TX10, 57)) rfl rfl mc_X10_emit mv_X10_emit ml_X10_272 ⟨by decide, by decide⟩ rfl hl.1 rfl (Nat.le_of_ble_eq_true rfl) ⟨by decide, by decide⟩ dX10_goesOnBehind_205 (fun H locs W0 => ?_)
    refine W.cs (cells' := 0) (slots' := 0) rfl rfl ?_
    refine W.eq (g2 := F0 m 208 ls []) rfl ?_
    refine lv_aload_n hx hb dX10_goesOnBehind_208 rfl (lv_at hl 0 rfl) ?_
    obtain ⟨q11, h12, h⟩ := ob h
    refine xr_getR C0 W0 cl_X10 25 (by decide) fl_X10_108 rfl h12 dX10_goesOnBehind_209 ?_
    refine lv_aload_n hx hb dX10_goesOnBehind_212 rfl (lv_at hl 0 rfl) ?_
    obtain ⟨v13, h14, h⟩ := ob h
    refine xr_getI C0 W0 cl_X10 22 (by decide) fl_X10_259 rfl h14 dX10_goesOnBehind_213 ?_
    refine lv_iconst (v := 0) hx hb dX10_goesOnBehind_216 (by decide) ?_
    obtain ⟨X15, h16, h⟩ := ob h
    refine xr_iast C0 W0 h16 dX10_goesOnBehind_217 (fun H locs W0 => ?_)
    exact tX10_goesOnBehind_j218 C0 hret hrec W0 (lv_sub hl [0] rfl) h
theorem tX10_goesOnBehind_j43 {p : Program} {l : Launch} {e : Env} {s : State} {m : MethodId} {args : Array Value} {below : List Frame} {meth : Method} {c : Code} {G : XG} {X0 : XW} (C0 : XC p s m args meth c RX10 cX10_goesOnBehind 1 G) (hret : meth.sig.returnType = (some .boolean)) {r : Int32 × XW} {l0 : Nat}  {rec : XW → Option (Int32 × XW)} (hrec : ∀  {X : XW} {H : Heap} {locs : List Loc} {ls : Array Slot}, XD G X0 X s H locs → lv_has ls 1 [(0, .ref l0)] → rec  X = some r → W p l e { frames := 2, cells := 0, slots := 0, locals := 120 } s m args below meth c H locs 0 0 (MQ below (XQ G X0 (some (.int r.1), r.2)) args s 0 0 (xAd X0)) (F0 m 0 ls []))   {X : XW} {H : Heap} {locs : List Loc} {ls : Array Slot} (W0 : XD G X0 X s H locs) (hl : lv_has ls 1 [(0, .ref l0)]) (h : fX10_goesOnBehind_j43 rec l0 X = some r) : W p l e { frames := 2, cells := 0, slots := 0, locals := 120 } s m args below meth c H locs 0 0 (MQ below (XQ G X0 (some (.int r.1), r.2)) args s 0 0 (xAd X0)) (F0 m 43 ls []) := by
  have hx := C0.1
  have hb := C0.2.1
  unfold fX10_goesOnBehind_j43 at h
  refine lv_aload_n hx hb dX10_goesOnBehind_43 rfl (lv_at hl 0 rfl) ?_
  refine lv_bipush (v := 43) hx hb dX10_goesOnBehind_44 (by decide) ?_
  obtain ⟨u1, h2, h⟩ := ob h
  obtain ⟨r3, h4, h⟩ := ob h
  refine xr_V (As := [.int 43]) (rest := []) C0 W0 (ctX10_isSign l G h4) (gK_of h2) (rr := (RX10, TX10, 57)) rfl rfl mc_X10_isSign mv_X10_isSign ml_X10_221 ⟨by decide, by decide⟩ rfl hl.1 rfl (Nat.le_of_ble_eq_true rfl) ⟨by decide, by decide⟩ dX10_goesOnBehind_46 (fun H locs W0 => ?_)
  refine W.cs (cells' := 0) (slots' := 0) rfl rfl ?_
  refine W.eq (g2 := F0 m 49 ls [.int r3.1]) rfl ?_
  refine lv_if_ne (tgt := 61) hx hb dX10_goesOnBehind_49 (by decide) (fun hcq => ?_) (fun hcq => ?_)
  · have h := it_f hcq h
    exact tX10_goesOnBehind_j61 C0 hret W0 (lv_sub hl [0] rfl) h
  · have h := it_t hcq h
    refine lv_aload_n hx hb dX10_goesOnBehind_52 rfl (lv_at hl 0 rfl) ?_
    refine lv_bipush (v := 45) hx hb dX10_goesOnBehind_53 (by decide) ?_
    obtain ⟨u5, h6, h⟩ := ob h
    obtain ⟨r7, h8, h⟩ := ob h
    refine xr_V (As := [.int 45]) (rest := []) C0 W0 (ctX10_isSign l G h8) (gK_of h6) (rr := (RX10, TX10, 57)) rfl rfl mc_X10_isSign mv_X10_isSign ml_X10_221 ⟨by decide, by decide⟩ rfl hl.1 rfl (Nat.le_of_ble_eq_true rfl) ⟨by decide, by decide⟩ dX10_goesOnBehind_55 (fun H locs W0 => ?_)
    refine W.cs (cells' := 0) (slots' := 0) rfl rfl ?_
    refine W.eq (g2 := F0 m 58 ls [.int r7.1]) rfl ?_
    refine lv_if_eq (tgt := 96) hx hb dX10_goesOnBehind_58 (by decide) (fun hcq => ?_) (fun hcq => ?_)
    · have h := it_t hcq h
      refine lv_aload_n hx hb dX10_goesOnBehind_96 rfl (lv_at hl 0 rfl) ?_
      obtain ⟨q9, h10, h⟩ := ob h
      refine xr_getR C0 W0 cl_X10 24 (by decide) fl_X10_105 rfl h10 dX10_goesOnBehind_97 ?_
      refine lv_aload_n hx hb dX10_goesOnBehind_100 rfl (lv_at hl 0 rfl) ?_
      obtain ⟨v11, h12, h⟩ := ob h
      refine xr_getI C0 W0 cl_X10 22 (by decide) fl_X10_259 rfl h12 dX10_goesOnBehind_101 ?_
      obtain ⟨v13, h14, h⟩ := ob h
      refine xr_iald C0 W0 h14 dX10_goesOnBehind_104 ?_
      refine lv_if_eq (tgt := 135) hx hb dX10_goesOnBehind_105 (by decide) (fun hcq => ?_) (fun hcq => ?_)
      · have h := it_t hcq h
        refine lv_aload_n hx hb dX10_goesOnBehind_135 rfl (lv_at hl 0 rfl) ?_
        refine lv_bipush (v := 60) hx hb dX10_goesOnBehind_136 (by decide) ?_
        obtain ⟨u15, h16, h⟩ := ob h
        obtain ⟨r17, h18, h⟩ := ob h
        refine xr_V (As := [.int 60]) (rest := []) C0 W0 (ctX10_isSign l G h18) (gK_of h16) (rr := (RX10, TX10, 57)) rfl rfl mc_X10_isSign mv_X10_isSign ml_X10_221 ⟨by decide, by decide⟩ rfl hl.1 rfl (Nat.le_of_ble_eq_true rfl) ⟨by decide, by decide⟩ dX10_goesOnBehind_138 (fun H locs W0 => ?_)
        refine W.cs (cells' := 0) (slots' := 0) rfl rfl ?_
        refine W.eq (g2 := F0 m 141 ls [.int r17.1]) rfl ?_
        refine lv_if_ne (tgt := 153) hx hb dX10_goesOnBehind_141 (by decide) (fun hcq => ?_) (fun hcq => ?_)
        · have h := it_f hcq h
          exact tX10_goesOnBehind_j153 C0 hret W0 (lv_sub hl [0] rfl) h
        · have h := it_t hcq h
          refine lv_aload_n hx hb dX10_goesOnBehind_144 rfl (lv_at hl 0 rfl) ?_
          refine lv_bipush (v := 61) hx hb dX10_goesOnBehind_145 (by decide) ?_
          obtain ⟨u19, h20, h⟩ := ob h
          obtain ⟨r21, h22, h⟩ := ob h
          refine xr_V (As := [.int 61]) (rest := []) C0 W0 (ctX10_isSign l G h22) (gK_of h20) (rr := (RX10, TX10, 57)) rfl rfl mc_X10_isSign mv_X10_isSign ml_X10_221 ⟨by decide, by decide⟩ rfl hl.1 rfl (Nat.le_of_ble_eq_true rfl) ⟨by decide, by decide⟩ dX10_goesOnBehind_147 (fun H locs W0 => ?_)
          refine W.cs (cells' := 0) (slots' := 0) rfl rfl ?_
          refine W.eq (g2 := F0 m 150 ls [.int r21.1]) rfl ?_
          refine lv_if_eq (tgt := 189) hx hb dX10_goesOnBehind_150 (by decide) (fun hcq => ?_) (fun hcq => ?_)
          · have h := it_t hcq h
            exact tX10_goesOnBehind_j189 C0 hret hrec W0 (lv_sub hl [0] rfl) h
          · have h := it_f hcq h
            exact tX10_goesOnBehind_j153 C0 hret W0 (lv_sub hl [0] rfl) h
      · have h := it_f hcq h
        refine lv_aload_n hx hb dX10_goesOnBehind_108 rfl (lv_at hl 0 rfl) ?_
        refine lv_aload_n hx hb dX10_goesOnBehind_109 rfl (lv_at hl 0 rfl) ?_
        obtain ⟨q23, h24, h⟩ := ob h
        refine xr_getR C0 W0 cl_X10 24 (by decide) fl_X10_105 rfl h24 dX10_goesOnBehind_110 ?_
        refine lv_aload_n hx hb dX10_goesOnBehind_113 rfl (lv_at hl 0 rfl) ?_
        obtain ⟨v25, h26, h⟩ := ob h
        refine xr_getI C0 W0 cl_X10 22 (by decide) fl_X10_259 rfl h26 dX10_goesOnBehind_114 ?_
        obtain ⟨v27, h28, h⟩ := ob h
        refine xr_iald C0 W0 h28 dX10_goesOnBehind_117 ?_
        refine lv_iconst (v := 0) hx hb dX10_goesOnBehind_118 (by decide) ?_
        obtain ⟨u29, h30, h⟩ := ob h
        obtain ⟨X31, h32, h⟩ := ob h
        refine xr_V (As := [.int v27, .int 0]) (rest := []) C0 W0 (ctX10_emit l G h32) (gK_of h30) (rr := (RX10, TX10, 57)) rfl rfl mc_X10_emit mv_X10_emit ml_X10_272 ⟨by decide, by decide⟩ rfl hl.1 rfl (Nat.le_of_ble_eq_true rfl) ⟨by decide, by decide⟩ dX10_goesOnBehind_119 (fun H locs W0 => ?_)
        refine W.cs (cells' := 0) (slots' := 0) rfl rfl ?_
        refine W.eq (g2 := F0 m 122 ls []) rfl ?_
        refine lv_aload_n hx hb dX10_goesOnBehind_122 rfl (lv_at hl 0 rfl) ?_
        obtain ⟨q33, h34, h⟩ := ob h
        refine xr_getR C0 W0 cl_X10 24 (by decide) fl_X10_105 rfl h34 dX10_goesOnBehind_123 ?_
        refine lv_aload_n hx hb dX10_goesOnBehind_126 rfl (lv_at hl 0 rfl) ?_
        obtain ⟨v35, h36, h⟩ := ob h
        refine xr_getI C0 W0 cl_X10 22 (by decide) fl_X10_259 rfl h36 dX10_goesOnBehind_127 ?_
        refine lv_iconst (v := 0) hx hb dX10_goesOnBehind_130 (by decide) ?_
        obtain ⟨X37, h38, h⟩ := ob h
        refine xr_iast C0 W0 h38 dX10_goesOnBehind_131 (fun H locs W0 => ?_)
        refine lv_goto (tgt := 189) hx hb dX10_goesOnBehind_132 (by decide) ?_
        exact tX10_goesOnBehind_j189 C0 hret hrec W0 (lv_sub hl [0] rfl) h
    · have h := it_f hcq h
      exact tX10_goesOnBehind_j61 C0 hret W0 (lv_sub hl [0] rfl) h
theorem tX10_goesOnBehind_l0_b {p : Program} {l : Launch} {e : Env} {s : State} {m : MethodId} {args : Array Value} {below : List Frame} {meth : Method} {c : Code} {G : XG} {X0 : XW} (C0 : XC p s m args meth c RX10 cX10_goesOnBehind 1 G) (hret : meth.sig.returnType = (some .boolean)) {r : Int32 × XW} {l0 : Nat}  {rec : XW → Option (Int32 × XW)} (hrec : ∀  {X : XW} {H : Heap} {locs : List Loc} {ls : Array Slot}, XD G X0 X s H locs → lv_has ls 1 [(0, .ref l0)] → rec  X = some r → W p l e { frames := 2, cells := 0, slots := 0, locals := 120 } s m args below meth c H locs 0 0 (MQ below (XQ G X0 (some (.int r.1), r.2)) args s 0 0 (xAd X0)) (F0 m 0 ls []))   {X : XW} {H : Heap} {locs : List Loc} {ls : Array Slot} (W0 : XD G X0 X s H locs) (hl : lv_has ls 1 [(0, .ref l0)]) (h : fX10_goesOnBehind_l0_b rec l0 X = some r) : W p l e { frames := 2, cells := 0, slots := 0, locals := 120 } s m args below meth c H locs 0 0 (MQ below (XQ G X0 (some (.int r.1), r.2)) args s 0 0 (xAd X0)) (F0 m 0 ls []) := by
  have hx := C0.1
  have hb := C0.2.1
  unfold fX10_goesOnBehind_l0_b at h
  refine lv_aload_n hx hb dX10_goesOnBehind_0 rfl (lv_at hl 0 rfl) ?_
  obtain ⟨v1, h2, h⟩ := ob h
  refine xr_getI C0 W0 cl_X10 8 (by decide) fl_X10_218 rfl h2 dX10_goesOnBehind_1 ?_
  refine lv_if_ne (tgt := 277) hx hb dX10_goesOnBehind_4 (by decide) (fun hcq => ?_) (fun hcq => ?_)
  · have h := it_f hcq h
    refine lv_iconst (v := 0) hx hb dX10_goesOnBehind_277 (by decide) ?_
    exact xr_zret C0 W0 hret (by decide) (Option.some.inj h) dX10_goesOnBehind_278
  · have h := it_t hcq h
    refine lv_aload_n hx hb dX10_goesOnBehind_7 rfl (lv_at hl 0 rfl) ?_
    obtain ⟨q3, h4, h⟩ := ob h
    refine xr_getR C0 W0 cl_X10 23 (by decide) fl_X10_102 rfl h4 dX10_goesOnBehind_8 ?_
    refine lv_aload_n hx hb dX10_goesOnBehind_11 rfl (lv_at hl 0 rfl) ?_
    obtain ⟨v5, h6, h⟩ := ob h
    refine xr_getI C0 W0 cl_X10 22 (by decide) fl_X10_259 rfl h6 dX10_goesOnBehind_12 ?_
    obtain ⟨v7, h8, h⟩ := ob h
    refine xr_iald C0 W0 h8 dX10_goesOnBehind_15 ?_
    refine lv_if_eq (tgt := 43) hx hb dX10_goesOnBehind_16 (by decide) (fun hcq => ?_) (fun hcq => ?_)
    · have h := it_t hcq h
      exact tX10_goesOnBehind_j43 C0 hret hrec W0 (lv_sub hl [0] rfl) h
    · have h := it_f hcq h
      refine lv_aload_n hx hb dX10_goesOnBehind_19 rfl (lv_at hl 0 rfl) ?_
      refine lv_aload_n hx hb dX10_goesOnBehind_20 rfl (lv_at hl 0 rfl) ?_
      obtain ⟨q9, h10, h⟩ := ob h
      refine xr_getR C0 W0 cl_X10 23 (by decide) fl_X10_102 rfl h10 dX10_goesOnBehind_21 ?_
      refine lv_aload_n hx hb dX10_goesOnBehind_24 rfl (lv_at hl 0 rfl) ?_
      obtain ⟨v11, h12, h⟩ := ob h
      refine xr_getI C0 W0 cl_X10 22 (by decide) fl_X10_259 rfl h12 dX10_goesOnBehind_25 ?_
      obtain ⟨v13, h14, h⟩ := ob h
      refine xr_iald C0 W0 h14 dX10_goesOnBehind_28 ?_
      refine lv_iconst (v := 0) hx hb dX10_goesOnBehind_29 (by decide) ?_
      obtain ⟨u15, h16, h⟩ := ob h
      obtain ⟨X17, h18, h⟩ := ob h
      refine xr_V (As := [.int v13, .int 0]) (rest := []) C0 W0 (ctX10_emit l G h18) (gK_of h16) (rr := (RX10, TX10, 57)) rfl rfl mc_X10_emit mv_X10_emit ml_X10_272 ⟨by decide, by decide⟩ rfl hl.1 rfl (Nat.le_of_ble_eq_true rfl) ⟨by decide, by decide⟩ dX10_goesOnBehind_30 (fun H locs W0 => ?_)
      refine W.cs (cells' := 0) (slots' := 0) rfl rfl ?_
      refine W.eq (g2 := F0 m 33 ls []) rfl ?_
      refine lv_aload_n hx hb dX10_goesOnBehind_33 rfl (lv_at hl 0 rfl) ?_
      obtain ⟨q19, h20, h⟩ := ob h
      refine xr_getR C0 W0 cl_X10 23 (by decide) fl_X10_102 rfl h20 dX10_goesOnBehind_34 ?_
      refine lv_aload_n hx hb dX10_goesOnBehind_37 rfl (lv_at hl 0 rfl) ?_
      obtain ⟨v21, h22, h⟩ := ob h
      refine xr_getI C0 W0 cl_X10 22 (by decide) fl_X10_259 rfl h22 dX10_goesOnBehind_38 ?_
      refine lv_iconst (v := 0) hx hb dX10_goesOnBehind_41 (by decide) ?_
      obtain ⟨X23, h24, h⟩ := ob h
      refine xr_iast C0 W0 h24 dX10_goesOnBehind_42 (fun H locs W0 => ?_)
      exact tX10_goesOnBehind_j43 C0 hret hrec W0 (lv_sub hl [0] rfl) h
theorem tX10_goesOnBehind_l0 {p : Program} {l : Launch} {e : Env} {s : State} {m : MethodId} {args : Array Value} {below : List Frame} {meth : Method} {c : Code} {G : XG} {X0 : XW} (C0 : XC p s m args meth c RX10 cX10_goesOnBehind 1 G) (hret : meth.sig.returnType = (some .boolean)) {r : Int32 × XW} {l0 : Nat}  : ∀ (n : Nat)  {X : XW} {H : Heap} {locs : List Loc} {ls : Array Slot}, XD G X0 X s H locs → lv_has ls 1 [(0, .ref l0)] → fX10_goesOnBehind_l0 l0 n  X = some r → W p l e { frames := 2, cells := 0, slots := 0, locals := 120 } s m args below meth c H locs 0 0 (MQ below (XQ G X0 (some (.int r.1), r.2)) args s 0 0 (xAd X0)) (F0 m 0 ls []) := by
  intro n
  induction n with
  | zero =>
    intro  X H locs ls W0 hl h
    cases h
  | succ n ih =>
    intro  X H locs ls W0 hl h
    exact tX10_goesOnBehind_l0_b C0 hret (rec := fX10_goesOnBehind_l0 l0 n) (fun W0 hl h => ih W0 hl h) W0 hl h
theorem ctX10_goesOnBehind (l : Launch) (G : XG) {l0 : Nat} {X : XW} {r : Int32 × XW}  (h : fX10_goesOnBehind l0 X = some r) : XM l G yX10_goesOnBehind cX10_goesOnBehind 1 (some .boolean) 2 120 0 0 [.ref l0] X (some (.int r.1), r.2) := by
  refine xm_of (own := RX10) (by decide) rfl (Nat.le_of_ble_eq_true rfl) ?_
  intro p e s m below meth c ls C0 W0 hret hnm hl
  have hx := C0.1
  have hb := C0.2.1
  have hl : lv_has ls 1 [(0, .ref l0)] := hl
  unfold fX10_goesOnBehind at h
  exact tX10_goesOnBehind_l0 C0 hret FU W0 (lv_sub hl [0] rfl) h
def fX10_expression_j41 (rec : Int32 → XW → Option (XW)) (l0 : Nat) (s0 : Int32) (X : XW) : Option (XW) :=
  rec s0 X
def fX10_expression_j36 (rec : Int32 → XW → Option (XW)) (l0 : Nat) (X : XW) : Option (XW) :=
  fX10_expression_j41 rec l0 1 X
def fX10_expression_l11_b (rec : Int32 → XW → Option (XW)) (l0 : Nat) (l1 : Int32) (X : XW) : Option (XW) :=
  if (l1 = 0 : Prop) then (some (X))
  else (gI X l0 10 8 >>= fun v1 =>
    if (v1 = 0 : Prop) then (gK X l0 10 >>= fun u3 =>
      fX10_part l0 X >>= fun r5 =>
      if (r5.1 = 0 : Prop) then (gK r5.2 l0 10 >>= fun u7 =>
        fX10_goesOnBehind l0 r5.2 >>= fun r9 =>
        if (r9.1 = 0 : Prop) then (fX10_expression_j41 rec l0 0 r9.2)
        else (fX10_expression_j36 rec l0 r9.2))
      else (fX10_expression_j36 rec l0 r5.2))
    else (some (X)))
def fX10_expression_l11 (l0 : Nat) (n : Nat) : Int32 → XW → Option (XW) := iter (fun rec => fX10_expression_l11_b rec l0) (fun _ _ => none) n
def fX10_expression (l0 : Nat) (X : XW) : Option (XW) :=
  pI X l0 10 22 0 >>= fun X1 =>
  gK X1 l0 10 >>= fun u3 =>
  fX10_opens l0 X1 >>= fun X5 =>
  fX10_expression_l11 l0 FU 1 X5 >>= fun r7 =>
  gK r7 l0 10 >>= fun u9 =>
  fX10_emit l0 0 0 r7 >>= fun X11 =>
  some X11
theorem tX10_expression_j41 {p : Program} {l : Launch} {e : Env} {s : State} {m : MethodId} {args : Array Value} {below : List Frame} {meth : Method} {c : Code} {G : XG} {X0 : XW} (C0 : XC p s m args meth c RX10 cX10_expression 2 G) (hret : meth.sig.returnType = none) {r : XW} {l0 : Nat} {Q : State → Prop} {rec : Int32 → XW → Option (XW)} (hrec : ∀ {y1 : Int32} {X : XW} {H : Heap} {locs : List Loc} {ls : Array Slot}, XD G X0 X s H locs → lv_has ls 2 [(0, .ref l0), (1, .int y1)] → rec y1 X = some r → W p l e { frames := 3, cells := 0, slots := 0, locals := 180 } s m args below meth c H locs 0 0 Q (F0 m 11 ls [])) (hK : ∀ {H : Heap} {locs : List Loc} {ls : Array Slot}, XD G X0 r s H locs → lv_has ls 2 [(0, .ref l0)] → W p l e { frames := 3, cells := 0, slots := 0, locals := 180 } s m args below meth c H locs 0 0 Q (F0 m 45 ls []))  {s0 : Int32} {X : XW} {H : Heap} {locs : List Loc} {ls : Array Slot} (W0 : XD G X0 X s H locs) (hl : lv_has ls 2 [(0, .ref l0)]) (h : fX10_expression_j41 rec l0 s0 X = some r) : W p l e { frames := 3, cells := 0, slots := 0, locals := 180 } s m args below meth c H locs 0 0 Q (F0 m 41 ls [.int s0]) := by
  have hx := C0.1
  have hb := C0.2.1
  unfold fX10_expression_j41 at h
  refine lv_istore_n (lv' := [(1, .int s0), (0, .ref l0)]) hx hb dX10_expression_41 rfl hl (by decide) rfl (fun ls hl => ?_)
  refine lv_goto (tgt := 11) hx hb dX10_expression_42 (by decide) ?_
  exact hrec W0 (lv_sub hl [1, 0] rfl) h
theorem tX10_expression_j36 {p : Program} {l : Launch} {e : Env} {s : State} {m : MethodId} {args : Array Value} {below : List Frame} {meth : Method} {c : Code} {G : XG} {X0 : XW} (C0 : XC p s m args meth c RX10 cX10_expression 2 G) (hret : meth.sig.returnType = none) {r : XW} {l0 : Nat} {Q : State → Prop} {rec : Int32 → XW → Option (XW)} (hrec : ∀ {y1 : Int32} {X : XW} {H : Heap} {locs : List Loc} {ls : Array Slot}, XD G X0 X s H locs → lv_has ls 2 [(0, .ref l0), (1, .int y1)] → rec y1 X = some r → W p l e { frames := 3, cells := 0, slots := 0, locals := 180 } s m args below meth c H locs 0 0 Q (F0 m 11 ls [])) (hK : ∀ {H : Heap} {locs : List Loc} {ls : Array Slot}, XD G X0 r s H locs → lv_has ls 2 [(0, .ref l0)] → W p l e { frames := 3, cells := 0, slots := 0, locals := 180 } s m args below meth c H locs 0 0 Q (F0 m 45 ls []))   {X : XW} {H : Heap} {locs : List Loc} {ls : Array Slot} (W0 : XD G X0 X s H locs) (hl : lv_has ls 2 [(0, .ref l0)]) (h : fX10_expression_j36 rec l0 X = some r) : W p l e { frames := 3, cells := 0, slots := 0, locals := 180 } s m args below meth c H locs 0 0 Q (F0 m 36 ls []) := by
  have hx := C0.1
  have hb := C0.2.1
  unfold fX10_expression_j36 at h
  refine lv_iconst (v := 1) hx hb dX10_expression_36 (by decide) ?_
  refine lv_goto (tgt := 41) hx hb dX10_expression_37 (by decide) ?_
  exact tX10_expression_j41 C0 hret hrec hK W0 (lv_sub hl [0] rfl) h
theorem tX10_expression_l11_b {p : Program} {l : Launch} {e : Env} {s : State} {m : MethodId} {args : Array Value} {below : List Frame} {meth : Method} {c : Code} {G : XG} {X0 : XW} (C0 : XC p s m args meth c RX10 cX10_expression 2 G) (hret : meth.sig.returnType = none) {r : XW} {l0 : Nat} {Q : State → Prop} {rec : Int32 → XW → Option (XW)} (hrec : ∀ {y1 : Int32} {X : XW} {H : Heap} {locs : List Loc} {ls : Array Slot}, XD G X0 X s H locs → lv_has ls 2 [(0, .ref l0), (1, .int y1)] → rec y1 X = some r → W p l e { frames := 3, cells := 0, slots := 0, locals := 180 } s m args below meth c H locs 0 0 Q (F0 m 11 ls [])) (hK : ∀ {H : Heap} {locs : List Loc} {ls : Array Slot}, XD G X0 r s H locs → lv_has ls 2 [(0, .ref l0)] → W p l e { frames := 3, cells := 0, slots := 0, locals := 180 } s m args below meth c H locs 0 0 Q (F0 m 45 ls []))  {l1 : Int32} {X : XW} {H : Heap} {locs : List Loc} {ls : Array Slot} (W0 : XD G X0 X s H locs) (hl : lv_has ls 2 [(0, .ref l0), (1, .int l1)]) (h : fX10_expression_l11_b rec l0 l1 X = some r) : W p l e { frames := 3, cells := 0, slots := 0, locals := 180 } s m args below meth c H locs 0 0 Q (F0 m 11 ls []) := by
  have hx := C0.1
  have hb := C0.2.1
  unfold fX10_expression_l11_b at h
  refine lv_iload_n hx hb dX10_expression_11 rfl (lv_at hl 1 rfl) ?_
  refine lv_if_eq (tgt := 45) hx hb dX10_expression_12 (by decide) (fun hcq => ?_) (fun hcq => ?_)
  · have h := it_t hcq h
    cases h
    exact hK W0 (lv_sub hl [0] rfl)
  · have h := it_f hcq h
    refine lv_aload_n hx hb dX10_expression_15 rfl (lv_at hl 0 rfl) ?_
    obtain ⟨v1, h2, h⟩ := ob h
    refine xr_getI C0 W0 cl_X10 8 (by decide) fl_X10_218 rfl h2 dX10_expression_16 ?_
    refine lv_if_ne (tgt := 45) hx hb dX10_expression_19 (by decide) (fun hcq => ?_) (fun hcq => ?_)
    · have h := it_f hcq h
      cases h
      exact hK W0 (lv_sub hl [0] rfl)
    · have h := it_t hcq h
      refine lv_aload_n hx hb dX10_expression_22 rfl (lv_at hl 0 rfl) ?_
      obtain ⟨u3, h4, h⟩ := ob h
      obtain ⟨r5, h6, h⟩ := ob h
      refine xr_V (As := []) (rest := []) C0 W0 (ctX10_part l G h6) (gK_of h4) (rr := (RX10, TX10, 57)) rfl rfl mc_X10_part mv_X10_part ml_X10_265 ⟨by decide, by decide⟩ rfl hl.1 rfl (Nat.le_of_ble_eq_true rfl) ⟨by decide, by decide⟩ dX10_expression_23 (fun H locs W0 => ?_)
      refine W.cs (cells' := 0) (slots' := 0) rfl rfl ?_
      refine W.eq (g2 := F0 m 26 ls [.int r5.1]) rfl ?_
      refine lv_if_ne (tgt := 36) hx hb dX10_expression_26 (by decide) (fun hcq => ?_) (fun hcq => ?_)
      · have h := it_f hcq h
        exact tX10_expression_j36 C0 hret hrec hK W0 (lv_sub hl [0] rfl) h
      · have h := it_t hcq h
        refine lv_aload_n hx hb dX10_expression_29 rfl (lv_at hl 0 rfl) ?_
        obtain ⟨u7, h8, h⟩ := ob h
        obtain ⟨r9, h10, h⟩ := ob h
        refine xr_V (As := []) (rest := []) C0 W0 (ctX10_goesOnBehind l G h10) (gK_of h8) (rr := (RX10, TX10, 57)) rfl rfl mc_X10_goesOnBehind mv_X10_goesOnBehind ml_X10_269 ⟨by decide, by decide⟩ rfl hl.1 rfl (Nat.le_of_ble_eq_true rfl) ⟨by decide, by decide⟩ dX10_expression_30 (fun H locs W0 => ?_)
        refine W.cs (cells' := 0) (slots' := 0) rfl rfl ?_
        refine W.eq (g2 := F0 m 33 ls [.int r9.1]) rfl ?_
        refine lv_if_eq (tgt := 40) hx hb dX10_expression_33 (by decide) (fun hcq => ?_) (fun hcq => ?_)
        · have h := it_t hcq h
          refine lv_iconst (v := 0) hx hb dX10_expression_40 (by decide) ?_
          exact tX10_expression_j41 C0 hret hrec hK W0 (lv_sub hl [0] rfl) h
        · have h := it_f hcq h
          exact tX10_expression_j36 C0 hret hrec hK W0 (lv_sub hl [0] rfl) h
theorem tX10_expression_l11 {p : Program} {l : Launch} {e : Env} {s : State} {m : MethodId} {args : Array Value} {below : List Frame} {meth : Method} {c : Code} {G : XG} {X0 : XW} (C0 : XC p s m args meth c RX10 cX10_expression 2 G) (hret : meth.sig.returnType = none) {r : XW} {l0 : Nat} {Q : State → Prop} (hK : ∀ {H : Heap} {locs : List Loc} {ls : Array Slot}, XD G X0 r s H locs → lv_has ls 2 [(0, .ref l0)] → W p l e { frames := 3, cells := 0, slots := 0, locals := 180 } s m args below meth c H locs 0 0 Q (F0 m 45 ls [])) : ∀ (n : Nat) {y1 : Int32} {X : XW} {H : Heap} {locs : List Loc} {ls : Array Slot}, XD G X0 X s H locs → lv_has ls 2 [(0, .ref l0), (1, .int y1)] → fX10_expression_l11 l0 n y1 X = some r → W p l e { frames := 3, cells := 0, slots := 0, locals := 180 } s m args below meth c H locs 0 0 Q (F0 m 11 ls []) := by
  intro n
  induction n with
  | zero =>
    intro y1 X H locs ls W0 hl h
    cases h
  | succ n ih =>
    intro y1 X H locs ls W0 hl h
    exact tX10_expression_l11_b C0 hret (rec := fX10_expression_l11 l0 n) (fun W0 hl h => ih W0 hl h) hK W0 hl h
theorem ctX10_expression (l : Launch) (G : XG) {l0 : Nat} {X : XW} {r : XW}  (h : fX10_expression l0 X = some r) : XM l G yX10_expression cX10_expression 2 none 3 180 0 0 [.ref l0] X (none, r) := by
  refine xm_of (own := RX10) (by decide) rfl (Nat.le_of_ble_eq_true rfl) ?_
  intro p e s m below meth c ls C0 W0 hret hnm hl
  have hx := C0.1
  have hb := C0.2.1
  have hl : lv_has ls 2 [(0, .ref l0)] := hl
  unfold fX10_expression at h
  refine lv_aload_n hx hb dX10_expression_0 rfl (lv_at hl 0 rfl) ?_
  refine lv_iconst (v := 0) hx hb dX10_expression_1 (by decide) ?_
  obtain ⟨X1, h2, h⟩ := ob h
  refine xr_putI C0 W0 cl_X10 22 (by decide) fl_X10_259 rfl rfl rfl (by decide) h2 dX10_expression_2 (fun H locs W0 => ?_)
  refine lv_aload_n hx hb dX10_expression_5 rfl (lv_at hl 0 rfl) ?_
  obtain ⟨u3, h4, h⟩ := ob h
  obtain ⟨X5, h6, h⟩ := ob h
  refine xr_V (As := []) (rest := []) C0 W0 (ctX10_opens l G h6) (gK_of h4) (rr := (RX10, TX10, 57)) rfl rfl mc_X10_opens mv_X10_opens ml_X10_262 ⟨by decide, by decide⟩ rfl hl.1 rfl (Nat.le_of_ble_eq_true rfl) ⟨by decide, by decide⟩ dX10_expression_6 (fun H locs W0 => ?_)
  refine W.cs (cells' := 0) (slots' := 0) rfl rfl ?_
  refine W.eq (g2 := F0 m 9 ls []) rfl ?_
  refine lv_iconst (v := 1) hx hb dX10_expression_9 (by decide) ?_
  refine lv_istore_n (lv' := [(1, .int 1), (0, .ref l0)]) hx hb dX10_expression_10 rfl hl (by decide) rfl (fun ls hl => ?_)
  obtain ⟨r7, h8, h⟩ := ob h
  refine tX10_expression_l11 C0 hret (fun {H} {locs} {ls} W0 hl => ?_) FU W0 (lv_sub hl [1, 0] rfl) h8
  refine lv_aload_n hx hb dX10_expression_45 rfl (lv_at hl 0 rfl) ?_
  refine lv_iconst (v := 0) hx hb dX10_expression_46 (by decide) ?_
  refine lv_iconst (v := 0) hx hb dX10_expression_47 (by decide) ?_
  obtain ⟨u9, h10, h⟩ := ob h
  obtain ⟨X11, h12, h⟩ := ob h
  refine xr_V (As := [.int 0, .int 0]) (rest := []) C0 W0 (ctX10_emit l G h12) (gK_of h10) (rr := (RX10, TX10, 57)) rfl rfl mc_X10_emit mv_X10_emit ml_X10_272 ⟨by decide, by decide⟩ rfl hl.1 rfl (Nat.le_of_ble_eq_true rfl) ⟨by decide, by decide⟩ dX10_expression_48 (fun H locs W0 => ?_)
  refine W.cs (cells' := 0) (slots' := 0) rfl rfl ?_
  refine W.eq (g2 := F0 m 51 ls []) rfl ?_
  exact xr_vret C0 W0 hret (Option.some.inj h).symm dX10_expression_51
def fX10_line_j91  (l0 : Nat) (X : XW) : Option (XW) :=
  gK X l0 10 >>= fun u1 =>
  fX10_wrong l0 1 X >>= fun X3 =>
  some X3
def fX10_line_j157  (l0 : Nat) (X : XW) : Option (XW) :=
  gK X l0 10 >>= fun u1 =>
  fX10_takeSign l0 59 X >>= fun X3 =>
  gR X3 l0 10 14 >>= fun q5 =>
  aI X3 q5 1 4 >>= fun v7 =>
  uI X3 q5 4 (v7 + 1) >>= fun X9 =>
  some X9
def fX10_line_j42  (l0 : Nat) (l1 : Int32) (X : XW) : Option (XW) :=
  gI X l0 10 8 >>= fun v1 =>
  if (v1 ≤ 0 : Prop) then (gI X l0 10 7 >>= fun v3 =>
    pI X l0 10 7 (v3 + 1) >>= fun X5 =>
    gR X5 l0 10 14 >>= fun q7 =>
    aI X5 q7 1 4 >>= fun v9 =>
    gR X5 l0 10 15 >>= fun q11 =>
    uZ X5 q11 (96 + v9) l1 >>= fun X13 =>
    gK X13 l0 10 >>= fun u15 =>
    fX10_partWord l0 X13 >>= fun r17 =>
    if (r17.1 < 0 : Prop) then (fX10_line_j91 l0 r17.2)
    else (if (r17.1 ≤ 2 : Prop) then (gR r17.2 l0 10 16 >>= fun q19 =>
        uI r17.2 q19 (96 + v9) r17.1 >>= fun X21 =>
        gI X21 l0 10 7 >>= fun v23 =>
        pI X21 l0 10 7 (v23 + 1) >>= fun X25 =>
        gR X25 l0 10 17 >>= fun q27 =>
        gI X25 l0 10 21 >>= fun v29 =>
        uI X25 q27 (96 + v9) v29 >>= fun X31 =>
        gK X31 l0 10 >>= fun u33 =>
        fX10_expression l0 X31 >>= fun X35 =>
        gR X35 l0 10 18 >>= fun q37 =>
        uI X35 q37 (96 + v9) (-1) >>= fun X39 =>
        gK X39 l0 10 >>= fun u41 =>
        fX10_hasWord l0 2 X39 >>= fun r43 =>
        if (r43.1 = 0 : Prop) then (fX10_line_j157 l0 r43.2)
        else (gR r43.2 l0 10 18 >>= fun q45 =>
          gI r43.2 l0 10 21 >>= fun v47 =>
          uI r43.2 q45 (96 + v9) v47 >>= fun X49 =>
          gK X49 l0 10 >>= fun u51 =>
          fX10_expression l0 X49 >>= fun X53 =>
          fX10_line_j157 l0 X53))
      else (fX10_line_j91 l0 r17.2)))
  else (some X)
def fX10_line_j26  (l0 : Nat) (l1 : Int32) (X : XW) : Option (XW) :=
  gR X l0 10 14 >>= fun q1 =>
  aI X q1 1 4 >>= fun v3 =>
  if (v3 = 24 : Prop) then (gK X l0 10 >>= fun u5 =>
    fX10_wrong l0 5 X >>= fun X7 =>
    fX10_line_j42 l0 l1 X7)
  else (fX10_line_j42 l0 l1 X)
def fX10_line (l0 : Nat) (X : XW) : Option (XW) :=
  gK X l0 10 >>= fun u1 =>
  fX10_isWord l0 1 X >>= fun r3 =>
  if (r3.1 = 0 : Prop) then (gK r3.2 l0 10 >>= fun u5 =>
    fX10_isWord l0 0 r3.2 >>= fun r7 =>
    if (r7.1 = 0 : Prop) then (gK r7.2 l0 10 >>= fun u9 =>
      fX10_wrong l0 1 r7.2 >>= fun X11 =>
      fX10_line_j42 l0 r3.1 X11)
    else (fX10_line_j26 l0 r3.1 r7.2))
  else (fX10_line_j26 l0 r3.1 r3.2)
theorem tX10_line_j91 {p : Program} {l : Launch} {e : Env} {s : State} {m : MethodId} {args : Array Value} {below : List Frame} {meth : Method} {c : Code} {G : XG} {X0 : XW} (C0 : XC p s m args meth c RX10 cX10_line 4 G) (hret : meth.sig.returnType = none) {r : XW} {l0 : Nat} {X : XW} {H : Heap} {locs : List Loc} {ls : Array Slot} (W0 : XD G X0 X s H locs) (hl : lv_has ls 4 [(0, .ref l0)]) (h : fX10_line_j91 l0 X = some r) : W p l e { frames := 4, cells := 0, slots := 0, locals := 240 } s m args below meth c H locs 0 0 (MQ below (XQ G X0 (none, r)) args s 0 0 (xAd X0)) (F0 m 91 ls []) := by
  have hx := C0.1
  have hb := C0.2.1
  unfold fX10_line_j91 at h
  refine lv_aload_n hx hb dX10_line_91 rfl (lv_at hl 0 rfl) ?_
  refine lv_iconst (v := 1) hx hb dX10_line_92 (by decide) ?_
  obtain ⟨u1, h2, h⟩ := ob h
  obtain ⟨X3, h4, h⟩ := ob h
  refine xr_V (As := [.int 1]) (rest := []) C0 W0 (ctX10_wrong l G h4) (gK_of h2) (rr := (RX10, TX10, 57)) rfl rfl mc_X10_wrong mv_X10_wrong ml_X10_224 ⟨by decide, by decide⟩ rfl hl.1 rfl (Nat.le_of_ble_eq_true rfl) ⟨by decide, by decide⟩ dX10_line_93 (fun H locs W0 => ?_)
  refine W.cs (cells' := 0) (slots' := 0) rfl rfl ?_
  refine W.eq (g2 := F0 m 96 ls []) rfl ?_
  exact xr_vret C0 W0 hret (Option.some.inj h).symm dX10_line_96
theorem tX10_line_j157 {p : Program} {l : Launch} {e : Env} {s : State} {m : MethodId} {args : Array Value} {below : List Frame} {meth : Method} {c : Code} {G : XG} {X0 : XW} (C0 : XC p s m args meth c RX10 cX10_line 4 G) (hret : meth.sig.returnType = none) {r : XW} {l0 : Nat} {X : XW} {H : Heap} {locs : List Loc} {ls : Array Slot} (W0 : XD G X0 X s H locs) (hl : lv_has ls 4 [(0, .ref l0)]) (h : fX10_line_j157 l0 X = some r) : W p l e { frames := 4, cells := 0, slots := 0, locals := 240 } s m args below meth c H locs 0 0 (MQ below (XQ G X0 (none, r)) args s 0 0 (xAd X0)) (F0 m 157 ls []) := by
  have hx := C0.1
  have hb := C0.2.1
  unfold fX10_line_j157 at h
  refine lv_aload_n hx hb dX10_line_157 rfl (lv_at hl 0 rfl) ?_
  refine lv_bipush (v := 59) hx hb dX10_line_158 (by decide) ?_
  obtain ⟨u1, h2, h⟩ := ob h
  obtain ⟨X3, h4, h⟩ := ob h
  refine xr_V (As := [.int 59]) (rest := []) C0 W0 (ctX10_takeSign l G h4) (gK_of h2) (rr := (RX10, TX10, 57)) rfl rfl mc_X10_takeSign mv_X10_takeSign ml_X10_256 ⟨by decide, by decide⟩ rfl hl.1 rfl (Nat.le_of_ble_eq_true rfl) ⟨by decide, by decide⟩ dX10_line_160 (fun H locs W0 => ?_)
  refine W.cs (cells' := 0) (slots' := 0) rfl rfl ?_
  refine W.eq (g2 := F0 m 163 ls []) rfl ?_
  refine lv_aload_n hx hb dX10_line_163 rfl (lv_at hl 0 rfl) ?_
  obtain ⟨q5, h6, h⟩ := ob h
  refine xr_getR C0 W0 cl_X10 14 (by decide) fl_X10_80 rfl h6 dX10_line_164 ?_
  refine lv_iconst (v := 4) hx hb dX10_line_167 (by decide) ?_
  refine lv_dup2_11 hx hb dX10_line_168 rfl rfl ?_
  obtain ⟨v7, h8, h⟩ := ob h
  refine xr_iald C0 W0 h8 dX10_line_169 ?_
  refine lv_iconst (v := 1) hx hb dX10_line_170 (by decide) ?_
  refine lv_iadd hx hb dX10_line_171 ?_
  obtain ⟨X9, h10, h⟩ := ob h
  refine xr_iast C0 W0 h10 dX10_line_172 (fun H locs W0 => ?_)
  exact xr_vret C0 W0 hret (Option.some.inj h).symm dX10_line_173
theorem tX10_line_j42 {p : Program} {l : Launch} {e : Env} {s : State} {m : MethodId} {args : Array Value} {below : List Frame} {meth : Method} {c : Code} {G : XG} {X0 : XW} (C0 : XC p s m args meth c RX10 cX10_line 4 G) (hret : meth.sig.returnType = none) {r : XW} {l0 : Nat} {l1 : Int32} {X : XW} {H : Heap} {locs : List Loc} {ls : Array Slot} (W0 : XD G X0 X s H locs) (hl : lv_has ls 4 [(0, .ref l0), (1, .int l1)]) (h : fX10_line_j42 l0 l1 X = some r) : W p l e { frames := 4, cells := 0, slots := 0, locals := 240 } s m args below meth c H locs 0 0 (MQ below (XQ G X0 (none, r)) args s 0 0 (xAd X0)) (F0 m 42 ls []) := by
  have hx := C0.1
  have hb := C0.2.1
  unfold fX10_line_j42 at h
  refine lv_aload_n hx hb dX10_line_42 rfl (lv_at hl 0 rfl) ?_
  obtain ⟨v1, h2, h⟩ := ob h
  refine xr_getI C0 W0 cl_X10 8 (by decide) fl_X10_218 rfl h2 dX10_line_43 ?_
  refine lv_if_le (tgt := 50) hx hb dX10_line_46 (by decide) (fun hcq => ?_) (fun hcq => ?_)
  · have h := it_t hcq h
    refine lv_aload_n hx hb dX10_line_50 rfl (lv_at hl 0 rfl) ?_
    refine lv_dup hx hb dX10_line_51 rfl ?_
    obtain ⟨v3, h4, h⟩ := ob h
    refine xr_getI C0 W0 cl_X10 7 (by decide) fl_X10_215 rfl h4 dX10_line_52 ?_
    refine lv_iconst (v := 1) hx hb dX10_line_55 (by decide) ?_
    refine lv_iadd hx hb dX10_line_56 ?_
    obtain ⟨X5, h6, h⟩ := ob h
    refine xr_putI C0 W0 cl_X10 7 (by decide) fl_X10_215 rfl rfl rfl (by decide) h6 dX10_line_57 (fun H locs W0 => ?_)
    refine lv_bipush (v := 96) hx hb dX10_line_60 (by decide) ?_
    refine lv_aload_n hx hb dX10_line_62 rfl (lv_at hl 0 rfl) ?_
    obtain ⟨q7, h8, h⟩ := ob h
    refine xr_getR C0 W0 cl_X10 14 (by decide) fl_X10_80 rfl h8 dX10_line_63 ?_
    refine lv_iconst (v := 4) hx hb dX10_line_66 (by decide) ?_
    obtain ⟨v9, h10, h⟩ := ob h
    refine xr_iald C0 W0 h10 dX10_line_67 ?_
    refine lv_iadd hx hb dX10_line_68 ?_
    refine lv_istore_n (lv' := [(2, .int (96 + v9)), (0, .ref l0), (1, .int l1)]) hx hb dX10_line_69 rfl hl (by decide) rfl (fun ls hl => ?_)
    refine lv_aload_n hx hb dX10_line_70 rfl (lv_at hl 1 rfl) ?_
    obtain ⟨q11, h12, h⟩ := ob h
    refine xr_getR C0 W0 cl_X10 15 (by decide) fl_X10_83 rfl h12 dX10_line_71 ?_
    refine lv_iload_n hx hb dX10_line_74 rfl (lv_at hl 0 rfl) ?_
    refine lv_iload_n hx hb dX10_line_75 rfl (lv_at hl 2 rfl) ?_
    obtain ⟨X13, h14, h⟩ := ob h
    refine xr_zast C0 W0 h14 dX10_line_76 (fun H locs W0 => ?_)
    refine lv_aload_n hx hb dX10_line_77 rfl (lv_at hl 1 rfl) ?_
    obtain ⟨u15, h16, h⟩ := ob h
    obtain ⟨r17, h18, h⟩ := ob h
    refine xr_V (As := []) (rest := []) C0 W0 (ctX10_partWord l G h18) (gK_of h16) (rr := (RX10, TX10, 57)) rfl rfl mc_X10_partWord mv_X10_partWord ml_X10_249 ⟨by decide, by decide⟩ rfl hl.1 rfl (Nat.le_of_ble_eq_true rfl) ⟨by decide, by decide⟩ dX10_line_78 (fun H locs W0 => ?_)
    refine W.cs (cells' := 0) (slots' := 0) rfl rfl ?_
    refine W.eq (g2 := F0 m 81 ls [.int r17.1]) rfl ?_
    refine lv_istore_n (lv' := [(3, .int r17.1), (2, .int (96 + v9)), (0, .ref l0), (1, .int l1)]) hx hb dX10_line_81 rfl hl (by decide) rfl (fun ls hl => ?_)
    refine lv_iload_n hx hb dX10_line_82 rfl (lv_at hl 0 rfl) ?_
    refine lv_if_lt (tgt := 91) hx hb dX10_line_83 (by decide) (fun hcq => ?_) (fun hcq => ?_)
    · have h := it_t hcq h
      exact tX10_line_j91 C0 hret W0 (lv_sub hl [2] rfl) h
    · have h := it_f hcq h
      refine lv_iload_n hx hb dX10_line_86 rfl (lv_at hl 0 rfl) ?_
      refine lv_iconst (v := 2) hx hb dX10_line_87 (by decide) ?_
      refine lv_icmp_le (tgt := 97) hx hb dX10_line_88 (by decide) (fun hcq => ?_) (fun hcq => ?_)
      · have h := it_t hcq h
        refine lv_aload_n hx hb dX10_line_97 rfl (lv_at hl 2 rfl) ?_
        obtain ⟨q19, h20, h⟩ := ob h
        refine xr_getR C0 W0 cl_X10 16 (by decide) fl_X10_87 rfl h20 dX10_line_98 ?_
        refine lv_iload_n hx hb dX10_line_101 rfl (lv_at hl 1 rfl) ?_
        refine lv_iload_n hx hb dX10_line_102 rfl (lv_at hl 0 rfl) ?_
        obtain ⟨X21, h22, h⟩ := ob h
        refine xr_iast C0 W0 h22 dX10_line_103 (fun H locs W0 => ?_)
        refine lv_aload_n hx hb dX10_line_104 rfl (lv_at hl 2 rfl) ?_
        refine lv_dup hx hb dX10_line_105 rfl ?_
        obtain ⟨v23, h24, h⟩ := ob h
        refine xr_getI C0 W0 cl_X10 7 (by decide) fl_X10_215 rfl h24 dX10_line_106 ?_
        refine lv_iconst (v := 1) hx hb dX10_line_109 (by decide) ?_
        refine lv_iadd hx hb dX10_line_110 ?_
        obtain ⟨X25, h26, h⟩ := ob h
        refine xr_putI C0 W0 cl_X10 7 (by decide) fl_X10_215 rfl rfl rfl (by decide) h26 dX10_line_111 (fun H locs W0 => ?_)
        refine lv_aload_n hx hb dX10_line_114 rfl (lv_at hl 2 rfl) ?_
        obtain ⟨q27, h28, h⟩ := ob h
        refine xr_getR C0 W0 cl_X10 17 (by decide) fl_X10_90 rfl h28 dX10_line_115 ?_
        refine lv_iload_n hx hb dX10_line_118 rfl (lv_at hl 1 rfl) ?_
        refine lv_aload_n hx hb dX10_line_119 rfl (lv_at hl 2 rfl) ?_
        obtain ⟨v29, h30, h⟩ := ob h
        refine xr_getI C0 W0 cl_X10 21 (by decide) fl_X10_234 rfl h30 dX10_line_120 ?_
        obtain ⟨X31, h32, h⟩ := ob h
        refine xr_iast C0 W0 h32 dX10_line_123 (fun H locs W0 => ?_)
        refine lv_aload_n hx hb dX10_line_124 rfl (lv_at hl 2 rfl) ?_
        obtain ⟨u33, h34, h⟩ := ob h
        obtain ⟨X35, h36, h⟩ := ob h
        refine xr_V (As := []) (rest := []) C0 W0 (ctX10_expression l G h36) (gK_of h34) (rr := (RX10, TX10, 57)) rfl rfl mc_X10_expression mv_X10_expression ml_X10_253 ⟨by decide, by decide⟩ rfl hl.1 rfl (Nat.le_of_ble_eq_true rfl) ⟨by decide, by decide⟩ dX10_line_125 (fun H locs W0 => ?_)
        refine W.cs (cells' := 0) (slots' := 0) rfl rfl ?_
        refine W.eq (g2 := F0 m 128 ls []) rfl ?_
        refine lv_aload_n hx hb dX10_line_128 rfl (lv_at hl 2 rfl) ?_
        obtain ⟨q37, h38, h⟩ := ob h
        refine xr_getR C0 W0 cl_X10 18 (by decide) fl_X10_93 rfl h38 dX10_line_129 ?_
        refine lv_iload_n hx hb dX10_line_132 rfl (lv_at hl 1 rfl) ?_
        refine lv_iconst (v := (-1)) hx hb dX10_line_133 (by decide) ?_
        obtain ⟨X39, h40, h⟩ := ob h
        refine xr_iast C0 W0 h40 dX10_line_134 (fun H locs W0 => ?_)
        refine lv_aload_n hx hb dX10_line_135 rfl (lv_at hl 2 rfl) ?_
        refine lv_iconst (v := 2) hx hb dX10_line_136 (by decide) ?_
        obtain ⟨u41, h42, h⟩ := ob h
        obtain ⟨r43, h44, h⟩ := ob h
        refine xr_V (As := [.int 2]) (rest := []) C0 W0 (ctX10_hasWord l G h44) (gK_of h42) (rr := (RX10, TX10, 57)) rfl rfl mc_X10_hasWord mv_X10_hasWord ml_X10_231 ⟨by decide, by decide⟩ rfl hl.1 rfl (Nat.le_of_ble_eq_true rfl) ⟨by decide, by decide⟩ dX10_line_137 (fun H locs W0 => ?_)
        refine W.cs (cells' := 0) (slots' := 0) rfl rfl ?_
        refine W.eq (g2 := F0 m 140 ls [.int r43.1]) rfl ?_
        refine lv_if_eq (tgt := 157) hx hb dX10_line_140 (by decide) (fun hcq => ?_) (fun hcq => ?_)
        · have h := it_t hcq h
          exact tX10_line_j157 C0 hret W0 (lv_sub hl [2] rfl) h
        · have h := it_f hcq h
          refine lv_aload_n hx hb dX10_line_143 rfl (lv_at hl 2 rfl) ?_
          obtain ⟨q45, h46, h⟩ := ob h
          refine xr_getR C0 W0 cl_X10 18 (by decide) fl_X10_93 rfl h46 dX10_line_144 ?_
          refine lv_iload_n hx hb dX10_line_147 rfl (lv_at hl 1 rfl) ?_
          refine lv_aload_n hx hb dX10_line_148 rfl (lv_at hl 2 rfl) ?_
          obtain ⟨v47, h48, h⟩ := ob h
          refine xr_getI C0 W0 cl_X10 21 (by decide) fl_X10_234 rfl h48 dX10_line_149 ?_
          obtain ⟨X49, h50, h⟩ := ob h
          refine xr_iast C0 W0 h50 dX10_line_152 (fun H locs W0 => ?_)
          refine lv_aload_n hx hb dX10_line_153 rfl (lv_at hl 2 rfl) ?_
          obtain ⟨u51, h52, h⟩ := ob h
          obtain ⟨X53, h54, h⟩ := ob h
          refine xr_V (As := []) (rest := []) C0 W0 (ctX10_expression l G h54) (gK_of h52) (rr := (RX10, TX10, 57)) rfl rfl mc_X10_expression mv_X10_expression ml_X10_253 ⟨by decide, by decide⟩ rfl hl.1 rfl (Nat.le_of_ble_eq_true rfl) ⟨by decide, by decide⟩ dX10_line_154 (fun H locs W0 => ?_)
          refine W.cs (cells' := 0) (slots' := 0) rfl rfl ?_
          refine W.eq (g2 := F0 m 157 ls []) rfl ?_
          exact tX10_line_j157 C0 hret W0 (lv_sub hl [2] rfl) h
      · have h := it_f hcq h
        exact tX10_line_j91 C0 hret W0 (lv_sub hl [2] rfl) h
  · have h := it_f hcq h
    exact xr_vret C0 W0 hret (Option.some.inj h).symm dX10_line_49
theorem tX10_line_j26 {p : Program} {l : Launch} {e : Env} {s : State} {m : MethodId} {args : Array Value} {below : List Frame} {meth : Method} {c : Code} {G : XG} {X0 : XW} (C0 : XC p s m args meth c RX10 cX10_line 4 G) (hret : meth.sig.returnType = none) {r : XW} {l0 : Nat} {l1 : Int32} {X : XW} {H : Heap} {locs : List Loc} {ls : Array Slot} (W0 : XD G X0 X s H locs) (hl : lv_has ls 4 [(0, .ref l0), (1, .int l1)]) (h : fX10_line_j26 l0 l1 X = some r) : W p l e { frames := 4, cells := 0, slots := 0, locals := 240 } s m args below meth c H locs 0 0 (MQ below (XQ G X0 (none, r)) args s 0 0 (xAd X0)) (F0 m 26 ls []) := by
  have hx := C0.1
  have hb := C0.2.1
  unfold fX10_line_j26 at h
  refine lv_aload_n hx hb dX10_line_26 rfl (lv_at hl 0 rfl) ?_
  obtain ⟨q1, h2, h⟩ := ob h
  refine xr_getR C0 W0 cl_X10 14 (by decide) fl_X10_80 rfl h2 dX10_line_27 ?_
  refine lv_iconst (v := 4) hx hb dX10_line_30 (by decide) ?_
  obtain ⟨v3, h4, h⟩ := ob h
  refine xr_iald C0 W0 h4 dX10_line_31 ?_
  refine lv_bipush (v := 24) hx hb dX10_line_32 (by decide) ?_
  refine lv_icmp_ne (tgt := 42) hx hb dX10_line_34 (by decide) (fun hcq => ?_) (fun hcq => ?_)
  · have h := it_f hcq h
    exact tX10_line_j42 C0 hret W0 (lv_sub hl [0, 1] rfl) h
  · have h := it_t hcq h
    refine lv_aload_n hx hb dX10_line_37 rfl (lv_at hl 0 rfl) ?_
    refine lv_iconst (v := 5) hx hb dX10_line_38 (by decide) ?_
    obtain ⟨u5, h6, h⟩ := ob h
    obtain ⟨X7, h8, h⟩ := ob h
    refine xr_V (As := [.int 5]) (rest := []) C0 W0 (ctX10_wrong l G h8) (gK_of h6) (rr := (RX10, TX10, 57)) rfl rfl mc_X10_wrong mv_X10_wrong ml_X10_224 ⟨by decide, by decide⟩ rfl hl.1 rfl (Nat.le_of_ble_eq_true rfl) ⟨by decide, by decide⟩ dX10_line_39 (fun H locs W0 => ?_)
    refine W.cs (cells' := 0) (slots' := 0) rfl rfl ?_
    refine W.eq (g2 := F0 m 42 ls []) rfl ?_
    exact tX10_line_j42 C0 hret W0 (lv_sub hl [0, 1] rfl) h
theorem ctX10_line (l : Launch) (G : XG) {l0 : Nat} {X : XW} {r : XW}  (h : fX10_line l0 X = some r) : XM l G yX10_line cX10_line 4 none 4 240 0 0 [.ref l0] X (none, r) := by
  refine xm_of (own := RX10) (by decide) rfl (Nat.le_of_ble_eq_true rfl) ?_
  intro p e s m below meth c ls C0 W0 hret hnm hl
  have hx := C0.1
  have hb := C0.2.1
  have hl : lv_has ls 4 [(0, .ref l0)] := hl
  unfold fX10_line at h
  refine lv_aload_n hx hb dX10_line_0 rfl (lv_at hl 0 rfl) ?_
  refine lv_iconst (v := 1) hx hb dX10_line_1 (by decide) ?_
  obtain ⟨u1, h2, h⟩ := ob h
  obtain ⟨r3, h4, h⟩ := ob h
  refine xr_V (As := [.int 1]) (rest := []) C0 W0 (ctX10_isWord l G h4) (gK_of h2) (rr := (RX10, TX10, 57)) rfl rfl mc_X10_isWord mv_X10_isWord ml_X10_228 ⟨by decide, by decide⟩ rfl hl.1 rfl (Nat.le_of_ble_eq_true rfl) ⟨by decide, by decide⟩ dX10_line_2 (fun H locs W0 => ?_)
  refine W.cs (cells' := 0) (slots' := 0) rfl rfl ?_
  refine W.eq (g2 := F0 m 5 ls [.int r3.1]) rfl ?_
  refine lv_istore_n (lv' := [(1, .int r3.1), (0, .ref l0)]) hx hb dX10_line_5 rfl hl (by decide) rfl (fun ls hl => ?_)
  refine lv_iload_n hx hb dX10_line_6 rfl (lv_at hl 0 rfl) ?_
  refine lv_if_ne (tgt := 26) hx hb dX10_line_7 (by decide) (fun hcq => ?_) (fun hcq => ?_)
  · have h := it_f hcq h
    exact tX10_line_j26 C0 hret W0 (lv_sub hl [1, 0] rfl) h
  · have h := it_t hcq h
    refine lv_aload_n hx hb dX10_line_10 rfl (lv_at hl 1 rfl) ?_
    refine lv_iconst (v := 0) hx hb dX10_line_11 (by decide) ?_
    obtain ⟨u5, h6, h⟩ := ob h
    obtain ⟨r7, h8, h⟩ := ob h
    refine xr_V (As := [.int 0]) (rest := []) C0 W0 (ctX10_isWord l G h8) (gK_of h6) (rr := (RX10, TX10, 57)) rfl rfl mc_X10_isWord mv_X10_isWord ml_X10_228 ⟨by decide, by decide⟩ rfl hl.1 rfl (Nat.le_of_ble_eq_true rfl) ⟨by decide, by decide⟩ dX10_line_12 (fun H locs W0 => ?_)
    refine W.cs (cells' := 0) (slots' := 0) rfl rfl ?_
    refine W.eq (g2 := F0 m 15 ls [.int r7.1]) rfl ?_
    refine lv_if_ne (tgt := 26) hx hb dX10_line_15 (by decide) (fun hcq => ?_) (fun hcq => ?_)
    · have h := it_f hcq h
      exact tX10_line_j26 C0 hret W0 (lv_sub hl [1, 0] rfl) h
    · have h := it_t hcq h
      refine lv_aload_n hx hb dX10_line_18 rfl (lv_at hl 1 rfl) ?_
      refine lv_iconst (v := 1) hx hb dX10_line_19 (by decide) ?_
      obtain ⟨u9, h10, h⟩ := ob h
      obtain ⟨X11, h12, h⟩ := ob h
      refine xr_V (As := [.int 1]) (rest := []) C0 W0 (ctX10_wrong l G h12) (gK_of h10) (rr := (RX10, TX10, 57)) rfl rfl mc_X10_wrong mv_X10_wrong ml_X10_224 ⟨by decide, by decide⟩ rfl hl.1 rfl (Nat.le_of_ble_eq_true rfl) ⟨by decide, by decide⟩ dX10_line_20 (fun H locs W0 => ?_)
      refine W.cs (cells' := 0) (slots' := 0) rfl rfl ?_
      refine W.eq (g2 := F0 m 23 ls []) rfl ?_
      refine lv_goto (tgt := 42) hx hb dX10_line_23 (by decide) ?_
      exact tX10_line_j42 C0 hret W0 (lv_sub hl [1, 0] rfl) h
