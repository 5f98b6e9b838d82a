def fX9_isWord (l0 : Int32) (l1 : Int32) (l2 : Int32) (X : XW) : Option (Int32 × XW) :=
  fX9_isWithin l0 1 5 X >>= fun r1 =>
  if (r1.1 = 0 : Prop) then (some (0, r1.2))
  else (if (l1 < 0 : Prop) then (some (0, r1.2))
    else (if (l0 ≤ l1 : Prop) then (some (0, r1.2))
      else (fX9_isWithin l2 0 99 r1.2 >>= fun r3 =>
        if (r3.1 = 0 : Prop) then (some (0, r3.2))
        else (some (1, r3.2)))))
theorem ctX9_isWord (l : Launch) (G : XG) {l0 : Int32} {l1 : Int32} {l2 : Int32} {X : XW} {r : Int32 × XW}  (h : fX9_isWord l0 l1 l2 X = some r) : XM l G yX9_isWord cX9_isWord 3 (some .boolean) 1 60 0 0 [.int l0, .int l1, .int l2] X (some (.int r.1), r.2) := by
  refine xm_of (own := RX9) (by decide) rfl (Nat.le_of_ble_eq_true rfl) ?_
  intro p e s m below meth c ls C0 W0 hret hnm hl
  have hx := C0.1
  have hb := C0.2.1
  have hl : lv_has ls 3 [(0, .int l0), (1, .int l1), (2, .int l2)] := hl
  unfold fX9_isWord at h
  refine lv_iload_n hx hb dX9_isWord_0 rfl (lv_at hl 0 rfl) ?_
  refine lv_iconst (v := 1) hx hb dX9_isWord_1 (by decide) ?_
  refine lv_iconst (v := 5) hx hb dX9_isWord_2 (by decide) ?_
  obtain ⟨r1, h2, h⟩ := ob h
  refine xr_S (As := [.int l0, .int 1, .int 5]) (rest := []) C0 W0 (ctX9_isWithin l G h2) mc_X9_isWithin ms_X9_isWithin ml_X9_95 ⟨by decide, by decide⟩ rfl hl.1 rfl (Nat.le_of_ble_eq_true rfl) ⟨by decide, by decide⟩ dX9_isWord_3 (fun H locs W0 => ?_)
  refine W.cs (cells' := 0) (slots' := 0) rfl rfl ?_
  refine W.eq (g2 := F0 m 6 ls [.int r1.1]) rfl ?_
  refine lv_if_eq (tgt := 32) hx hb dX9_isWord_6 (by decide) (fun hcq => ?_) (fun hcq => ?_)
  · have h := it_t hcq h
    refine lv_iconst (v := 0) hx hb dX9_isWord_32 (by decide) ?_
    exact xr_zret C0 W0 hret (by decide) (Option.some.inj h) dX9_isWord_33
  · have h := it_f hcq h
    refine lv_iload_n hx hb dX9_isWord_9 rfl (lv_at hl 1 rfl) ?_
    refine lv_if_lt (tgt := 32) hx hb dX9_isWord_10 (by decide) (fun hcq => ?_) (fun hcq => ?_)
    · have h := it_t hcq h
      refine lv_iconst (v := 0) hx hb dX9_isWord_32 (by decide) ?_
      exact xr_zret C0 W0 hret (by decide) (Option.some.inj h) dX9_isWord_33
    · have h := it_f hcq h
      refine lv_iload_n hx hb dX9_isWord_13 rfl (lv_at hl 1 rfl) ?_
      refine lv_iload_n hx hb dX9_isWord_14 rfl (lv_at hl 0 rfl) ?_
      refine lv_icmp_ge (tgt := 32) hx hb dX9_isWord_15 (by decide) (fun hcq => ?_) (fun hcq => ?_)
      · have h := it_t hcq h
        refine lv_iconst (v := 0) hx hb dX9_isWord_32 (by decide) ?_
        exact xr_zret C0 W0 hret (by decide) (Option.some.inj h) dX9_isWord_33
      · have h := it_f hcq h
        refine lv_iload_n hx hb dX9_isWord_18 rfl (lv_at hl 2 rfl) ?_
        refine lv_iconst (v := 0) hx hb dX9_isWord_19 (by decide) ?_
        refine lv_bipush (v := 99) hx hb dX9_isWord_20 (by decide) ?_
        obtain ⟨r3, h4, h⟩ := ob h
        refine xr_S (As := [.int l2, .int 0, .int 99]) (rest := []) C0 W0 (ctX9_isWithin l G h4) mc_X9_isWithin ms_X9_isWithin ml_X9_95 ⟨by decide, by decide⟩ rfl hl.1 rfl (Nat.le_of_ble_eq_true rfl) ⟨by decide, by decide⟩ dX9_isWord_22 (fun H locs W0 => ?_)
        refine W.cs (cells' := 0) (slots' := 0) rfl rfl ?_
        refine W.eq (g2 := F0 m 25 ls [.int r3.1]) rfl ?_
        refine lv_if_eq (tgt := 32) hx hb dX9_isWord_25 (by decide) (fun hcq => ?_) (fun hcq => ?_)
        · have h := it_t hcq h
          refine lv_iconst (v := 0) hx hb dX9_isWord_32 (by decide) ?_
          exact xr_zret C0 W0 hret (by decide) (Option.some.inj h) dX9_isWord_33
        · have h := it_f hcq h
          refine lv_iconst (v := 1) hx hb dX9_isWord_28 (by decide) ?_
          refine lv_goto (tgt := 33) hx hb dX9_isWord_29 (by decide) ?_
          exact xr_zret C0 W0 hret (by decide) (Option.some.inj h) dX9_isWord_33
def fX9_forgetShapes (l0 : Nat) (X : XW) : Option (XW) :=
  gR X l0 9 10 >>= fun q1 =>
  pI X q1 6 2 (-1) >>= fun X3 =>
  gR X3 l0 9 11 >>= fun q5 =>
  pI X3 q5 6 2 (-1) >>= fun X7 =>
  some X7
theorem ctX9_forgetShapes (l : Launch) (G : XG) {l0 : Nat} {X : XW} {r : XW}  (h : fX9_forgetShapes l0 X = some r) : XM l G yX9_forgetShapes cX9_forgetShapes 1 none 0 0 0 0 [.ref l0] X (none, r) := by
  refine xm_of (own := RX9) (by decide) rfl (Nat.le_of_ble_eq_true rfl) ?_
  intro p e s m below meth c ls C0 W0 hret hnm hl
  have hx := C0.1
  have hb := C0.2.1
  have hl : lv_has ls 1 [(0, .ref l0)] := hl
  unfold fX9_forgetShapes at h
  refine lv_aload_n hx hb dX9_forgetShapes_0 rfl (lv_at hl 0 rfl) ?_
  obtain ⟨q1, h2, h⟩ := ob h
  refine xr_getR C0 W0 cl_X9 10 (by decide) fl_X9_57 rfl h2 dX9_forgetShapes_1 ?_
  refine lv_iconst (v := (-1)) hx hb dX9_forgetShapes_4 (by decide) ?_
  obtain ⟨X3, h4, h⟩ := ob h
  refine xr_putI C0 W0 cl_X6 2 (by decide) fl_X9_220 rfl rfl rfl (by decide) h4 dX9_forgetShapes_5 (fun H locs W0 => ?_)
  refine lv_aload_n hx hb dX9_forgetShapes_8 rfl (lv_at hl 0 rfl) ?_
  obtain ⟨q5, h6, h⟩ := ob h
  refine xr_getR C0 W0 cl_X9 11 (by decide) fl_X9_61 rfl h6 dX9_forgetShapes_9 ?_
  refine lv_iconst (v := (-1)) hx hb dX9_forgetShapes_12 (by decide) ?_
  obtain ⟨X7, h8, h⟩ := ob h
  refine xr_putI C0 W0 cl_X6 2 (by decide) fl_X9_220 rfl rfl rfl (by decide) h8 dX9_forgetShapes_13 (fun H locs W0 => ?_)
  exact xr_vret C0 W0 hret (Option.some.inj h).symm dX9_forgetShapes_16
def fX9_word (l0 : Nat) (l1 : Int32) (l2 : Int32) (l3 : Int32) (l4 : Int32) (l5 : Int32) (X : XW) : Option (Int32 × XW) :=
  gR X l0 9 0 >>= fun q1 =>
  gI X l0 9 2 >>= fun v3 =>
  aQ X q1 5 v3 >>= fun q5 =>
  gI X q5 4 6 >>= fun v7 =>
  if (16 ≤ v7 : Prop) then (some ((-1), X))
  else (fX9_isWord l1 l2 l3 X >>= fun r9 =>
    if (r9.1 = 0 : Prop) then (some ((-1), r9.2))
    else (gI r9.2 q5 4 6 >>= fun v11 =>
      pI r9.2 q5 4 6 (v11 + 1) >>= fun X13 =>
      gI X13 q5 4 6 >>= fun v15 =>
      gK X13 q5 4 >>= fun u17 =>
      fX4_putWord q5 (v15 - 1) l1 l2 l3 l4 l5 X13 >>= fun X19 =>
      gK X19 l0 9 >>= fun u21 =>
      fX9_forgetShapes l0 X19 >>= fun X23 =>
      gI X23 q5 4 6 >>= fun v25 =>
      some (v25, X23)))
theorem ctX9_word (l : Launch) (G : XG) {l0 : Nat} {l1 : Int32} {l2 : Int32} {l3 : Int32} {l4 : Int32} {l5 : Int32} {X : XW} {r : Int32 × XW}  (h : fX9_word l0 l1 l2 l3 l4 l5 X = some r) : XM l G yX9_word cX9_word 7 (some .int) 2 120 0 0 [.ref l0, .int l1, .int l2, .int l3, .int l4, .int l5] X (some (.int r.1), r.2) := by
  refine xm_of (own := RX9) (by decide) rfl (Nat.le_of_ble_eq_true rfl) ?_
  intro p e s m below meth c ls C0 W0 hret hnm hl
  have hx := C0.1
  have hb := C0.2.1
  have hl : lv_has ls 7 [(0, .ref l0), (1, .int l1), (2, .int l2), (3, .int l3), (4, .int l4), (5, .int l5)] := hl
  unfold fX9_word at h
  refine lv_aload_n hx hb dX9_word_0 rfl (lv_at hl 0 rfl) ?_
  obtain ⟨q1, h2, h⟩ := ob h
  refine xr_getR C0 W0 cl_X9 0 (by decide) fl_X9_11 rfl h2 dX9_word_1 ?_
  refine lv_aload_n hx hb dX9_word_4 rfl (lv_at hl 0 rfl) ?_
  obtain ⟨v3, h4, h⟩ := ob h
  refine xr_getI C0 W0 cl_X9 2 (by decide) fl_X9_19 rfl h4 dX9_word_5 ?_
  obtain ⟨q5, h6, h⟩ := ob h
  refine xr_aldq C0 W0 5 (by decide) rfl rfl h6 dX9_word_8 ?_
  refine lv_astore (lv' := [(6, .ref q5), (0, .ref l0), (1, .int l1), (2, .int l2), (3, .int l3), (4, .int l4), (5, .int l5)]) hx hb dX9_word_9 hl (by decide) rfl (fun ls hl => ?_)
  refine lv_aload hx hb dX9_word_11 (lv_at hl 0 rfl) ?_
  obtain ⟨v7, h8, h⟩ := ob h
  refine xr_getI C0 W0 cl_X4 6 (by decide) fl_X9_66 rfl h8 dX9_word_13 ?_
  refine lv_bipush (v := 16) hx hb dX9_word_16 (by decide) ?_
  refine lv_icmp_ge (tgt := 30) hx hb dX9_word_18 (by decide) (fun hcq => ?_) (fun hcq => ?_)
  · have h := it_t hcq h
    refine lv_iconst (v := (-1)) hx hb dX9_word_30 (by decide) ?_
    exact xr_iret C0 W0 hret (Option.some.inj h) dX9_word_31
  · have h := it_f hcq h
    refine lv_iload_n hx hb dX9_word_21 rfl (lv_at hl 2 rfl) ?_
    refine lv_iload_n hx hb dX9_word_22 rfl (lv_at hl 3 rfl) ?_
    refine lv_iload_n hx hb dX9_word_23 rfl (lv_at hl 4 rfl) ?_
    obtain ⟨r9, h10, h⟩ := ob h
    refine xr_S (As := [.int l1, .int l2, .int l3]) (rest := []) C0 W0 (ctX9_isWord l G h10) mc_X9_isWord ms_X9_isWord ml_X9_69 ⟨by decide, by decide⟩ rfl hl.1 rfl (Nat.le_of_ble_eq_true rfl) ⟨by decide, by decide⟩ dX9_word_24 (fun H locs W0 => ?_)
    refine W.cs (cells' := 0) (slots' := 0) rfl rfl ?_
    refine W.eq (g2 := F0 m 27 ls [.int r9.1]) rfl ?_
    refine lv_if_ne (tgt := 32) hx hb dX9_word_27 (by decide) (fun hcq => ?_) (fun hcq => ?_)
    · have h := it_f hcq h
      refine lv_aload hx hb dX9_word_32 (lv_at hl 0 rfl) ?_
      refine lv_dup hx hb dX9_word_34 rfl ?_
      obtain ⟨v11, h12, h⟩ := ob h
      refine xr_getI C0 W0 cl_X4 6 (by decide) fl_X9_66 rfl h12 dX9_word_35 ?_
      refine lv_iconst (v := 1) hx hb dX9_word_38 (by decide) ?_
      refine lv_iadd hx hb dX9_word_39 ?_
      obtain ⟨X13, h14, h⟩ := ob h
      refine xr_putI C0 W0 cl_X4 6 (by decide) fl_X9_66 rfl rfl rfl (by decide) h14 dX9_word_40 (fun H locs W0 => ?_)
      refine lv_aload hx hb dX9_word_43 (lv_at hl 0 rfl) ?_
      refine lv_aload hx hb dX9_word_45 (lv_at hl 0 rfl) ?_
      obtain ⟨v15, h16, h⟩ := ob h
      refine xr_getI C0 W0 cl_X4 6 (by decide) fl_X9_66 rfl h16 dX9_word_47 ?_
      refine lv_iconst (v := 1) hx hb dX9_word_50 (by decide) ?_
      refine lv_isub hx hb dX9_word_51 ?_
      refine lv_iload_n hx hb dX9_word_52 rfl (lv_at hl 2 rfl) ?_
      refine lv_iload_n hx hb dX9_word_53 rfl (lv_at hl 3 rfl) ?_
      refine lv_iload_n hx hb dX9_word_54 rfl (lv_at hl 4 rfl) ?_
      refine lv_iload hx hb dX9_word_55 (lv_at hl 5 rfl) ?_
      refine lv_iload hx hb dX9_word_57 (lv_at hl 6 rfl) ?_
      obtain ⟨u17, h18, h⟩ := ob h
      obtain ⟨X19, h20, h⟩ := ob h
      refine xr_V (As := [.int (v15 - 1), .int l1, .int l2, .int l3, .int l4, .int l5]) (rest := []) C0 W0 (ctX4_putWord l G h20) (gK_of h18) (rr := (RX4, TX4, 9)) rfl rfl mc_X4_putWord mv_X4_putWord ml_X9_73 ⟨by decide, by decide⟩ rfl hl.1 rfl (Nat.le_of_ble_eq_true rfl) ⟨by decide, by decide⟩ dX9_word_59 (fun H locs W0 => ?_)
      refine W.cs (cells' := 0) (slots' := 0) rfl rfl ?_
      refine W.eq (g2 := F0 m 62 ls []) rfl ?_
      refine lv_aload_n hx hb dX9_word_62 rfl (lv_at hl 1 rfl) ?_
      obtain ⟨u21, h22, h⟩ := ob h
      obtain ⟨X23, h24, h⟩ := ob h
      refine xr_V (As := []) (rest := []) C0 W0 (ctX9_forgetShapes l G h24) (gK_of h22) (rr := (RX9, TX9, 12)) rfl rfl mc_X9_forgetShapes mv_X9_forgetShapes ml_X9_77 ⟨by decide, by decide⟩ rfl hl.1 rfl (Nat.le_of_ble_eq_true rfl) ⟨by decide, by decide⟩ dX9_word_63 (fun H locs W0 => ?_)
      refine W.cs (cells' := 0) (slots' := 0) rfl rfl ?_
      refine W.eq (g2 := F0 m 66 ls []) rfl ?_
      refine lv_aload hx hb dX9_word_66 (lv_at hl 0 rfl) ?_
      obtain ⟨v25, h26, h⟩ := ob h
      refine xr_getI C0 W0 cl_X4 6 (by decide) fl_X9_66 rfl h26 dX9_word_68 ?_
      exact xr_iret C0 W0 hret (Option.some.inj h) dX9_word_71
    · have h := it_t hcq h
      refine lv_iconst (v := (-1)) hx hb dX9_word_30 (by decide) ?_
      exact xr_iret C0 W0 hret (Option.some.inj h) dX9_word_31
def fX9_change_j52  (l0 : Nat) (l1 : Int32) (l2 : Int32) (l3 : Int32) (l4 : Int32) (l5 : Int32) (l6 : Int32) (l7 : Nat) (X : XW) : Option (Int32 × XW) :=
  gK X l7 4 >>= fun u1 =>
  fX4_putWord l7 l1 l2 l3 l4 l5 l6 X >>= fun X3 =>
  gK X3 l0 9 >>= fun u5 =>
  fX9_forgetShapes l0 X3 >>= fun X7 =>
  some (1, X7)
def fX9_change (l0 : Nat) (l1 : Int32) (l2 : Int32) (l3 : Int32) (l4 : Int32) (l5 : Int32) (l6 : Int32) (X : XW) : Option (Int32 × XW) :=
  gR X l0 9 0 >>= fun q1 =>
  gI X l0 9 2 >>= fun v3 =>
  aQ X q1 5 v3 >>= fun q5 =>
  if (l1 < 0 : Prop) then (some (0, X))
  else (gI X q5 4 6 >>= fun v7 =>
    if (v7 ≤ l1 : Prop) then (some (0, X))
    else (fX9_isWord l2 l3 l4 X >>= fun r9 =>
      if (r9.1 = 0 : Prop) then (some (0, r9.2))
      else (gR r9.2 q5 4 0 >>= fun q11 =>
        aI r9.2 q11 1 l1 >>= fun v13 =>
        if (v13 = l2 : Prop) then (fX9_change_j52 l0 l1 l2 l3 l4 l5 l6 q5 r9.2)
        else (gK r9.2 q5 4 >>= fun u15 =>
          fX4_clearMarks q5 r9.2 >>= fun X17 =>
          fX9_change_j52 l0 l1 l2 l3 l4 l5 l6 q5 X17))))
theorem tX9_change_j52 {p : Program} {l : Launch} {e : Env} {s : State} {m : MethodId} {args : Array Value} {below : List Frame} {meth : Method} {c : Code} {G : XG} {X0 : XW} (C0 : XC p s m args meth c RX9 cX9_change 8 G) (hret : meth.sig.returnType = (some .boolean)) {r : Int32 × XW} {l0 : Nat} {l1 : Int32} {l2 : Int32} {l3 : Int32} {l4 : Int32} {l5 : Int32} {l6 : Int32} {l7 : Nat} {X : XW} {H : Heap} {locs : List Loc} {ls : Array Slot} (W0 : XD G X0 X s H locs) (hl : lv_has ls 8 [(0, .ref l0), (1, .int l1), (2, .int l2), (3, .int l3), (4, .int l4), (5, .int l5), (6, .int l6), (7, .ref l7)]) (h : fX9_change_j52 l0 l1 l2 l3 l4 l5 l6 l7 X = some r) : W p l e { frames := 2, cells := 0, slots := 0, locals := 120 } s m args below meth c H locs 0 0 (MQ below (XQ G X0 (some (.int r.1), r.2)) args s 0 0 (xAd X0)) (F0 m 52 ls []) := by
  have hx := C0.1
  have hb := C0.2.1
  unfold fX9_change_j52 at h
  refine lv_aload hx hb dX9_change_52 (lv_at hl 7 rfl) ?_
  refine lv_iload_n hx hb dX9_change_54 rfl (lv_at hl 1 rfl) ?_
  refine lv_iload_n hx hb dX9_change_55 rfl (lv_at hl 2 rfl) ?_
  refine lv_iload_n hx hb dX9_change_56 rfl (lv_at hl 3 rfl) ?_
  refine lv_iload hx hb dX9_change_57 (lv_at hl 4 rfl) ?_
  refine lv_iload hx hb dX9_change_59 (lv_at hl 5 rfl) ?_
  refine lv_iload hx hb dX9_change_61 (lv_at hl 6 rfl) ?_
  obtain ⟨u1, h2, h⟩ := ob h
  obtain ⟨X3, h4, h⟩ := ob h
  refine xr_V (As := [.int l1, .int l2, .int l3, .int l4, .int l5, .int l6]) (rest := []) C0 W0 (ctX4_putWord l G h4) (gK_of h2) (rr := (RX4, TX4, 9)) rfl rfl mc_X4_putWord mv_X4_putWord ml_X9_73 ⟨by decide, by decide⟩ rfl hl.1 rfl (Nat.le_of_ble_eq_true rfl) ⟨by decide, by decide⟩ dX9_change_63 (fun H locs W0 => ?_)
  refine W.cs (cells' := 0) (slots' := 0) rfl rfl ?_
  refine W.eq (g2 := F0 m 66 ls []) rfl ?_
  refine lv_aload_n hx hb dX9_change_66 rfl (lv_at hl 0 rfl) ?_
  obtain ⟨u5, h6, h⟩ := ob h
  obtain ⟨X7, h8, h⟩ := ob h
  refine xr_V (As := []) (rest := []) C0 W0 (ctX9_forgetShapes l G h8) (gK_of h6) (rr := (RX9, TX9, 12)) rfl rfl mc_X9_forgetShapes mv_X9_forgetShapes ml_X9_77 ⟨by decide, by decide⟩ rfl hl.1 rfl (Nat.le_of_ble_eq_true rfl) ⟨by decide, by decide⟩ dX9_change_67 (fun H locs W0 => ?_)
  refine W.cs (cells' := 0) (slots' := 0) rfl rfl ?_
  refine W.eq (g2 := F0 m 70 ls []) rfl ?_
  refine lv_iconst (v := 1) hx hb dX9_change_70 (by decide) ?_
  exact xr_zret C0 W0 hret (by decide) (Option.some.inj h) dX9_change_71
theorem ctX9_change (l : Launch) (G : XG) {l0 : Nat} {l1 : Int32} {l2 : Int32} {l3 : Int32} {l4 : Int32} {l5 : Int32} {l6 : Int32} {X : XW} {r : Int32 × XW}  (h : fX9_change l0 l1 l2 l3 l4 l5 l6 X = some r) : XM l G yX9_change cX9_change 8 (some .boolean) 2 120 0 0 [.ref l0, .int l1, .int l2, .int l3, .int l4, .int l5, .int l6] X (some (.int r.1), r.2) := by
  refine xm_of (own := RX9) (by decide) rfl (Nat.le_of_ble_eq_true rfl) ?_
  intro p e s m below meth c ls C0 W0 hret hnm hl
  have hx := C0.1
  have hb := C0.2.1
  have hl : lv_has ls 8 [(0, .ref l0), (1, .int l1), (2, .int l2), (3, .int l3), (4, .int l4), (5, .int l5), (6, .int l6)] := hl
  unfold fX9_change at h
  refine lv_aload_n hx hb dX9_change_0 rfl (lv_at hl 0 rfl) ?_
  obtain ⟨q1, h2, h⟩ := ob h
  refine xr_getR C0 W0 cl_X9 0 (by decide) fl_X9_11 rfl h2 dX9_change_1 ?_
  refine lv_aload_n hx hb dX9_change_4 rfl (lv_at hl 0 rfl) ?_
  obtain ⟨v3, h4, h⟩ := ob h
  refine xr_getI C0 W0 cl_X9 2 (by decide) fl_X9_19 rfl h4 dX9_change_5 ?_
  obtain ⟨q5, h6, h⟩ := ob h
  refine xr_aldq C0 W0 5 (by decide) rfl rfl h6 dX9_change_8 ?_
  refine lv_astore (lv' := [(7, .ref q5), (0, .ref l0), (1, .int l1), (2, .int l2), (3, .int l3), (4, .int l4), (5, .int l5), (6, .int l6)]) hx hb dX9_change_9 hl (by decide) rfl (fun ls hl => ?_)
  refine lv_iload_n hx hb dX9_change_11 rfl (lv_at hl 2 rfl) ?_
  refine lv_if_lt (tgt := 34) hx hb dX9_change_12 (by decide) (fun hcq => ?_) (fun hcq => ?_)
  · have h := it_t hcq h
    refine lv_iconst (v := 0) hx hb dX9_change_34 (by decide) ?_
    exact xr_zret C0 W0 hret (by decide) (Option.some.inj h) dX9_change_35
  · have h := it_f hcq h
    refine lv_iload_n hx hb dX9_change_15 rfl (lv_at hl 2 rfl) ?_
    refine lv_aload hx hb dX9_change_16 (lv_at hl 0 rfl) ?_
    obtain ⟨v7, h8, h⟩ := ob h
    refine xr_getI C0 W0 cl_X4 6 (by decide) fl_X9_66 rfl h8 dX9_change_18 ?_
    refine lv_icmp_ge (tgt := 34) hx hb dX9_change_21 (by decide) (fun hcq => ?_) (fun hcq => ?_)
    · have h := it_t hcq h
      refine lv_iconst (v := 0) hx hb dX9_change_34 (by decide) ?_
      exact xr_zret C0 W0 hret (by decide) (Option.some.inj h) dX9_change_35
    · have h := it_f hcq h
      refine lv_iload_n hx hb dX9_change_24 rfl (lv_at hl 3 rfl) ?_
      refine lv_iload_n hx hb dX9_change_25 rfl (lv_at hl 4 rfl) ?_
      refine lv_iload hx hb dX9_change_26 (lv_at hl 5 rfl) ?_
      obtain ⟨r9, h10, h⟩ := ob h
      refine xr_S (As := [.int l2, .int l3, .int l4]) (rest := []) C0 W0 (ctX9_isWord l G h10) mc_X9_isWord ms_X9_isWord ml_X9_69 ⟨by decide, by decide⟩ rfl hl.1 rfl (Nat.le_of_ble_eq_true rfl) ⟨by decide, by decide⟩ dX9_change_28 (fun H locs W0 => ?_)
      refine W.cs (cells' := 0) (slots' := 0) rfl rfl ?_
      refine W.eq (g2 := F0 m 31 ls [.int r9.1]) rfl ?_
      refine lv_if_ne (tgt := 36) hx hb dX9_change_31 (by decide) (fun hcq => ?_) (fun hcq => ?_)
      · have h := it_f hcq h
        refine lv_aload hx hb dX9_change_36 (lv_at hl 0 rfl) ?_
        obtain ⟨q11, h12, h⟩ := ob h
        refine xr_getR C0 W0 cl_X4 0 (by decide) fl_X9_80 rfl h12 dX9_change_38 ?_
        refine lv_iload_n hx hb dX9_change_41 rfl (lv_at hl 2 rfl) ?_
        obtain ⟨v13, h14, h⟩ := ob h
        refine xr_iald C0 W0 h14 dX9_change_42 ?_
        refine lv_iload_n hx hb dX9_change_43 rfl (lv_at hl 3 rfl) ?_
        refine lv_icmp_eq (tgt := 52) hx hb dX9_change_44 (by decide) (fun hcq => ?_) (fun hcq => ?_)
        · have h := it_t hcq h
          exact tX9_change_j52 C0 hret W0 (lv_sub hl [1, 2, 3, 4, 5, 6, 7, 0] rfl) h
        · have h := it_f hcq h
          refine lv_aload hx hb dX9_change_47 (lv_at hl 0 rfl) ?_
          obtain ⟨u15, h16, h⟩ := ob h
          obtain ⟨X17, h18, h⟩ := ob h
          refine xr_V (As := []) (rest := []) C0 W0 (ctX4_clearMarks l G h18) (gK_of h16) (rr := (RX4, TX4, 9)) rfl rfl mc_X4_clearMarks mv_X4_clearMarks ml_X9_84 ⟨by decide, by decide⟩ rfl hl.1 rfl (Nat.le_of_ble_eq_true rfl) ⟨by decide, by decide⟩ dX9_change_49 (fun H locs W0 => ?_)
          refine W.cs (cells' := 0) (slots' := 0) rfl rfl ?_
          refine W.eq (g2 := F0 m 52 ls []) rfl ?_
          exact tX9_change_j52 C0 hret W0 (lv_sub hl [1, 2, 3, 4, 5, 6, 7, 0] rfl) h
      · have h := it_t hcq h
        refine lv_iconst (v := 0) hx hb dX9_change_34 (by decide) ?_
        exact xr_zret C0 W0 hret (by decide) (Option.some.inj h) dX9_change_35
def fX9_reading (l0 : Nat) (X : XW) : Option (Int32 × XW) :=
  gI X l0 9 1 >>= fun v1 =>
  if (v1 < 4 : Prop) then (gR X l0 9 0 >>= fun q3 =>
    gI X l0 9 1 >>= fun v5 =>
    aQ X q3 5 v5 >>= fun q7 =>
    gR X l0 9 0 >>= fun q9 =>
    gI X l0 9 2 >>= fun v11 =>
    aQ X q9 5 v11 >>= fun q13 =>
    gK X q7 4 >>= fun u15 =>
    fX4_becomeLike q7 q13 X >>= fun X17 =>
    gI X17 l0 9 1 >>= fun v19 =>
    pI X17 l0 9 2 v19 >>= fun X21 =>
    gI X21 l0 9 1 >>= fun v23 =>
    pI X21 l0 9 1 (v23 + 1) >>= fun X25 =>
    gI X25 l0 9 2 >>= fun v27 =>
    some (v27, X25))
  else (some ((-1), X))
theorem ctX9_reading (l : Launch) (G : XG) {l0 : Nat} {X : XW} {r : Int32 × XW}  (h : fX9_reading l0 X = some r) : XM l G yX9_reading cX9_reading 1 (some .int) 2 120 0 0 [.ref l0] X (some (.int r.1), r.2) := by
  refine xm_of (own := RX9) (by decide) rfl (Nat.le_of_ble_eq_true rfl) ?_
  intro p e s m below meth c ls C0 W0 hret hnm hl
  have hx := C0.1
  have hb := C0.2.1
  have hl : lv_has ls 1 [(0, .ref l0)] := hl
  unfold fX9_reading at h
  refine lv_aload_n hx hb dX9_reading_0 rfl (lv_at hl 0 rfl) ?_
  obtain ⟨v1, h2, h⟩ := ob h
  refine xr_getI C0 W0 cl_X9 1 (by decide) fl_X9_15 rfl h2 dX9_reading_1 ?_
  refine lv_iconst (v := 4) hx hb dX9_reading_4 (by decide) ?_
  refine lv_icmp_lt (tgt := 10) hx hb dX9_reading_5 (by decide) (fun hcq => ?_) (fun hcq => ?_)
  · have h := it_t hcq h
    refine lv_aload_n hx hb dX9_reading_10 rfl (lv_at hl 0 rfl) ?_
    obtain ⟨q3, h4, h⟩ := ob h
    refine xr_getR C0 W0 cl_X9 0 (by decide) fl_X9_11 rfl h4 dX9_reading_11 ?_
    refine lv_aload_n hx hb dX9_reading_14 rfl (lv_at hl 0 rfl) ?_
    obtain ⟨v5, h6, h⟩ := ob h
    refine xr_getI C0 W0 cl_X9 1 (by decide) fl_X9_15 rfl h6 dX9_reading_15 ?_
    obtain ⟨q7, h8, h⟩ := ob h
    refine xr_aldq C0 W0 5 (by decide) rfl rfl h8 dX9_reading_18 ?_
    refine lv_aload_n hx hb dX9_reading_19 rfl (lv_at hl 0 rfl) ?_
    obtain ⟨q9, h10, h⟩ := ob h
    refine xr_getR C0 W0 cl_X9 0 (by decide) fl_X9_11 rfl h10 dX9_reading_20 ?_
    refine lv_aload_n hx hb dX9_reading_23 rfl (lv_at hl 0 rfl) ?_
    obtain ⟨v11, h12, h⟩ := ob h
    refine xr_getI C0 W0 cl_X9 2 (by decide) fl_X9_19 rfl h12 dX9_reading_24 ?_
    obtain ⟨q13, h14, h⟩ := ob h
    refine xr_aldq C0 W0 5 (by decide) rfl rfl h14 dX9_reading_27 ?_
    obtain ⟨u15, h16, h⟩ := ob h
    obtain ⟨X17, h18, h⟩ := ob h
    refine xr_V (As := [.ref q13]) (rest := []) C0 W0 (ctX4_becomeLike l G h18) (gK_of h16) (rr := (RX4, TX4, 9)) rfl rfl mc_X4_becomeLike mv_X4_becomeLike ml_X9_87 ⟨by decide, by decide⟩ rfl hl.1 rfl (Nat.le_of_ble_eq_true rfl) ⟨by decide, by decide⟩ dX9_reading_28 (fun H locs W0 => ?_)
    refine W.cs (cells' := 0) (slots' := 0) rfl rfl ?_
    refine W.eq (g2 := F0 m 31 ls []) rfl ?_
    refine lv_aload_n hx hb dX9_reading_31 rfl (lv_at hl 0 rfl) ?_
    refine lv_aload_n hx hb dX9_reading_32 rfl (lv_at hl 0 rfl) ?_
    obtain ⟨v19, h20, h⟩ := ob h
    refine xr_getI C0 W0 cl_X9 1 (by decide) fl_X9_15 rfl h20 dX9_reading_33 ?_
    obtain ⟨X21, h22, h⟩ := ob h
    refine xr_putI C0 W0 cl_X9 2 (by decide) fl_X9_19 rfl rfl rfl (by decide) h22 dX9_reading_36 (fun H locs W0 => ?_)
    refine lv_aload_n hx hb dX9_reading_39 rfl (lv_at hl 0 rfl) ?_
    refine lv_dup hx hb dX9_reading_40 rfl ?_
    obtain ⟨v23, h24, h⟩ := ob h
    refine xr_getI C0 W0 cl_X9 1 (by decide) fl_X9_15 rfl h24 dX9_reading_41 ?_
    refine lv_iconst (v := 1) hx hb dX9_reading_44 (by decide) ?_
    refine lv_iadd hx hb dX9_reading_45 ?_
    obtain ⟨X25, h26, h⟩ := ob h
    refine xr_putI C0 W0 cl_X9 1 (by decide) fl_X9_15 rfl rfl rfl (by decide) h26 dX9_reading_46 (fun H locs W0 => ?_)
    refine lv_aload_n hx hb dX9_reading_49 rfl (lv_at hl 0 rfl) ?_
    obtain ⟨v27, h28, h⟩ := ob h
    refine xr_getI C0 W0 cl_X9 2 (by decide) fl_X9_19 rfl h28 dX9_reading_50 ?_
    exact xr_iret C0 W0 hret (Option.some.inj h) dX9_reading_53
  · have h := it_f hcq h
    refine lv_iconst (v := (-1)) hx hb dX9_reading_8 (by decide) ?_
    exact xr_iret C0 W0 hret (Option.some.inj h) dX9_reading_9
def fX9_isReading (l0 : Nat) (l1 : Int32) (X : XW) : Option (Int32 × XW) :=
  if (l1 < 0 : Prop) then (some (0, X))
  else (gI X l0 9 1 >>= fun v1 =>
    if (v1 ≤ l1 : Prop) then (some (0, X))
    else (some (1, X)))
theorem ctX9_isReading (l : Launch) (G : XG) {l0 : Nat} {l1 : Int32} {X : XW} {r : Int32 × XW}  (h : fX9_isReading l0 l1 X = some r) : XM l G yX9_isReading cX9_isReading 2 (some .boolean) 0 0 0 0 [.ref l0, .int l1] X (some (.int r.1), r.2) := by
  refine xm_of (own := RX9) (by decide) rfl (Nat.le_of_ble_eq_true rfl) ?_
  intro p e s m below meth c ls C0 W0 hret hnm hl
  have hx := C0.1
  have hb := C0.2.1
  have hl : lv_has ls 2 [(0, .ref l0), (1, .int l1)] := hl
  unfold fX9_isReading at h
  refine lv_iload_n hx hb dX9_isReading_0 rfl (lv_at hl 1 rfl) ?_
  refine lv_if_lt (tgt := 16) hx hb dX9_isReading_1 (by decide) (fun hcq => ?_) (fun hcq => ?_)
  · have h := it_t hcq h
    refine lv_iconst (v := 0) hx hb dX9_isReading_16 (by decide) ?_
    exact xr_zret C0 W0 hret (by decide) (Option.some.inj h) dX9_isReading_17
  · have h := it_f hcq h
    refine lv_iload_n hx hb dX9_isReading_4 rfl (lv_at hl 1 rfl) ?_
    refine lv_aload_n hx hb dX9_isReading_5 rfl (lv_at hl 0 rfl) ?_
    obtain ⟨v1, h2, h⟩ := ob h
    refine xr_getI C0 W0 cl_X9 1 (by decide) fl_X9_15 rfl h2 dX9_isReading_6 ?_
    refine lv_icmp_ge (tgt := 16) hx hb dX9_isReading_9 (by decide) (fun hcq => ?_) (fun hcq => ?_)
    · have h := it_t hcq h
      refine lv_iconst (v := 0) hx hb dX9_isReading_16 (by decide) ?_
      exact xr_zret C0 W0 hret (by decide) (Option.some.inj h) dX9_isReading_17
    · have h := it_f hcq h
      refine lv_iconst (v := 1) hx hb dX9_isReading_12 (by decide) ?_
      refine lv_goto (tgt := 17) hx hb dX9_isReading_13 (by decide) ?_
      exact xr_zret C0 W0 hret (by decide) (Option.some.inj h) dX9_isReading_17
def fX9_take (l0 : Nat) (l1 : Int32) (X : XW) : Option (Int32 × XW) :=
  gK X l0 9 >>= fun u1 =>
  fX9_isReading l0 l1 X >>= fun r3 =>
  if (r3.1 = 0 : Prop) then (some (0, r3.2))
  else (pI r3.2 l0 9 2 l1 >>= fun X5 =>
    some (1, X5))
theorem ctX9_take (l : Launch) (G : XG) {l0 : Nat} {l1 : Int32} {X : XW} {r : Int32 × XW}  (h : fX9_take l0 l1 X = some r) : XM l G yX9_take cX9_take 2 (some .boolean) 1 60 0 0 [.ref l0, .int l1] X (some (.int r.1), r.2) := by
  refine xm_of (own := RX9) (by decide) rfl (Nat.le_of_ble_eq_true rfl) ?_
  intro p e s m below meth c ls C0 W0 hret hnm hl
  have hx := C0.1
  have hb := C0.2.1
  have hl : lv_has ls 2 [(0, .ref l0), (1, .int l1)] := hl
  unfold fX9_take at h
  refine lv_aload_n hx hb dX9_take_0 rfl (lv_at hl 0 rfl) ?_
  refine lv_iload_n hx hb dX9_take_1 rfl (lv_at hl 1 rfl) ?_
  obtain ⟨u1, h2, h⟩ := ob h
  obtain ⟨r3, h4, h⟩ := ob h
  refine xr_V (As := [.int l1]) (rest := []) C0 W0 (ctX9_isReading l G h4) (gK_of h2) (rr := (RX9, TX9, 12)) rfl rfl mc_X9_isReading mv_X9_isReading ml_X9_91 ⟨by decide, by decide⟩ rfl hl.1 rfl (Nat.le_of_ble_eq_true rfl) ⟨by decide, by decide⟩ dX9_take_2 (fun H locs W0 => ?_)
  refine W.cs (cells' := 0) (slots' := 0) rfl rfl ?_
  refine W.eq (g2 := F0 m 5 ls [.int r3.1]) rfl ?_
  refine lv_if_ne (tgt := 10) hx hb dX9_take_5 (by decide) (fun hcq => ?_) (fun hcq => ?_)
  · have h := it_f hcq h
    refine lv_aload_n hx hb dX9_take_10 rfl (lv_at hl 0 rfl) ?_
    refine lv_iload_n hx hb dX9_take_11 rfl (lv_at hl 1 rfl) ?_
    obtain ⟨X5, h6, h⟩ := ob h
    refine xr_putI C0 W0 cl_X9 2 (by decide) fl_X9_19 rfl rfl rfl (by decide) h6 dX9_take_12 (fun H locs W0 => ?_)
    refine lv_iconst (v := 1) hx hb dX9_take_15 (by decide) ?_
    exact xr_zret C0 W0 hret (by decide) (Option.some.inj h) dX9_take_16
  · have h := it_t hcq h
    refine lv_iconst (v := 0) hx hb dX9_take_8 (by decide) ?_
    exact xr_zret C0 W0 hret (by decide) (Option.some.inj h) dX9_take_9
def fX9_tune (l0 : Nat) (l1 : Int32) (X : XW) : Option (Int32 × XW) :=
  fX9_isWithin l1 0 3 X >>= fun r1 =>
  if (r1.1 = 0 : Prop) then (some (0, r1.2))
  else (gR r1.2 l0 9 0 >>= fun q3 =>
    gI r1.2 l0 9 2 >>= fun v5 =>
    aQ r1.2 q3 5 v5 >>= fun q7 =>
    pI r1.2 q7 4 8 l1 >>= fun X9 =>
    gK X9 l0 9 >>= fun u11 =>
    fX9_forgetShapes l0 X9 >>= fun X13 =>
    some (1, X13))
theorem ctX9_tune (l : Launch) (G : XG) {l0 : Nat} {l1 : Int32} {X : XW} {r : Int32 × XW}  (h : fX9_tune l0 l1 X = some r) : XM l G yX9_tune cX9_tune 2 (some .boolean) 1 60 0 0 [.ref l0, .int l1] X (some (.int r.1), r.2) := by
  refine xm_of (own := RX9) (by decide) rfl (Nat.le_of_ble_eq_true rfl) ?_
  intro p e s m below meth c ls C0 W0 hret hnm hl
  have hx := C0.1
  have hb := C0.2.1
  have hl : lv_has ls 2 [(0, .ref l0), (1, .int l1)] := hl
  unfold fX9_tune at h
  refine lv_iload_n hx hb dX9_tune_0 rfl (lv_at hl 1 rfl) ?_
  refine lv_iconst (v := 0) hx hb dX9_tune_1 (by decide) ?_
  refine lv_iconst (v := 3) hx hb dX9_tune_2 (by decide) ?_
  obtain ⟨r1, h2, h⟩ := ob h
  refine xr_S (As := [.int l1, .int 0, .int 3]) (rest := []) C0 W0 (ctX9_isWithin l G h2) mc_X9_isWithin ms_X9_isWithin ml_X9_95 ⟨by decide, by decide⟩ rfl hl.1 rfl (Nat.le_of_ble_eq_true rfl) ⟨by decide, by decide⟩ dX9_tune_3 (fun H locs W0 => ?_)
  refine W.cs (cells' := 0) (slots' := 0) rfl rfl ?_
  refine W.eq (g2 := F0 m 6 ls [.int r1.1]) rfl ?_
  refine lv_if_ne (tgt := 11) hx hb dX9_tune_6 (by decide) (fun hcq => ?_) (fun hcq => ?_)
  · have h := it_f hcq h
    refine lv_aload_n hx hb dX9_tune_11 rfl (lv_at hl 0 rfl) ?_
    obtain ⟨q3, h4, h⟩ := ob h
    refine xr_getR C0 W0 cl_X9 0 (by decide) fl_X9_11 rfl h4 dX9_tune_12 ?_
    refine lv_aload_n hx hb dX9_tune_15 rfl (lv_at hl 0 rfl) ?_
    obtain ⟨v5, h6, h⟩ := ob h
    refine xr_getI C0 W0 cl_X9 2 (by decide) fl_X9_19 rfl h6 dX9_tune_16 ?_
    obtain ⟨q7, h8, h⟩ := ob h
    refine xr_aldq C0 W0 5 (by decide) rfl rfl h8 dX9_tune_19 ?_
    refine lv_iload_n hx hb dX9_tune_20 rfl (lv_at hl 1 rfl) ?_
    obtain ⟨X9, h10, h⟩ := ob h
    refine xr_putI C0 W0 cl_X4 8 (by decide) fl_X9_98 rfl rfl rfl (by decide) h10 dX9_tune_21 (fun H locs W0 => ?_)
    refine lv_aload_n hx hb dX9_tune_24 rfl (lv_at hl 0 rfl) ?_
    obtain ⟨u11, h12, h⟩ := ob h
    obtain ⟨X13, h14, h⟩ := ob h
    refine xr_V (As := []) (rest := []) C0 W0 (ctX9_forgetShapes l G h14) (gK_of h12) (rr := (RX9, TX9, 12)) rfl rfl mc_X9_forgetShapes mv_X9_forgetShapes ml_X9_77 ⟨by decide, by decide⟩ rfl hl.1 rfl (Nat.le_of_ble_eq_true rfl) ⟨by decide, by decide⟩ dX9_tune_25 (fun H locs W0 => ?_)
    refine W.cs (cells' := 0) (slots' := 0) rfl rfl ?_
    refine W.eq (g2 := F0 m 28 ls []) rfl ?_
    refine lv_iconst (v := 1) hx hb dX9_tune_28 (by decide) ?_
    exact xr_zret C0 W0 hret (by decide) (Option.some.inj h) dX9_tune_29
  · have h := it_t hcq h
    refine lv_iconst (v := 0) hx hb dX9_tune_9 (by decide) ?_
    exact xr_zret C0 W0 hret (by decide) (Option.some.inj h) dX9_tune_10
def fX9_ideal (l0 : Nat) (l1 : Int32) (X : XW) : Option (Int32 × XW) :=
  fX9_isWithin l1 1 20 X >>= fun r1 =>
  if (r1.1 = 0 : Prop) then (some (0, r1.2))
  else (pI r1.2 l0 9 5 l1 >>= fun X3 =>
    gK X3 l0 9 >>= fun u5 =>
    fX9_forgetShapes l0 X3 >>= fun X7 =>
    some (1, X7))
theorem ctX9_ideal (l : Launch) (G : XG) {l0 : Nat} {l1 : Int32} {X : XW} {r : Int32 × XW}  (h : fX9_ideal l0 l1 X = some r) : XM l G yX9_ideal cX9_ideal 2 (some .boolean) 1 60 0 0 [.ref l0, .int l1] X (some (.int r.1), r.2) := by
  refine xm_of (own := RX9) (by decide) rfl (Nat.le_of_ble_eq_true rfl) ?_
  intro p e s m below meth c ls C0 W0 hret hnm hl
  have hx := C0.1
  have hb := C0.2.1
  have hl : lv_has ls 2 [(0, .ref l0), (1, .int l1)] := hl
  unfold fX9_ideal at h
  refine lv_iload_n hx hb dX9_ideal_0 rfl (lv_at hl 1 rfl) ?_
  refine lv_iconst (v := 1) hx hb dX9_ideal_1 (by decide) ?_
  refine lv_bipush (v := 20) hx hb dX9_ideal_2 (by decide) ?_
  obtain ⟨r1, h2, h⟩ := ob h
  refine xr_S (As := [.int l1, .int 1, .int 20]) (rest := []) C0 W0 (ctX9_isWithin l G h2) mc_X9_isWithin ms_X9_isWithin ml_X9_95 ⟨by decide, by decide⟩ rfl hl.1 rfl (Nat.le_of_ble_eq_true rfl) ⟨by decide, by decide⟩ dX9_ideal_4 (fun H locs W0 => ?_)
  refine W.cs (cells' := 0) (slots' := 0) rfl rfl ?_
  refine W.eq (g2 := F0 m 7 ls [.int r1.1]) rfl ?_
  refine lv_if_ne (tgt := 12) hx hb dX9_ideal_7 (by decide) (fun hcq => ?_) (fun hcq => ?_)
  · have h := it_f hcq h
    refine lv_aload_n hx hb dX9_ideal_12 rfl (lv_at hl 0 rfl) ?_
    refine lv_iload_n hx hb dX9_ideal_13 rfl (lv_at hl 1 rfl) ?_
    obtain ⟨X3, h4, h⟩ := ob h
    refine xr_putI C0 W0 cl_X9 5 (by decide) fl_X9_31 rfl rfl rfl (by decide) h4 dX9_ideal_14 (fun H locs W0 => ?_)
    refine lv_aload_n hx hb dX9_ideal_17 rfl (lv_at hl 0 rfl) ?_
    obtain ⟨u5, h6, h⟩ := ob h
    obtain ⟨X7, h8, h⟩ := ob h
    refine xr_V (As := []) (rest := []) C0 W0 (ctX9_forgetShapes l G h8) (gK_of h6) (rr := (RX9, TX9, 12)) rfl rfl mc_X9_forgetShapes mv_X9_forgetShapes ml_X9_77 ⟨by decide, by decide⟩ rfl hl.1 rfl (Nat.le_of_ble_eq_true rfl) ⟨by decide, by decide⟩ dX9_ideal_18 (fun H locs W0 => ?_)
    refine W.cs (cells' := 0) (slots' := 0) rfl rfl ?_
    refine W.eq (g2 := F0 m 21 ls []) rfl ?_
    refine lv_iconst (v := 1) hx hb dX9_ideal_21 (by decide) ?_
    exact xr_zret C0 W0 hret (by decide) (Option.some.inj h) dX9_ideal_22
  · have h := it_t hcq h
    refine lv_iconst (v := 0) hx hb dX9_ideal_10 (by decide) ?_
    exact xr_zret C0 W0 hret (by decide) (Option.some.inj h) dX9_ideal_11
def fX9_manner (l0 : Nat) (l1 : Int32) (l2 : Int32) (l3 : Int32) (l4 : Int32) (X : XW) : Option (Int32 × XW) :=
  if (l1 < 0 : Prop) then (some (0, X))
  else (if (4 ≤ l1 : Prop) then (some (0, X))
    else (if (l2 < 0 : Prop) then (some (0, X))
      else (if (l3 < l2 : Prop) then (some (0, X))
        else (if (99 < l3 : Prop) then (some (0, X))
          else (fX9_isWithin l4 1 99 X >>= fun r1 =>
            if (r1.1 = 0 : Prop) then (some (0, r1.2))
            else (pI r1.2 l0 9 4 l1 >>= fun X3 =>
              gR X3 l0 9 3 >>= fun q5 =>
              aQ X3 q5 4 l1 >>= fun q7 =>
              pI X3 q7 2 1 l2 >>= fun X9 =>
              gR X9 l0 9 3 >>= fun q11 =>
              aQ X9 q11 4 l1 >>= fun q13 =>
              pI X9 q13 2 2 l3 >>= fun X15 =>
              gR X15 l0 9 3 >>= fun q17 =>
              aQ X15 q17 4 l1 >>= fun q19 =>
              pI X15 q19 2 3 l4 >>= fun X21 =>
              gK X21 l0 9 >>= fun u23 =>
              fX9_forgetShapes l0 X21 >>= fun X25 =>
              some (1, X25)))))))
theorem ctX9_manner (l : Launch) (G : XG) {l0 : Nat} {l1 : Int32} {l2 : Int32} {l3 : Int32} {l4 : Int32} {X : XW} {r : Int32 × XW}  (h : fX9_manner l0 l1 l2 l3 l4 X = some r) : XM l G yX9_manner cX9_manner 5 (some .boolean) 1 60 0 0 [.ref l0, .int l1, .int l2, .int l3, .int l4] X (some (.int r.1), r.2) := by
  refine xm_of (own := RX9) (by decide) rfl (Nat.le_of_ble_eq_true rfl) ?_
  intro p e s m below meth c ls C0 W0 hret hnm hl
  have hx := C0.1
  have hb := C0.2.1
  have hl : lv_has ls 5 [(0, .ref l0), (1, .int l1), (2, .int l2), (3, .int l3), (4, .int l4)] := hl
  unfold fX9_manner at h
  refine lv_iload_n hx hb dX9_manner_0 rfl (lv_at hl 1 rfl) ?_
  refine lv_if_lt (tgt := 35) hx hb dX9_manner_1 (by decide) (fun hcq => ?_) (fun hcq => ?_)
  · have h := it_t hcq h
    refine lv_iconst (v := 0) hx hb dX9_manner_35 (by decide) ?_
    exact xr_zret C0 W0 hret (by decide) (Option.some.inj h) dX9_manner_36
  · have h := it_f hcq h
    refine lv_iload_n hx hb dX9_manner_4 rfl (lv_at hl 1 rfl) ?_
    refine lv_iconst (v := 4) hx hb dX9_manner_5 (by decide) ?_
    refine lv_icmp_ge (tgt := 35) hx hb dX9_manner_6 (by decide) (fun hcq => ?_) (fun hcq => ?_)
    · have h := it_t hcq h
      refine lv_iconst (v := 0) hx hb dX9_manner_35 (by decide) ?_
      exact xr_zret C0 W0 hret (by decide) (Option.some.inj h) dX9_manner_36
    · have h := it_f hcq h
      refine lv_iload_n hx hb dX9_manner_9 rfl (lv_at hl 2 rfl) ?_
      refine lv_if_lt (tgt := 35) hx hb dX9_manner_10 (by decide) (fun hcq => ?_) (fun hcq => ?_)
      · have h := it_t hcq h
        refine lv_iconst (v := 0) hx hb dX9_manner_35 (by decide) ?_
        exact xr_zret C0 W0 hret (by decide) (Option.some.inj h) dX9_manner_36
      · have h := it_f hcq h
        refine lv_iload_n hx hb dX9_manner_13 rfl (lv_at hl 2 rfl) ?_
        refine lv_iload_n hx hb dX9_manner_14 rfl (lv_at hl 3 rfl) ?_
        refine lv_icmp_gt (tgt := 35) hx hb dX9_manner_15 (by decide) (fun hcq => ?_) (fun hcq => ?_)
        · have h := it_t hcq h
          refine lv_iconst (v := 0) hx hb dX9_manner_35 (by decide) ?_
          exact xr_zret C0 W0 hret (by decide) (Option.some.inj h) dX9_manner_36
        · have h := it_f hcq h
          refine lv_iload_n hx hb dX9_manner_18 rfl (lv_at hl 3 rfl) ?_
          refine lv_bipush (v := 99) hx hb dX9_manner_19 (by decide) ?_
          refine lv_icmp_gt (tgt := 35) hx hb dX9_manner_21 (by decide) (fun hcq => ?_) (fun hcq => ?_)
          · have h := it_t hcq h
            refine lv_iconst (v := 0) hx hb dX9_manner_35 (by decide) ?_
            exact xr_zret C0 W0 hret (by decide) (Option.some.inj h) dX9_manner_36
          · have h := it_f hcq h
            refine lv_iload hx hb dX9_manner_24 (lv_at hl 4 rfl) ?_
            refine lv_iconst (v := 1) hx hb dX9_manner_26 (by decide) ?_
            refine lv_bipush (v := 99) hx hb dX9_manner_27 (by decide) ?_
            obtain ⟨r1, h2, h⟩ := ob h
            refine xr_S (As := [.int l4, .int 1, .int 99]) (rest := []) C0 W0 (ctX9_isWithin l G h2) mc_X9_isWithin ms_X9_isWithin ml_X9_95 ⟨by decide, by decide⟩ rfl hl.1 rfl (Nat.le_of_ble_eq_true rfl) ⟨by decide, by decide⟩ dX9_manner_29 (fun H locs W0 => ?_)
            refine W.cs (cells' := 0) (slots' := 0) rfl rfl ?_
            refine W.eq (g2 := F0 m 32 ls [.int r1.1]) rfl ?_
            refine lv_if_ne (tgt := 37) hx hb dX9_manner_32 (by decide) (fun hcq => ?_) (fun hcq => ?_)
            · have h := it_f hcq h
              refine lv_aload_n hx hb dX9_manner_37 rfl (lv_at hl 0 rfl) ?_
              refine lv_iload_n hx hb dX9_manner_38 rfl (lv_at hl 1 rfl) ?_
              obtain ⟨X3, h4, h⟩ := ob h
              refine xr_putI C0 W0 cl_X9 4 (by decide) fl_X9_28 rfl rfl rfl (by decide) h4 dX9_manner_39 (fun H locs W0 => ?_)
              refine lv_aload_n hx hb dX9_manner_42 rfl (lv_at hl 0 rfl) ?_
              obtain ⟨q5, h6, h⟩ := ob h
              refine xr_getR C0 W0 cl_X9 3 (by decide) fl_X9_24 rfl h6 dX9_manner_43 ?_
              refine lv_iload_n hx hb dX9_manner_46 rfl (lv_at hl 1 rfl) ?_
              obtain ⟨q7, h8, h⟩ := ob h
              refine xr_aldq C0 W0 4 (by decide) rfl rfl h8 dX9_manner_47 ?_
              refine lv_iload_n hx hb dX9_manner_48 rfl (lv_at hl 2 rfl) ?_
              obtain ⟨X9, h10, h⟩ := ob h
              refine xr_putI C0 W0 cl_X2 1 (by decide) fl_X9_101 rfl rfl rfl (by decide) h10 dX9_manner_49 (fun H locs W0 => ?_)
              refine lv_aload_n hx hb dX9_manner_52 rfl (lv_at hl 0 rfl) ?_
              obtain ⟨q11, h12, h⟩ := ob h
              refine xr_getR C0 W0 cl_X9 3 (by decide) fl_X9_24 rfl h12 dX9_manner_53 ?_
              refine lv_iload_n hx hb dX9_manner_56 rfl (lv_at hl 1 rfl) ?_
              obtain ⟨q13, h14, h⟩ := ob h
              refine xr_aldq C0 W0 4 (by decide) rfl rfl h14 dX9_manner_57 ?_
              refine lv_iload_n hx hb dX9_manner_58 rfl (lv_at hl 3 rfl) ?_
              obtain ⟨X15, h16, h⟩ := ob h
              refine xr_putI C0 W0 cl_X2 2 (by decide) fl_X9_104 rfl rfl rfl (by decide) h16 dX9_manner_59 (fun H locs W0 => ?_)
              refine lv_aload_n hx hb dX9_manner_62 rfl (lv_at hl 0 rfl) ?_
              obtain ⟨q17, h18, h⟩ := ob h
              refine xr_getR C0 W0 cl_X9 3 (by decide) fl_X9_24 rfl h18 dX9_manner_63 ?_
              refine lv_iload_n hx hb dX9_manner_66 rfl (lv_at hl 1 rfl) ?_
              obtain ⟨q19, h20, h⟩ := ob h
              refine xr_aldq C0 W0 4 (by decide) rfl rfl h20 dX9_manner_67 ?_
              refine lv_iload hx hb dX9_manner_68 (lv_at hl 4 rfl) ?_
              obtain ⟨X21, h22, h⟩ := ob h
              refine xr_putI C0 W0 cl_X2 3 (by decide) fl_X9_107 rfl rfl rfl (by decide) h22 dX9_manner_70 (fun H locs W0 => ?_)
              refine lv_aload_n hx hb dX9_manner_73 rfl (lv_at hl 0 rfl) ?_
              obtain ⟨u23, h24, h⟩ := ob h
              obtain ⟨X25, h26, h⟩ := ob h
              refine xr_V (As := []) (rest := []) C0 W0 (ctX9_forgetShapes l G h26) (gK_of h24) (rr := (RX9, TX9, 12)) rfl rfl mc_X9_forgetShapes mv_X9_forgetShapes ml_X9_77 ⟨by decide, by decide⟩ rfl hl.1 rfl (Nat.le_of_ble_eq_true rfl) ⟨by decide, by decide⟩ dX9_manner_74 (fun H locs W0 => ?_)
              refine W.cs (cells' := 0) (slots' := 0) rfl rfl ?_
              refine W.eq (g2 := F0 m 77 ls []) rfl ?_
              refine lv_iconst (v := 1) hx hb dX9_manner_77 (by decide) ?_
              exact xr_zret C0 W0 hret (by decide) (Option.some.inj h) dX9_manner_78
            · have h := it_t hcq h
              refine lv_iconst (v := 0) hx hb dX9_manner_35 (by decide) ?_
              exact xr_zret C0 W0 hret (by decide) (Option.some.inj h) dX9_manner_36
def fX9_feed (l0 : Nat) (l1 : Int64) (l3 : Int64) (l5 : Int64) (X : XW) : Option (Int32 × XW) :=
  gR X l0 9 8 >>= fun q1 =>
  gK X q1 7 >>= fun u3 =>
  fX7_layBytes q1 l1 X >>= fun X5 =>
  gR X5 l0 9 8 >>= fun q7 =>
  gK X5 q7 7 >>= fun u9 =>
  fX7_layBytes q7 l3 X5 >>= fun X11 =>
  gR X11 l0 9 8 >>= fun q13 =>
  gK X11 q13 7 >>= fun u15 =>
  fX7_layBytes q13 l5 X11 >>= fun X17 =>
  gR X17 l0 9 8 >>= fun q19 =>
  gI X17 q19 7 1 >>= fun v21 =>
  some (v21, X17)
theorem ctX9_feed (l : Launch) (G : XG) {l0 : Nat} {l1 : Int64} {l3 : Int64} {l5 : Int64} {X : XW} {r : Int32 × XW}  (h : fX9_feed l0 l1 l3 l5 X = some r) : XM l G yX9_feed cX9_feed 7 (some .int) 2 120 0 0 [.ref l0, .long l1, .long l3, .long l5] X (some (.int r.1), r.2) := by
  refine xm_of (own := RX9) (by decide) rfl (Nat.le_of_ble_eq_true rfl) ?_
  intro p e s m below meth c ls C0 W0 hret hnm hl
  have hx := C0.1
  have hb := C0.2.1
  have hl : lv_has ls 7 [(0, .ref l0), (1, .long l1), (3, .long l3), (5, .long l5)] := hl
  unfold fX9_feed at h
  refine lv_aload_n hx hb dX9_feed_0 rfl (lv_at hl 0 rfl) ?_
  obtain ⟨q1, h2, h⟩ := ob h
  refine xr_getR C0 W0 cl_X9 8 (by decide) fl_X9_43 rfl h2 dX9_feed_1 ?_
  refine lv_lload_n hx hb dX9_feed_4 rfl (lv_at hl 1 rfl) ?_
  obtain ⟨u3, h4, h⟩ := ob h
  obtain ⟨X5, h6, h⟩ := ob h
  refine xr_V (As := [.long l1]) (rest := []) C0 W0 (ctX7_layBytes l G h6) (gK_of h4) (rr := (RX7, TX7, 2)) rfl rfl mc_X7_layBytes mv_X7_layBytes ml_X9_110 ⟨by decide, by decide⟩ rfl hl.1 rfl (Nat.le_of_ble_eq_true rfl) ⟨by decide, by decide⟩ dX9_feed_5 (fun H locs W0 => ?_)
  refine W.cs (cells' := 0) (slots' := 0) rfl rfl ?_
  refine W.eq (g2 := F0 m 8 ls []) rfl ?_
  refine lv_aload_n hx hb dX9_feed_8 rfl (lv_at hl 0 rfl) ?_
  obtain ⟨q7, h8, h⟩ := ob h
  refine xr_getR C0 W0 cl_X9 8 (by decide) fl_X9_43 rfl h8 dX9_feed_9 ?_
  refine lv_lload_n hx hb dX9_feed_12 rfl (lv_at hl 2 rfl) ?_
  obtain ⟨u9, h10, h⟩ := ob h
  obtain ⟨X11, h12, h⟩ := ob h
  refine xr_V (As := [.long l3]) (rest := []) C0 W0 (ctX7_layBytes l G h12) (gK_of h10) (rr := (RX7, TX7, 2)) rfl rfl mc_X7_layBytes mv_X7_layBytes ml_X9_110 ⟨by decide, by decide⟩ rfl hl.1 rfl (Nat.le_of_ble_eq_true rfl) ⟨by decide, by decide⟩ dX9_feed_13 (fun H locs W0 => ?_)
  refine W.cs (cells' := 0) (slots' := 0) rfl rfl ?_
  refine W.eq (g2 := F0 m 16 ls []) rfl ?_
  refine lv_aload_n hx hb dX9_feed_16 rfl (lv_at hl 0 rfl) ?_
  obtain ⟨q13, h14, h⟩ := ob h
  refine xr_getR C0 W0 cl_X9 8 (by decide) fl_X9_43 rfl h14 dX9_feed_17 ?_
  refine lv_lload hx hb dX9_feed_20 (lv_at hl 3 rfl) ?_
  obtain ⟨u15, h16, h⟩ := ob h
  obtain ⟨X17, h18, h⟩ := ob h
  refine xr_V (As := [.long l5]) (rest := []) C0 W0 (ctX7_layBytes l G h18) (gK_of h16) (rr := (RX7, TX7, 2)) rfl rfl mc_X7_layBytes mv_X7_layBytes ml_X9_110 ⟨by decide, by decide⟩ rfl hl.1 rfl (Nat.le_of_ble_eq_true rfl) ⟨by decide, by decide⟩ dX9_feed_22 (fun H locs W0 => ?_)
  refine W.cs (cells' := 0) (slots' := 0) rfl rfl ?_
  refine W.eq (g2 := F0 m 25 ls []) rfl ?_
  refine lv_aload_n hx hb dX9_feed_25 rfl (lv_at hl 0 rfl) ?_
  obtain ⟨q19, h20, h⟩ := ob h
  refine xr_getR C0 W0 cl_X9 8 (by decide) fl_X9_43 rfl h20 dX9_feed_26 ?_
  obtain ⟨v21, h22, h⟩ := ob h
  refine xr_getI C0 W0 cl_X7 1 (by decide) fl_X9_114 rfl h22 dX9_feed_29 ?_
  exact xr_iret C0 W0 hret (Option.some.inj h) dX9_feed_32
def fX9_rules (l0 : Nat) (X : XW) : Option (Int32 × XW) :=
  gR (nO X 1).2 l0 9 8 >>= fun q1 =>
  gI (nO X 1).2 q1 7 1 >>= fun v3 =>
  fX1_init ((nO X 1).1) v3 (nO X 1).2 >>= fun X5 =>
  gR X5 l0 9 8 >>= fun q7 =>
  gK X5 ((nO X 1).1) 1 >>= fun u9 =>
  fX1_readText ((nO X 1).1) q7 X5 >>= fun r11 =>
  gR r11.2 l0 9 8 >>= fun q13 =>
  pI r11.2 q13 7 1 0 >>= fun X15 =>
  if (r11.1 = 0 : Prop) then (gR X15 l0 9 3 >>= fun q17 =>
    gI X15 l0 9 4 >>= fun v19 =>
    aQ X15 q17 4 v19 >>= fun q21 =>
    gR X15 ((nO X 1).1) 1 0 >>= fun q23 =>
    pR X15 q21 2 0 q23 >>= fun X25 =>
    gK X25 l0 9 >>= fun u27 =>
    fX9_forgetShapes l0 X25 >>= fun X29 =>
    some (r11.1, X29))
  else (some (r11.1, X15))
theorem ctX9_rules (l : Launch) (G : XG) {l0 : Nat} {X : XW} {r : Int32 × XW}  (h : fX9_rules l0 X = some r) : XM l G yX9_rules cX9_rules 3 (some .int) 30 1800 11 3138 [.ref l0] X (some (.int r.1), r.2) := by
  refine xm_of (own := RX9) (by decide) rfl (Nat.le_of_ble_eq_true rfl) ?_
  intro p e s m below meth c ls C0 W0 hret hnm hl
  have hx := C0.1
  have hb := C0.2.1
  have hl : lv_has ls 3 [(0, .ref l0)] := hl
  unfold fX9_rules at h
  refine xr_new C0 W0 cl_X1 (by decide) dv_X1 kl_X9_117 kn_X1.1 kn_X1.2 (by decide) (by decide) dX9_rules_0 (fun H W0 => ?_)
  refine W.cs (cells' := 1) (slots' := 5) rfl rfl ?_
  refine lv_dup hx hb dX9_rules_3 rfl ?_
  refine lv_aload_n hx hb dX9_rules_4 rfl (lv_at hl 0 rfl) ?_
  obtain ⟨q1, h2, h⟩ := ob h
  refine xr_getR C0 W0 cl_X9 8 (by decide) fl_X9_43 rfl h2 dX9_rules_5 ?_
  obtain ⟨v3, h4, h⟩ := ob h
  refine xr_getI C0 W0 cl_X7 1 (by decide) fl_X9_114 rfl h4 dX9_rules_8 ?_
  obtain ⟨X5, h6, h⟩ := ob h
  refine xr_I (As := [.int v3]) (rest := [.ref ((nO X 1).1)]) C0 W0 (ctX1_init l G h6) mc_X1_init mi_X1_init ml_X9_119 ⟨by decide, by decide⟩ rfl hl.1 rfl (Nat.le_of_ble_eq_true rfl) ⟨by decide, by decide⟩ dX9_rules_11 (fun H locs W0 => ?_)
  refine W.cs (cells' := 11) (slots' := 3138) rfl rfl ?_
  refine W.eq (g2 := F0 m 14 ls [.ref ((nO X 1).1)]) rfl ?_
  refine lv_astore_n (lv' := [(1, .ref ((nO X 1).1)), (0, .ref l0)]) hx hb dX9_rules_14 rfl hl (by decide) rfl (fun ls hl => ?_)
  refine lv_aload_n hx hb dX9_rules_15 rfl (lv_at hl 0 rfl) ?_
  refine lv_aload_n hx hb dX9_rules_16 rfl (lv_at hl 1 rfl) ?_
  obtain ⟨q7, h8, h⟩ := ob h
  refine xr_getR C0 W0 cl_X9 8 (by decide) fl_X9_43 rfl h8 dX9_rules_17 ?_
  obtain ⟨u9, h10, h⟩ := ob h
  obtain ⟨r11, h12, h⟩ := ob h
  refine xr_V (As := [.ref q7]) (rest := []) C0 W0 (ctX1_readText l G h12) (gK_of h10) (rr := (RX1, TX1, 5)) rfl rfl mc_X1_readText mv_X1_readText ml_X9_122 ⟨by decide, by decide⟩ rfl hl.1 rfl (Nat.le_of_ble_eq_true rfl) ⟨by decide, by decide⟩ dX9_rules_20 (fun H locs W0 => ?_)
  refine W.cs (cells' := 11) (slots' := 3138) rfl rfl ?_
  refine W.eq (g2 := F0 m 23 ls [.int r11.1]) rfl ?_
  refine lv_istore_n (lv' := [(2, .int r11.1), (1, .ref ((nO X 1).1)), (0, .ref l0)]) hx hb dX9_rules_23 rfl hl (by decide) rfl (fun ls hl => ?_)
  refine lv_aload_n hx hb dX9_rules_24 rfl (lv_at hl 2 rfl) ?_
  obtain ⟨q13, h14, h⟩ := ob h
  refine xr_getR C0 W0 cl_X9 8 (by decide) fl_X9_43 rfl h14 dX9_rules_25 ?_
  refine lv_iconst (v := 0) hx hb dX9_rules_28 (by decide) ?_
  obtain ⟨X15, h16, h⟩ := ob h
  refine xr_putI C0 W0 cl_X7 1 (by decide) fl_X9_114 rfl rfl rfl (by decide) h16 dX9_rules_29 (fun H locs W0 => ?_)
  refine lv_iload_n hx hb dX9_rules_32 rfl (lv_at hl 0 rfl) ?_
  refine lv_if_ne (tgt := 56) hx hb dX9_rules_33 (by decide) (fun hcq => ?_) (fun hcq => ?_)
  · have h := it_f hcq h
    refine lv_iload_n hx hb dX9_rules_56 rfl (lv_at hl 0 rfl) ?_
    exact xr_iret C0 W0 hret (Option.some.inj h) dX9_rules_57
  · have h := it_t hcq h
    refine lv_aload_n hx hb dX9_rules_36 rfl (lv_at hl 2 rfl) ?_
    obtain ⟨q17, h18, h⟩ := ob h
    refine xr_getR C0 W0 cl_X9 3 (by decide) fl_X9_24 rfl h18 dX9_rules_37 ?_
    refine lv_aload_n hx hb dX9_rules_40 rfl (lv_at hl 2 rfl) ?_
    obtain ⟨v19, h20, h⟩ := ob h
    refine xr_getI C0 W0 cl_X9 4 (by decide) fl_X9_28 rfl h20 dX9_rules_41 ?_
    obtain ⟨q21, h22, h⟩ := ob h
    refine xr_aldq C0 W0 4 (by decide) rfl rfl h22 dX9_rules_44 ?_
    refine lv_aload_n hx hb dX9_rules_45 rfl (lv_at hl 1 rfl) ?_
    obtain ⟨q23, h24, h⟩ := ob h
    refine xr_getR C0 W0 cl_X1 0 (by decide) fl_X9_126 rfl h24 dX9_rules_46 ?_
    obtain ⟨X25, h26, h⟩ := ob h
    refine xr_putR C0 W0 cl_X2 0 (by decide) fl_X9_130 (Or.inl rfl) rfl ⟨rfl, rfl⟩ (by decide) h26 dX9_rules_49 (fun H locs W0 => ?_)
    refine lv_aload_n hx hb dX9_rules_52 rfl (lv_at hl 2 rfl) ?_
    obtain ⟨u27, h28, h⟩ := ob h
    obtain ⟨X29, h30, h⟩ := ob h
    refine xr_V (As := []) (rest := []) C0 W0 (ctX9_forgetShapes l G h30) (gK_of h28) (rr := (RX9, TX9, 12)) rfl rfl mc_X9_forgetShapes mv_X9_forgetShapes ml_X9_77 ⟨by decide, by decide⟩ rfl hl.1 rfl (Nat.le_of_ble_eq_true rfl) ⟨by decide, by decide⟩ dX9_rules_53 (fun H locs W0 => ?_)
    refine W.cs (cells' := 11) (slots' := 3138) rfl rfl ?_
    refine W.eq (g2 := F0 m 56 ls []) rfl ?_
    refine lv_iload_n hx hb dX9_rules_56 rfl (lv_at hl 0 rfl) ?_
    exact xr_iret C0 W0 hret (Option.some.inj h) dX9_rules_57
def fX9_hand_j59  (l0 : Nat) (l1 : Int32) (l2 : Int32) (l3 : Int32) (l4 : Nat) (X : XW) : Option (Int32 × XW) :=
  gR X l4 4 5 >>= fun q1 =>
  aQ X q1 6 l2 >>= fun q3 =>
  uI X q3 l1 l3 >>= fun X5 =>
  gK X5 l0 9 >>= fun u7 =>
  fX9_forgetShapes l0 X5 >>= fun X9 =>
  some (1, X9)
def fX9_hand (l0 : Nat) (l1 : Int32) (l2 : Int32) (l3 : Int32) (X : XW) : Option (Int32 × XW) :=
  gR X l0 9 0 >>= fun q1 =>
  gI X l0 9 2 >>= fun v3 =>
  aQ X q1 5 v3 >>= fun q5 =>
  if (l1 < 0 : Prop) then (some (0, X))
  else (gI X q5 4 7 >>= fun v7 =>
    if (v7 ≤ l1 : Prop) then (some (0, X))
    else (if (l2 < 0 : Prop) then (some (0, X))
      else (if (l2 < 3 : Prop) then (if (l3 = (-1) : Prop) then (fX9_hand_j59 l0 l1 l2 l3 q5 X)
          else (sA 0 l2 >>= fun v9 =>
            sA 1 l2 >>= fun v11 =>
            fX9_isWithin l3 v9 v11 X >>= fun r13 =>
            if (r13.1 = 0 : Prop) then (some (0, r13.2))
            else (fX9_hand_j59 l0 l1 l2 l3 q5 r13.2)))
        else (some (0, X)))))
theorem tX9_hand_j59 {p : Program} {l : Launch} {e : Env} {s : State} {m : MethodId} {args : Array Value} {below : List Frame} {meth : Method} {c : Code} {G : XG} {X0 : XW} (C0 : XC p s m args meth c RX9 cX9_hand 5 G) (hret : meth.sig.returnType = (some .boolean)) {r : Int32 × XW} {l0 : Nat} {l1 : Int32} {l2 : Int32} {l3 : Int32} {l4 : Nat} {X : XW} {H : Heap} {locs : List Loc} {ls : Array Slot} (W0 : XD G X0 X s H locs) (hl : lv_has ls 5 [(0, .ref l0), (1, .int l1), (2, .int l2), (3, .int l3), (4, .ref l4)]) (h : fX9_hand_j59 l0 l1 l2 l3 l4 X = some r) : W p l e { frames := 1, cells := 0, slots := 0, locals := 60 } s m args below meth c H locs 0 0 (MQ below (XQ G X0 (some (.int r.1), r.2)) args s 0 0 (xAd X0)) (F0 m 59 ls []) := by
  have hx := C0.1
  have hb := C0.2.1
  unfold fX9_hand_j59 at h
  refine lv_aload hx hb dX9_hand_59 (lv_at hl 4 rfl) ?_
  obtain ⟨q1, h2, h⟩ := ob h
  refine xr_getR C0 W0 cl_X4 5 (by decide) fl_X9_142 rfl h2 dX9_hand_61 ?_
  refine lv_iload_n hx hb dX9_hand_64 rfl (lv_at hl 2 rfl) ?_
  obtain ⟨q3, h4, h⟩ := ob h
  refine xr_aldq C0 W0 6 (by decide) rfl rfl h4 dX9_hand_65 ?_
  refine lv_iload_n hx hb dX9_hand_66 rfl (lv_at hl 1 rfl) ?_
  refine lv_iload_n hx hb dX9_hand_67 rfl (lv_at hl 3 rfl) ?_
  obtain ⟨X5, h6, h⟩ := ob h
  refine xr_iast C0 W0 h6 dX9_hand_68 (fun H locs W0 => ?_)
  refine lv_aload_n hx hb dX9_hand_69 rfl (lv_at hl 0 rfl) ?_
  obtain ⟨u7, h8, h⟩ := ob h
  obtain ⟨X9, h10, h⟩ := ob h
  refine xr_V (As := []) (rest := []) C0 W0 (ctX9_forgetShapes l G h10) (gK_of h8) (rr := (RX9, TX9, 12)) rfl rfl mc_X9_forgetShapes mv_X9_forgetShapes ml_X9_77 ⟨by decide, by decide⟩ rfl hl.1 rfl (Nat.le_of_ble_eq_true rfl) ⟨by decide, by decide⟩ dX9_hand_70 (fun H locs W0 => ?_)
  refine W.cs (cells' := 0) (slots' := 0) rfl rfl ?_
  refine W.eq (g2 := F0 m 73 ls []) rfl ?_
  refine lv_iconst (v := 1) hx hb dX9_hand_73 (by decide) ?_
  exact xr_zret C0 W0 hret (by decide) (Option.some.inj h) dX9_hand_74
theorem ctX9_hand (l : Launch) (G : XG) {l0 : Nat} {l1 : Int32} {l2 : Int32} {l3 : Int32} {X : XW} {r : Int32 × XW}  (h : fX9_hand l0 l1 l2 l3 X = some r) : XM l G yX9_hand cX9_hand 5 (some .boolean) 1 60 0 0 [.ref l0, .int l1, .int l2, .int l3] X (some (.int r.1), r.2) := by
  refine xm_of (own := RX9) (by decide) rfl (Nat.le_of_ble_eq_true rfl) ?_
  intro p e s m below meth c ls C0 W0 hret hnm hl
  have hx := C0.1
  have hb := C0.2.1
  have hl : lv_has ls 5 [(0, .ref l0), (1, .int l1), (2, .int l2), (3, .int l3)] := hl
  unfold fX9_hand at h
  refine lv_aload_n hx hb dX9_hand_0 rfl (lv_at hl 0 rfl) ?_
  obtain ⟨q1, h2, h⟩ := ob h
  refine xr_getR C0 W0 cl_X9 0 (by decide) fl_X9_11 rfl h2 dX9_hand_1 ?_
  refine lv_aload_n hx hb dX9_hand_4 rfl (lv_at hl 0 rfl) ?_
  obtain ⟨v3, h4, h⟩ := ob h
  refine xr_getI C0 W0 cl_X9 2 (by decide) fl_X9_19 rfl h4 dX9_hand_5 ?_
  obtain ⟨q5, h6, h⟩ := ob h
  refine xr_aldq C0 W0 5 (by decide) rfl rfl h6 dX9_hand_8 ?_
  refine lv_astore (lv' := [(4, .ref q5), (0, .ref l0), (1, .int l1), (2, .int l2), (3, .int l3)]) hx hb dX9_hand_9 hl (by decide) rfl (fun ls hl => ?_)
  refine lv_iload_n hx hb dX9_hand_11 rfl (lv_at hl 2 rfl) ?_
  refine lv_if_lt (tgt := 33) hx hb dX9_hand_12 (by decide) (fun hcq => ?_) (fun hcq => ?_)
  · have h := it_t hcq h
    refine lv_iconst (v := 0) hx hb dX9_hand_33 (by decide) ?_
    exact xr_zret C0 W0 hret (by decide) (Option.some.inj h) dX9_hand_34
  · have h := it_f hcq h
    refine lv_iload_n hx hb dX9_hand_15 rfl (lv_at hl 2 rfl) ?_
    refine lv_aload hx hb dX9_hand_16 (lv_at hl 0 rfl) ?_
    obtain ⟨v7, h8, h⟩ := ob h
    refine xr_getI C0 W0 cl_X4 7 (by decide) fl_X9_133 rfl h8 dX9_hand_18 ?_
    refine lv_icmp_ge (tgt := 33) hx hb dX9_hand_21 (by decide) (fun hcq => ?_) (fun hcq => ?_)
    · have h := it_t hcq h
      refine lv_iconst (v := 0) hx hb dX9_hand_33 (by decide) ?_
      exact xr_zret C0 W0 hret (by decide) (Option.some.inj h) dX9_hand_34
    · have h := it_f hcq h
      refine lv_iload_n hx hb dX9_hand_24 rfl (lv_at hl 3 rfl) ?_
      refine lv_if_lt (tgt := 33) hx hb dX9_hand_25 (by decide) (fun hcq => ?_) (fun hcq => ?_)
      · have h := it_t hcq h
        refine lv_iconst (v := 0) hx hb dX9_hand_33 (by decide) ?_
        exact xr_zret C0 W0 hret (by decide) (Option.some.inj h) dX9_hand_34
      · have h := it_f hcq h
        refine lv_iload_n hx hb dX9_hand_28 rfl (lv_at hl 3 rfl) ?_
        refine lv_iconst (v := 3) hx hb dX9_hand_29 (by decide) ?_
        refine lv_icmp_lt (tgt := 35) hx hb dX9_hand_30 (by decide) (fun hcq => ?_) (fun hcq => ?_)
        · have h := it_t hcq h
          refine lv_iload_n hx hb dX9_hand_35 rfl (lv_at hl 4 rfl) ?_
          refine lv_iconst (v := (-1)) hx hb dX9_hand_36 (by decide) ?_
          refine lv_icmp_eq (tgt := 59) hx hb dX9_hand_37 (by decide) (fun hcq => ?_) (fun hcq => ?_)
          · have h := it_t hcq h
            exact tX9_hand_j59 C0 hret W0 (lv_sub hl [1, 2, 3, 4, 0] rfl) h
          · have h := it_f hcq h
            refine lv_iload_n hx hb dX9_hand_40 rfl (lv_at hl 4 rfl) ?_
            refine xr_gets C0 W0 0 (by decide) (xws_t 599 (by decide +kernel) rfl) dX9_hand_41 ?_
            refine lv_iload_n hx hb dX9_hand_44 rfl (lv_at hl 3 rfl) ?_
            obtain ⟨v9, h10, h⟩ := ob h
            refine xr_sald C0 W0 0 (by decide) h10 dX9_hand_45 ?_
            refine xr_gets C0 W0 1 (by decide) (xws_t 601 (by decide +kernel) rfl) dX9_hand_46 ?_
            refine lv_iload_n hx hb dX9_hand_49 rfl (lv_at hl 3 rfl) ?_
            obtain ⟨v11, h12, h⟩ := ob h
            refine xr_sald C0 W0 1 (by decide) h12 dX9_hand_50 ?_
            obtain ⟨r13, h14, h⟩ := ob h
            refine xr_S (As := [.int l3, .int v9, .int v11]) (rest := []) C0 W0 (ctX9_isWithin l G h14) mc_X9_isWithin ms_X9_isWithin ml_X9_95 ⟨by decide, by decide⟩ rfl hl.1 rfl (Nat.le_of_ble_eq_true rfl) ⟨by decide, by decide⟩ dX9_hand_51 (fun H locs W0 => ?_)
            refine W.cs (cells' := 0) (slots' := 0) rfl rfl ?_
            refine W.eq (g2 := F0 m 54 ls [.int r13.1]) rfl ?_
            refine lv_if_ne (tgt := 59) hx hb dX9_hand_54 (by decide) (fun hcq => ?_) (fun hcq => ?_)
            · have h := it_f hcq h
              exact tX9_hand_j59 C0 hret W0 (lv_sub hl [1, 2, 3, 4, 0] rfl) h
            · have h := it_t hcq h
              refine lv_iconst (v := 0) hx hb dX9_hand_57 (by decide) ?_
              exact xr_zret C0 W0 hret (by decide) (Option.some.inj h) dX9_hand_58
        · have h := it_f hcq h
          refine lv_iconst (v := 0) hx hb dX9_hand_33 (by decide) ?_
          exact xr_zret C0 W0 hret (by decide) (Option.some.inj h) dX9_hand_34
def fX9_speed (l0 : Nat) (l1 : Int32) (l2 : Int32) (X : XW) : Option (Int32 × XW) :=
  fX9_isWithin l1 1 100 X >>= fun r1 =>
  if (r1.1 = 0 : Prop) then (some (0, r1.2))
  else (fX9_isWithin l2 1 100 r1.2 >>= fun r3 =>
    if (r3.1 = 0 : Prop) then (some (0, r3.2))
    else (pI r3.2 l0 9 6 l1 >>= fun X5 =>
      pI X5 l0 9 7 l2 >>= fun X7 =>
      gK X7 l0 9 >>= fun u9 =>
      fX9_forgetShapes l0 X7 >>= fun X11 =>
      some (1, X11)))
theorem ctX9_speed (l : Launch) (G : XG) {l0 : Nat} {l1 : Int32} {l2 : Int32} {X : XW} {r : Int32 × XW}  (h : fX9_speed l0 l1 l2 X = some r) : XM l G yX9_speed cX9_speed 3 (some .boolean) 1 60 0 0 [.ref l0, .int l1, .int l2] X (some (.int r.1), r.2) := by
  refine xm_of (own := RX9) (by decide) rfl (Nat.le_of_ble_eq_true rfl) ?_
  intro p e s m below meth c ls C0 W0 hret hnm hl
  have hx := C0.1
  have hb := C0.2.1
  have hl : lv_has ls 3 [(0, .ref l0), (1, .int l1), (2, .int l2)] := hl
  unfold fX9_speed at h
  refine lv_iload_n hx hb dX9_speed_0 rfl (lv_at hl 1 rfl) ?_
  refine lv_iconst (v := 1) hx hb dX9_speed_1 (by decide) ?_
  refine lv_bipush (v := 100) hx hb dX9_speed_2 (by decide) ?_
  obtain ⟨r1, h2, h⟩ := ob h
  refine xr_S (As := [.int l1, .int 1, .int 100]) (rest := []) C0 W0 (ctX9_isWithin l G h2) mc_X9_isWithin ms_X9_isWithin ml_X9_95 ⟨by decide, by decide⟩ rfl hl.1 rfl (Nat.le_of_ble_eq_true rfl) ⟨by decide, by decide⟩ dX9_speed_4 (fun H locs W0 => ?_)
  refine W.cs (cells' := 0) (slots' := 0) rfl rfl ?_
  refine W.eq (g2 := F0 m 7 ls [.int r1.1]) rfl ?_
  refine lv_if_eq (tgt := 20) hx hb dX9_speed_7 (by decide) (fun hcq => ?_) (fun hcq => ?_)
  · have h := it_t hcq h
    refine lv_iconst (v := 0) hx hb dX9_speed_20 (by decide) ?_
    exact xr_zret C0 W0 hret (by decide) (Option.some.inj h) dX9_speed_21
  · have h := it_f hcq h
    refine lv_iload_n hx hb dX9_speed_10 rfl (lv_at hl 2 rfl) ?_
    refine lv_iconst (v := 1) hx hb dX9_speed_11 (by decide) ?_
    refine lv_bipush (v := 100) hx hb dX9_speed_12 (by decide) ?_
    obtain ⟨r3, h4, h⟩ := ob h
    refine xr_S (As := [.int l2, .int 1, .int 100]) (rest := []) C0 W0 (ctX9_isWithin l G h4) mc_X9_isWithin ms_X9_isWithin ml_X9_95 ⟨by decide, by decide⟩ rfl hl.1 rfl (Nat.le_of_ble_eq_true rfl) ⟨by decide, by decide⟩ dX9_speed_14 (fun H locs W0 => ?_)
    refine W.cs (cells' := 0) (slots' := 0) rfl rfl ?_
    refine W.eq (g2 := F0 m 17 ls [.int r3.1]) rfl ?_
    refine lv_if_ne (tgt := 22) hx hb dX9_speed_17 (by decide) (fun hcq => ?_) (fun hcq => ?_)
    · have h := it_f hcq h
      refine lv_aload_n hx hb dX9_speed_22 rfl (lv_at hl 0 rfl) ?_
      refine lv_iload_n hx hb dX9_speed_23 rfl (lv_at hl 1 rfl) ?_
      obtain ⟨X5, h6, h⟩ := ob h
      refine xr_putI C0 W0 cl_X9 6 (by decide) fl_X9_34 rfl rfl rfl (by decide) h6 dX9_speed_24 (fun H locs W0 => ?_)
      refine lv_aload_n hx hb dX9_speed_27 rfl (lv_at hl 0 rfl) ?_
      refine lv_iload_n hx hb dX9_speed_28 rfl (lv_at hl 2 rfl) ?_
      obtain ⟨X7, h8, h⟩ := ob h
      refine xr_putI C0 W0 cl_X9 7 (by decide) fl_X9_37 rfl rfl rfl (by decide) h8 dX9_speed_29 (fun H locs W0 => ?_)
      refine lv_aload_n hx hb dX9_speed_32 rfl (lv_at hl 0 rfl) ?_
      obtain ⟨u9, h10, h⟩ := ob h
      obtain ⟨X11, h12, h⟩ := ob h
      refine xr_V (As := []) (rest := []) C0 W0 (ctX9_forgetShapes l G h12) (gK_of h10) (rr := (RX9, TX9, 12)) rfl rfl mc_X9_forgetShapes mv_X9_forgetShapes ml_X9_77 ⟨by decide, by decide⟩ rfl hl.1 rfl (Nat.le_of_ble_eq_true rfl) ⟨by decide, by decide⟩ dX9_speed_33 (fun H locs W0 => ?_)
      refine W.cs (cells' := 0) (slots' := 0) rfl rfl ?_
      refine W.eq (g2 := F0 m 36 ls []) rfl ?_
      refine lv_iconst (v := 1) hx hb dX9_speed_36 (by decide) ?_
      exact xr_zret C0 W0 hret (by decide) (Option.some.inj h) dX9_speed_37
    · have h := it_t hcq h
      refine lv_iconst (v := 0) hx hb dX9_speed_20 (by decide) ?_
      exact xr_zret C0 W0 hret (by decide) (Option.some.inj h) dX9_speed_21
def fX9_prepare (l0 : Nat) (l1 : Nat) (l2 : Int32) (X : XW) : Option (XW) :=
  gI X l1 6 2 >>= fun v1 =>
  if (v1 = l2 : Prop) then (some X)
  else (pI X l1 6 2 l2 >>= fun X3 =>
    gR X3 l0 9 3 >>= fun q5 =>
    gI X3 l0 9 4 >>= fun v7 =>
    aQ X3 q5 4 v7 >>= fun q9 =>
    gR X3 l0 9 0 >>= fun q11 =>
    aQ X3 q11 5 l2 >>= fun q13 =>
    gI X3 l0 9 5 >>= fun v15 =>
    gK X3 l1 6 >>= fun u17 =>
    fX6_layOut l1 q13 v15 X3 >>= fun X19 =>
    gR X19 q9 2 0 >>= fun q21 =>
    gR X19 l0 9 9 >>= fun q23 =>
    gK X19 l1 6 >>= fun u25 =>
    fX6_applyLines l1 q21 q23 X19 >>= fun X27 =>
    gR X27 l0 9 0 >>= fun q29 =>
    aQ X27 q29 5 l2 >>= fun q31 =>
    gK X27 l1 6 >>= fun u33 =>
    fX6_applyMarks l1 q31 X27 >>= fun X35 =>
    gR X35 l0 9 0 >>= fun q37 =>
    aQ X35 q37 5 l2 >>= fun q39 =>
    gK X35 l1 6 >>= fun u41 =>
    fX6_settleHeights l1 q39 q9 X35 >>= fun X43 =>
    gI X43 l0 9 6 >>= fun v45 =>
    gI X43 l0 9 7 >>= fun v47 =>
    gK X43 l1 6 >>= fun u49 =>
    fX6_tellLengths l1 v45 v47 X43 >>= fun X51 =>
    some X51)
theorem ctX9_prepare (l : Launch) (G : XG) {l0 : Nat} {l1 : Nat} {l2 : Int32} {X : XW} {r : XW}  (h : fX9_prepare l0 l1 l2 X = some r) : XM l G yX9_prepare cX9_prepare 4 none 4 240 0 0 [.ref l0, .ref l1, .int l2] X (none, r) := by
  refine xm_of (own := RX9) (by decide) rfl (Nat.le_of_ble_eq_true rfl) ?_
  intro p e s m below meth c ls C0 W0 hret hnm hl
  have hx := C0.1
  have hb := C0.2.1
  have hl : lv_has ls 4 [(0, .ref l0), (1, .ref l1), (2, .int l2)] := hl
  unfold fX9_prepare at h
  refine lv_aload_n hx hb dX9_prepare_0 rfl (lv_at hl 1 rfl) ?_
  obtain ⟨v1, h2, h⟩ := ob h
  refine xr_getI C0 W0 cl_X6 2 (by decide) fl_X9_220 rfl h2 dX9_prepare_1 ?_
  refine lv_iload_n hx hb dX9_prepare_4 rfl (lv_at hl 2 rfl) ?_
  refine lv_icmp_ne (tgt := 9) hx hb dX9_prepare_5 (by decide) (fun hcq => ?_) (fun hcq => ?_)
  · have h := it_f hcq h
    refine lv_aload_n hx hb dX9_prepare_9 rfl (lv_at hl 1 rfl) ?_
    refine lv_iload_n hx hb dX9_prepare_10 rfl (lv_at hl 2 rfl) ?_
    obtain ⟨X3, h4, h⟩ := ob h
    refine xr_putI C0 W0 cl_X6 2 (by decide) fl_X9_220 rfl rfl rfl (by decide) h4 dX9_prepare_11 (fun H locs W0 => ?_)
    refine lv_aload_n hx hb dX9_prepare_14 rfl (lv_at hl 0 rfl) ?_
    obtain ⟨q5, h6, h⟩ := ob h
    refine xr_getR C0 W0 cl_X9 3 (by decide) fl_X9_24 rfl h6 dX9_prepare_15 ?_
    refine lv_aload_n hx hb dX9_prepare_18 rfl (lv_at hl 0 rfl) ?_
    obtain ⟨v7, h8, h⟩ := ob h
    refine xr_getI C0 W0 cl_X9 4 (by decide) fl_X9_28 rfl h8 dX9_prepare_19 ?_
    obtain ⟨q9, h10, h⟩ := ob h
    refine xr_aldq C0 W0 4 (by decide) rfl rfl h10 dX9_prepare_22 ?_
    refine lv_astore_n (lv' := [(3, .ref q9), (0, .ref l0), (1, .ref l1), (2, .int l2)]) hx hb dX9_prepare_23 rfl hl (by decide) rfl (fun ls hl => ?_)
    refine lv_aload_n hx hb dX9_prepare_24 rfl (lv_at hl 2 rfl) ?_
    refine lv_aload_n hx hb dX9_prepare_25 rfl (lv_at hl 1 rfl) ?_
    obtain ⟨q11, h12, h⟩ := ob h
    refine xr_getR C0 W0 cl_X9 0 (by decide) fl_X9_11 rfl h12 dX9_prepare_26 ?_
    refine lv_iload_n hx hb dX9_prepare_29 rfl (lv_at hl 3 rfl) ?_
    obtain ⟨q13, h14, h⟩ := ob h
    refine xr_aldq C0 W0 5 (by decide) rfl rfl h14 dX9_prepare_30 ?_
    refine lv_aload_n hx hb dX9_prepare_31 rfl (lv_at hl 1 rfl) ?_
    obtain ⟨v15, h16, h⟩ := ob h
    refine xr_getI C0 W0 cl_X9 5 (by decide) fl_X9_31 rfl h16 dX9_prepare_32 ?_
    obtain ⟨u17, h18, h⟩ := ob h
    obtain ⟨X19, h20, h⟩ := ob h
    refine xr_V (As := [.ref q13, .int v15]) (rest := []) C0 W0 (ctX6_layOut l G h20) (gK_of h18) (rr := (RX6, TX6, 5)) rfl rfl mc_X6_layOut mv_X6_layOut ml_X9_223 ⟨by decide, by decide⟩ rfl hl.1 rfl (Nat.le_of_ble_eq_true rfl) ⟨by decide, by decide⟩ dX9_prepare_35 (fun H locs W0 => ?_)
    refine W.cs (cells' := 0) (slots' := 0) rfl rfl ?_
    refine W.eq (g2 := F0 m 38 ls []) rfl ?_
    refine lv_aload_n hx hb dX9_prepare_38 rfl (lv_at hl 2 rfl) ?_
    refine lv_aload_n hx hb dX9_prepare_39 rfl (lv_at hl 0 rfl) ?_
    obtain ⟨q21, h22, h⟩ := ob h
    refine xr_getR C0 W0 cl_X2 0 (by decide) fl_X9_130 rfl h22 dX9_prepare_40 ?_
    refine lv_aload_n hx hb dX9_prepare_43 rfl (lv_at hl 1 rfl) ?_
    obtain ⟨q23, h24, h⟩ := ob h
    refine xr_getR C0 W0 cl_X9 9 (by decide) fl_X9_50 rfl h24 dX9_prepare_44 ?_
    obtain ⟨u25, h26, h⟩ := ob h
    obtain ⟨X27, h28, h⟩ := ob h
    refine xr_V (As := [.ref q21, .ref q23]) (rest := []) C0 W0 (ctX6_applyLines l G h28) (gK_of h26) (rr := (RX6, TX6, 5)) rfl rfl mc_X6_applyLines mv_X6_applyLines ml_X9_227 ⟨by decide, by decide⟩ rfl hl.1 rfl (Nat.le_of_ble_eq_true rfl) ⟨by decide, by decide⟩ dX9_prepare_47 (fun H locs W0 => ?_)
    refine W.cs (cells' := 0) (slots' := 0) rfl rfl ?_
    refine W.eq (g2 := F0 m 50 ls []) rfl ?_
    refine lv_aload_n hx hb dX9_prepare_50 rfl (lv_at hl 2 rfl) ?_
    refine lv_aload_n hx hb dX9_prepare_51 rfl (lv_at hl 1 rfl) ?_
    obtain ⟨q29, h30, h⟩ := ob h
    refine xr_getR C0 W0 cl_X9 0 (by decide) fl_X9_11 rfl h30 dX9_prepare_52 ?_
    refine lv_iload_n hx hb dX9_prepare_55 rfl (lv_at hl 3 rfl) ?_
    obtain ⟨q31, h32, h⟩ := ob h
    refine xr_aldq C0 W0 5 (by decide) rfl rfl h32 dX9_prepare_56 ?_
    obtain ⟨u33, h34, h⟩ := ob h
    obtain ⟨X35, h36, h⟩ := ob h
    refine xr_V (As := [.ref q31]) (rest := []) C0 W0 (ctX6_applyMarks l G h36) (gK_of h34) (rr := (RX6, TX6, 5)) rfl rfl mc_X6_applyMarks mv_X6_applyMarks ml_X9_231 ⟨by decide, by decide⟩ rfl hl.1 rfl (Nat.le_of_ble_eq_true rfl) ⟨by decide, by decide⟩ dX9_prepare_57 (fun H locs W0 => ?_)
    refine W.cs (cells' := 0) (slots' := 0) rfl rfl ?_
    refine W.eq (g2 := F0 m 60 ls []) rfl ?_
    refine lv_aload_n hx hb dX9_prepare_60 rfl (lv_at hl 2 rfl) ?_
    refine lv_aload_n hx hb dX9_prepare_61 rfl (lv_at hl 1 rfl) ?_
    obtain ⟨q37, h38, h⟩ := ob h
    refine xr_getR C0 W0 cl_X9 0 (by decide) fl_X9_11 rfl h38 dX9_prepare_62 ?_
    refine lv_iload_n hx hb dX9_prepare_65 rfl (lv_at hl 3 rfl) ?_
    obtain ⟨q39, h40, h⟩ := ob h
    refine xr_aldq C0 W0 5 (by decide) rfl rfl h40 dX9_prepare_66 ?_
    refine lv_aload_n hx hb dX9_prepare_67 rfl (lv_at hl 0 rfl) ?_
    obtain ⟨u41, h42, h⟩ := ob h
    obtain ⟨X43, h44, h⟩ := ob h
    refine xr_V (As := [.ref q39, .ref q9]) (rest := []) C0 W0 (ctX6_settleHeights l G h44) (gK_of h42) (rr := (RX6, TX6, 5)) rfl rfl mc_X6_settleHeights mv_X6_settleHeights ml_X9_234 ⟨by decide, by decide⟩ rfl hl.1 rfl (Nat.le_of_ble_eq_true rfl) ⟨by decide, by decide⟩ dX9_prepare_68 (fun H locs W0 => ?_)
    refine W.cs (cells' := 0) (slots' := 0) rfl rfl ?_
    refine W.eq (g2 := F0 m 71 ls []) rfl ?_
    refine lv_aload_n hx hb dX9_prepare_71 rfl (lv_at hl 2 rfl) ?_
    refine lv_aload_n hx hb dX9_prepare_72 rfl (lv_at hl 1 rfl) ?_
    obtain ⟨v45, h46, h⟩ := ob h
    refine xr_getI C0 W0 cl_X9 6 (by decide) fl_X9_34 rfl h46 dX9_prepare_73 ?_
    refine lv_aload_n hx hb dX9_prepare_76 rfl (lv_at hl 1 rfl) ?_
    obtain ⟨v47, h48, h⟩ := ob h
    refine xr_getI C0 W0 cl_X9 7 (by decide) fl_X9_37 rfl h48 dX9_prepare_77 ?_
    obtain ⟨u49, h50, h⟩ := ob h
    obtain ⟨X51, h52, h⟩ := ob h
    refine xr_V (As := [.int v45, .int v47]) (rest := []) C0 W0 (ctX6_tellLengths l G h52) (gK_of h50) (rr := (RX6, TX6, 5)) rfl rfl mc_X6_tellLengths mv_X6_tellLengths ml_X9_238 ⟨by decide, by decide⟩ rfl hl.1 rfl (Nat.le_of_ble_eq_true rfl) ⟨by decide, by decide⟩ dX9_prepare_80 (fun H locs W0 => ?_)
    refine W.cs (cells' := 0) (slots' := 0) rfl rfl ?_
    refine W.eq (g2 := F0 m 83 ls []) rfl ?_
    exact xr_vret C0 W0 hret (Option.some.inj h).symm dX9_prepare_83
  · have h := it_t hcq h
    exact xr_vret C0 W0 hret (Option.some.inj h).symm dX9_prepare_8
