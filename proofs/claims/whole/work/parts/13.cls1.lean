def fX8_cutOne_j118  (l2 : Int32) (X : XW) : Option (Int32 × XW) :=
  some ((l2 + 1), X)
def fX8_cutOne_j114  (l2 : Int32) (s0 : Int32) (s1 : Nat) (X : XW) : Option (Int32 × XW) :=
  gK X s1 8 >>= fun u1 =>
  fX8_addToken s1 s0 l2 X >>= fun X3 =>
  fX8_cutOne_j118 l2 X3
def fX8_cutOne (l0 : Nat) (l1 : Nat) (l2 : Int32) (X : XW) : Option (Int32 × XW) :=
  gR X l1 7 0 >>= fun q1 =>
  aI X q1 0 l2 >>= fun v3 =>
  fX8_isLetter v3 X >>= fun r5 =>
  if (r5.1 = 0 : Prop) then (fX9_isWithin v3 48 57 r5.2 >>= fun r7 =>
    if (r7.1 = 0 : Prop) then (if (v3 = 10 : Prop) then (fX8_cutOne_j118 l2 r7.2)
      else (if (v3 = 32 : Prop) then (fX8_cutOne_j118 l2 r7.2)
        else (fJ0_indexOf_0f7a4_s1 (((v3).toUInt32 % 65536).toInt32) r7.2 >>= fun r9 =>
          if (0 ≤ r9.1 : Prop) then (fX8_cutOne_j114 l2 (17 + r9.1) l0 r9.2)
          else (fX8_cutOne_j114 l2 25 l0 r9.2))))
    else (fX8_endOfRun l1 l2 48 57 r7.2 >>= fun r11 =>
      fX8_numberAt l1 l2 r11.1 r11.2 >>= fun r13 =>
      gK r13.2 l0 8 >>= fun u15 =>
      fX8_addToken l0 r13.1 l2 r13.2 >>= fun X17 =>
      some (r11.1, X17)))
  else (fX8_endOfRun l1 l2 97 122 r5.2 >>= fun r19 =>
    fX8_nameAt l1 l2 r19.1 r19.2 >>= fun r21 =>
    gK r21.2 l0 8 >>= fun u23 =>
    fX8_addToken l0 r21.1 l2 r21.2 >>= fun X25 =>
    some (r19.1, X25))
theorem tX8_cutOne_j118 {p : Program} {l : Launch} {e : Env} {s : State} {m : MethodId} {args : Array Value} {below : List Frame} {meth : Method} {c : Code} {G : XG} {X0 : XW} (C0 : XC p s m args meth c RX8 cX8_cutOne 5 G) (hret : meth.sig.returnType = (some .int)) {r : Int32 × XW} {l2 : Int32} {X : XW} {H : Heap} {locs : List Loc} {ls : Array Slot} (W0 : XD G X0 X s H locs) (hl : lv_has ls 5 [(2, .int l2)]) (h : fX8_cutOne_j118 l2 X = some r) : W p l e { frames := 6, cells := 0, slots := 0, locals := 360 } s m args below meth c H locs 0 0 (MQ below (XQ G X0 (some (.int r.1), r.2)) args s 0 0 (xAd X0)) (F0 m 118 ls []) := by
  have hx := C0.1
  have hb := C0.2.1
  unfold fX8_cutOne_j118 at h
  refine lv_iload_n hx hb dX8_cutOne_118 rfl (lv_at hl 0 rfl) ?_
  refine lv_iconst (v := 1) hx hb dX8_cutOne_119 (by decide) ?_
  refine lv_iadd hx hb dX8_cutOne_120 ?_
  exact xr_iret C0 W0 hret (Option.some.inj h) dX8_cutOne_121
theorem tX8_cutOne_j114 {p : Program} {l : Launch} {e : Env} {s : State} {m : MethodId} {args : Array Value} {below : List Frame} {meth : Method} {c : Code} {G : XG} {X0 : XW} (C0 : XC p s m args meth c RX8 cX8_cutOne 5 G) (hret : meth.sig.returnType = (some .int)) {r : Int32 × XW} {l2 : Int32} {s0 : Int32} {s1 : Nat} {X : XW} {H : Heap} {locs : List Loc} {ls : Array Slot} (W0 : XD G X0 X s H locs) (hl : lv_has ls 5 [(2, .int l2)]) (h : fX8_cutOne_j114 l2 s0 s1 X = some r) : W p l e { frames := 6, cells := 0, slots := 0, locals := 360 } s m args below meth c H locs 0 0 (MQ below (XQ G X0 (some (.int r.1), r.2)) args s 0 0 (xAd X0)) (F0 m 114 ls [.int s0, .ref s1]) := by
  have hx := C0.1
  have hb := C0.2.1
  unfold fX8_cutOne_j114 at h
  refine lv_iload_n hx hb dX8_cutOne_114 rfl (lv_at hl 0 rfl) ?_
  obtain ⟨u1, h2, h⟩ := ob h
  obtain ⟨X3, h4, h⟩ := ob h
  refine xr_V (As := [.int s0, .int l2]) (rest := []) C0 W0 (ctX8_addToken l G h4) (gK_of h2) (rr := (RX8, TX8, 3)) rfl rfl mc_X8_addToken mv_X8_addToken ml_X8_37 ⟨by decide, by decide⟩ rfl hl.1 rfl (Nat.le_of_ble_eq_true rfl) ⟨by decide, by decide⟩ dX8_cutOne_115 (fun H locs W0 => ?_)
  refine W.cs (cells' := 0) (slots' := 0) rfl rfl ?_
  refine W.eq (g2 := F0 m 118 ls []) rfl ?_
  exact tX8_cutOne_j118 C0 hret W0 (lv_sub hl [0] rfl) h
theorem ctX8_cutOne (l : Launch) (G : XG) {l0 : Nat} {l1 : Nat} {l2 : Int32} {X : XW} {r : Int32 × XW}  (h : fX8_cutOne l0 l1 l2 X = some r) : XM l G yX8_cutOne cX8_cutOne 5 (some .int) 6 360 0 0 [.ref l0, .ref l1, .int l2] X (some (.int r.1), r.2) := by
  refine xm_of (own := RX8) (by decide) rfl (Nat.le_of_ble_eq_true rfl) ?_
  intro p e s m below meth c ls C0 W0 hret hnm hl
  have hx := C0.1
  have hb := C0.2.1
  have hl : lv_has ls 5 [(0, .ref l0), (1, .ref l1), (2, .int l2)] := hl
  unfold fX8_cutOne at h
  refine lv_aload_n hx hb dX8_cutOne_0 rfl (lv_at hl 1 rfl) ?_
  obtain ⟨q1, h2, h⟩ := ob h
  refine xr_getR C0 W0 cl_X7 0 (by decide) fl_X8_41 rfl h2 dX8_cutOne_1 ?_
  refine lv_iload_n hx hb dX8_cutOne_4 rfl (lv_at hl 2 rfl) ?_
  obtain ⟨v3, h4, h⟩ := ob h
  refine xr_bald C0 W0 h4 dX8_cutOne_5 ?_
  refine lv_istore_n (lv' := [(3, .int v3), (0, .ref l0), (1, .ref l1), (2, .int l2)]) hx hb dX8_cutOne_6 rfl hl (by decide) rfl (fun ls hl => ?_)
  refine lv_iload_n hx hb dX8_cutOne_7 rfl (lv_at hl 0 rfl) ?_
  obtain ⟨r5, h6, h⟩ := ob h
  refine xr_S (As := [.int v3]) (rest := []) C0 W0 (ctX8_isLetter l G h6) mc_X8_isLetter ms_X8_isLetter ml_X8_45 ⟨by decide, by decide⟩ rfl hl.1 rfl (Nat.le_of_ble_eq_true rfl) ⟨by decide, by decide⟩ dX8_cutOne_8 (fun H locs W0 => ?_)
  refine W.cs (cells' := 0) (slots' := 0) rfl rfl ?_
  refine W.eq (g2 := F0 m 11 ls [.int r5.1]) rfl ?_
  refine lv_if_eq (tgt := 40) hx hb dX8_cutOne_11 (by decide) (fun hcq => ?_) (fun hcq => ?_)
  · have h := it_t hcq h
    refine lv_iload_n hx hb dX8_cutOne_40 rfl (lv_at hl 0 rfl) ?_
    refine lv_bipush (v := 48) hx hb dX8_cutOne_41 (by decide) ?_
    refine lv_bipush (v := 57) hx hb dX8_cutOne_43 (by decide) ?_
    obtain ⟨r7, h8, h⟩ := ob h
    refine xr_SN (As := [.int v3, .int 48, .int 57]) (rest := []) C0 W0 (ctX9_isWithin l G h8) mc_X9_isWithin ms_X9_isWithin (xnw_434 C0.2.2.2.2.2.1.2) ⟨by decide, by decide⟩ rfl hl.1 rfl (Nat.le_of_ble_eq_true rfl) ⟨by decide, by decide⟩ dX8_cutOne_45 (fun H locs W0 => ?_)
    refine W.cs (cells' := 0) (slots' := 0) rfl rfl ?_
    refine W.eq (g2 := F0 m 48 ls [.int r7.1]) rfl ?_
    refine lv_if_eq (tgt := 77) hx hb dX8_cutOne_48 (by decide) (fun hcq => ?_) (fun hcq => ?_)
    · have h := it_t hcq h
      refine lv_iload_n hx hb dX8_cutOne_77 rfl (lv_at hl 0 rfl) ?_
      refine lv_bipush (v := 10) hx hb dX8_cutOne_78 (by decide) ?_
      refine lv_icmp_eq (tgt := 118) hx hb dX8_cutOne_80 (by decide) (fun hcq => ?_) (fun hcq => ?_)
      · have h := it_t hcq h
        exact tX8_cutOne_j118 C0 hret W0 (lv_sub hl [3] rfl) h
      · have h := it_f hcq h
        refine lv_iload_n hx hb dX8_cutOne_83 rfl (lv_at hl 0 rfl) ?_
        refine lv_bipush (v := 32) hx hb dX8_cutOne_84 (by decide) ?_
        refine lv_icmp_eq (tgt := 118) hx hb dX8_cutOne_86 (by decide) (fun hcq => ?_) (fun hcq => ?_)
        · have h := it_t hcq h
          exact tX8_cutOne_j118 C0 hret W0 (lv_sub hl [3] rfl) h
        · have h := it_f hcq h
          refine xr_ldcS C0 W0.2.2.2.2.2.2.2.1 dX8_cutOne_89 ?_
          refine lv_iload_n hx hb dX8_cutOne_91 rfl (lv_at hl 0 rfl) ?_
          refine lv_i2c (v := (((v3).toUInt32 % 65536).toInt32)) hx hb dX8_cutOne_92 rfl ?_
          obtain ⟨r9, h10, h⟩ := ob h
          refine xr_VT (As := [.int (((v3).toUInt32 % 65536).toInt32)]) (rest := []) C0 W0 (ctJ0_indexOf_0f7a4_s1 l G h10) (by decide) rfl mc_J0_indexOf_0f7a4 mv_J0_indexOf_0f7a4 ml_X8_66 ⟨by decide, by decide⟩ rfl hl.1 rfl (Nat.le_of_ble_eq_true rfl) ⟨by decide, by decide⟩ dX8_cutOne_93 (fun H locs W0 => ?_)
          refine W.cs (cells' := 0) (slots' := 0) rfl rfl ?_
          refine W.eq (g2 := F0 m 96 ls [.int r9.1]) rfl ?_
          refine lv_istore (lv' := [(4, .int r9.1), (3, .int v3), (0, .ref l0), (1, .ref l1), (2, .int l2)]) hx hb dX8_cutOne_96 hl (by decide) rfl (fun ls hl => ?_)
          refine lv_aload_n hx hb dX8_cutOne_98 rfl (lv_at hl 2 rfl) ?_
          refine lv_iload hx hb dX8_cutOne_99 (lv_at hl 0 rfl) ?_
          refine lv_if_ge (tgt := 109) hx hb dX8_cutOne_101 (by decide) (fun hcq => ?_) (fun hcq => ?_)
          · have h := it_t hcq h
            refine lv_bipush (v := 17) hx hb dX8_cutOne_109 (by decide) ?_
            refine lv_iload hx hb dX8_cutOne_111 (lv_at hl 0 rfl) ?_
            refine lv_iadd hx hb dX8_cutOne_113 ?_
            exact tX8_cutOne_j114 C0 hret W0 (lv_sub hl [4] rfl) h
          · have h := it_f hcq h
            refine lv_bipush (v := 25) hx hb dX8_cutOne_104 (by decide) ?_
            refine lv_goto (tgt := 114) hx hb dX8_cutOne_106 (by decide) ?_
            exact tX8_cutOne_j114 C0 hret W0 (lv_sub hl [4] rfl) h
    · have h := it_f hcq h
      refine lv_aload_n hx hb dX8_cutOne_51 rfl (lv_at hl 2 rfl) ?_
      refine lv_iload_n hx hb dX8_cutOne_52 rfl (lv_at hl 3 rfl) ?_
      refine lv_bipush (v := 48) hx hb dX8_cutOne_53 (by decide) ?_
      refine lv_bipush (v := 57) hx hb dX8_cutOne_55 (by decide) ?_
      obtain ⟨r11, h12, h⟩ := ob h
      refine xr_S (As := [.ref l1, .int l2, .int 48, .int 57]) (rest := []) C0 W0 (ctX8_endOfRun l G h12) mc_X8_endOfRun ms_X8_endOfRun ml_X8_49 ⟨by decide, by decide⟩ rfl hl.1 rfl (Nat.le_of_ble_eq_true rfl) ⟨by decide, by decide⟩ dX8_cutOne_57 (fun H locs W0 => ?_)
      refine W.cs (cells' := 0) (slots' := 0) rfl rfl ?_
      refine W.eq (g2 := F0 m 60 ls [.int r11.1]) rfl ?_
      refine lv_istore (lv' := [(4, .int r11.1), (3, .int v3), (0, .ref l0), (1, .ref l1), (2, .int l2)]) hx hb dX8_cutOne_60 hl (by decide) rfl (fun ls hl => ?_)
      refine lv_aload_n hx hb dX8_cutOne_62 rfl (lv_at hl 2 rfl) ?_
      refine lv_aload_n hx hb dX8_cutOne_63 rfl (lv_at hl 3 rfl) ?_
      refine lv_iload_n hx hb dX8_cutOne_64 rfl (lv_at hl 4 rfl) ?_
      refine lv_iload hx hb dX8_cutOne_65 (lv_at hl 0 rfl) ?_
      obtain ⟨r13, h14, h⟩ := ob h
      refine xr_S (As := [.ref l1, .int l2, .int r11.1]) (rest := [.ref l0]) C0 W0 (ctX8_numberAt l G h14) mc_X8_numberAt ms_X8_numberAt ml_X8_61 ⟨by decide, by decide⟩ rfl hl.1 rfl (Nat.le_of_ble_eq_true rfl) ⟨by decide, by decide⟩ dX8_cutOne_67 (fun H locs W0 => ?_)
      refine W.cs (cells' := 0) (slots' := 0) rfl rfl ?_
      refine W.eq (g2 := F0 m 70 ls [.int r13.1, .ref l0]) rfl ?_
      refine lv_iload_n hx hb dX8_cutOne_70 rfl (lv_at hl 4 rfl) ?_
      obtain ⟨u15, h16, h⟩ := ob h
      obtain ⟨X17, h18, h⟩ := ob h
      refine xr_V (As := [.int r13.1, .int l2]) (rest := []) C0 W0 (ctX8_addToken l G h18) (gK_of h16) (rr := (RX8, TX8, 3)) rfl rfl mc_X8_addToken mv_X8_addToken ml_X8_37 ⟨by decide, by decide⟩ rfl hl.1 rfl (Nat.le_of_ble_eq_true rfl) ⟨by decide, by decide⟩ dX8_cutOne_71 (fun H locs W0 => ?_)
      refine W.cs (cells' := 0) (slots' := 0) rfl rfl ?_
      refine W.eq (g2 := F0 m 74 ls []) rfl ?_
      refine lv_iload hx hb dX8_cutOne_74 (lv_at hl 0 rfl) ?_
      exact xr_iret C0 W0 hret (Option.some.inj h) dX8_cutOne_76
  · have h := it_f hcq h
    refine lv_aload_n hx hb dX8_cutOne_14 rfl (lv_at hl 2 rfl) ?_
    refine lv_iload_n hx hb dX8_cutOne_15 rfl (lv_at hl 3 rfl) ?_
    refine lv_bipush (v := 97) hx hb dX8_cutOne_16 (by decide) ?_
    refine lv_bipush (v := 122) hx hb dX8_cutOne_18 (by decide) ?_
    obtain ⟨r19, h20, h⟩ := ob h
    refine xr_S (As := [.ref l1, .int l2, .int 97, .int 122]) (rest := []) C0 W0 (ctX8_endOfRun l G h20) mc_X8_endOfRun ms_X8_endOfRun ml_X8_49 ⟨by decide, by decide⟩ rfl hl.1 rfl (Nat.le_of_ble_eq_true rfl) ⟨by decide, by decide⟩ dX8_cutOne_20 (fun H locs W0 => ?_)
    refine W.cs (cells' := 0) (slots' := 0) rfl rfl ?_
    refine W.eq (g2 := F0 m 23 ls [.int r19.1]) rfl ?_
    refine lv_istore (lv' := [(4, .int r19.1), (3, .int v3), (0, .ref l0), (1, .ref l1), (2, .int l2)]) hx hb dX8_cutOne_23 hl (by decide) rfl (fun ls hl => ?_)
    refine lv_aload_n hx hb dX8_cutOne_25 rfl (lv_at hl 2 rfl) ?_
    refine lv_aload_n hx hb dX8_cutOne_26 rfl (lv_at hl 3 rfl) ?_
    refine lv_iload_n hx hb dX8_cutOne_27 rfl (lv_at hl 4 rfl) ?_
    refine lv_iload hx hb dX8_cutOne_28 (lv_at hl 0 rfl) ?_
    obtain ⟨r21, h22, h⟩ := ob h
    refine xr_S (As := [.ref l1, .int l2, .int r19.1]) (rest := [.ref l0]) C0 W0 (ctX8_nameAt l G h22) mc_X8_nameAt ms_X8_nameAt ml_X8_53 ⟨by decide, by decide⟩ rfl hl.1 rfl (Nat.le_of_ble_eq_true rfl) ⟨by decide, by decide⟩ dX8_cutOne_30 (fun H locs W0 => ?_)
    refine W.cs (cells' := 0) (slots' := 0) rfl rfl ?_
    refine W.eq (g2 := F0 m 33 ls [.int r21.1, .ref l0]) rfl ?_
    refine lv_iload_n hx hb dX8_cutOne_33 rfl (lv_at hl 4 rfl) ?_
    obtain ⟨u23, h24, h⟩ := ob h
    obtain ⟨X25, h26, h⟩ := ob h
    refine xr_V (As := [.int r21.1, .int l2]) (rest := []) C0 W0 (ctX8_addToken l G h26) (gK_of h24) (rr := (RX8, TX8, 3)) rfl rfl mc_X8_addToken mv_X8_addToken ml_X8_37 ⟨by decide, by decide⟩ rfl hl.1 rfl (Nat.le_of_ble_eq_true rfl) ⟨by decide, by decide⟩ dX8_cutOne_34 (fun H locs W0 => ?_)
    refine W.cs (cells' := 0) (slots' := 0) rfl rfl ?_
    refine W.eq (g2 := F0 m 37 ls []) rfl ?_
    refine lv_iload hx hb dX8_cutOne_37 (lv_at hl 0 rfl) ?_
    exact xr_iret C0 W0 hret (Option.some.inj h) dX8_cutOne_39
def fX8_cutText_l7_b (rec : Int32 → XW → Option (XW)) (l0 : Nat) (l1 : Nat) (l2 : Int32) (X : XW) : Option (XW) :=
  gI X l1 7 1 >>= fun v1 =>
  if (v1 ≤ l2 : Prop) then (some (X))
  else (gK X l0 8 >>= fun u3 =>
    fX8_cutOne l0 l1 l2 X >>= fun r5 =>
    rec (iMx (l2 + 1) r5.1) r5.2)
def fX8_cutText_l7 (l0 : Nat) (l1 : Nat) (n : Nat) : Int32 → XW → Option (XW) := iter (fun rec => fX8_cutText_l7_b rec l0 l1) (fun _ _ => none) n
def fX8_cutText (l0 : Nat) (l1 : Nat) (X : XW) : Option (XW) :=
  pI X l0 8 2 0 >>= fun X1 =>
  fX8_cutText_l7 l0 l1 FU 0 X1 >>= fun r3 =>
  gI r3 l1 7 1 >>= fun v5 =>
  gK r3 l0 8 >>= fun u7 =>
  fX8_addToken l0 24 v5 r3 >>= fun X9 =>
  some X9
theorem tX8_cutText_l7_b {p : Program} {l : Launch} {e : Env} {s : State} {m : MethodId} {args : Array Value} {below : List Frame} {meth : Method} {c : Code} {G : XG} {X0 : XW} (C0 : XC p s m args meth c RX8 cX8_cutText 3 G) (hret : meth.sig.returnType = none) {r : XW} {l0 : Nat} {l1 : Nat} {Q : State → Prop} {rec : Int32 → XW → Option (XW)} (hrec : ∀ {y2 : Int32} {X : XW} {H : Heap} {locs : List Loc} {ls : Array Slot}, XD G X0 X s H locs → lv_has ls 3 [(0, .ref l0), (1, .ref l1), (2, .int y2)] → rec y2 X = some r → W p l e { frames := 7, cells := 0, slots := 0, locals := 420 } s m args below meth c H locs 0 0 Q (F0 m 7 ls [])) (hK : ∀ {H : Heap} {locs : List Loc} {ls : Array Slot}, XD G X0 r s H locs → lv_has ls 3 [(0, .ref l0), (1, .ref l1)] → W p l e { frames := 7, cells := 0, slots := 0, locals := 420 } s m args below meth c H locs 0 0 Q (F0 m 31 ls []))  {l2 : Int32} {X : XW} {H : Heap} {locs : List Loc} {ls : Array Slot} (W0 : XD G X0 X s H locs) (hl : lv_has ls 3 [(0, .ref l0), (1, .ref l1), (2, .int l2)]) (h : fX8_cutText_l7_b rec l0 l1 l2 X = some r) : W p l e { frames := 7, cells := 0, slots := 0, locals := 420 } s m args below meth c H locs 0 0 Q (F0 m 7 ls []) := by
  have hx := C0.1
  have hb := C0.2.1
  unfold fX8_cutText_l7_b at h
  refine lv_iload_n hx hb dX8_cutText_7 rfl (lv_at hl 2 rfl) ?_
  refine lv_aload_n hx hb dX8_cutText_8 rfl (lv_at hl 1 rfl) ?_
  obtain ⟨v1, h2, h⟩ := ob h
  refine xr_getI C0 W0 cl_X7 1 (by decide) fl_X8_28 rfl h2 dX8_cutText_9 ?_
  refine lv_icmp_ge (tgt := 31) hx hb dX8_cutText_12 (by decide) (fun hcq => ?_) (fun hcq => ?_)
  · have h := it_t hcq h
    cases h
    exact hK W0 (lv_sub hl [0, 1] rfl)
  · have h := it_f hcq h
    refine lv_iload_n hx hb dX8_cutText_15 rfl (lv_at hl 2 rfl) ?_
    refine lv_iconst (v := 1) hx hb dX8_cutText_16 (by decide) ?_
    refine lv_iadd hx hb dX8_cutText_17 ?_
    refine lv_aload_n hx hb dX8_cutText_18 rfl (lv_at hl 0 rfl) ?_
    refine lv_aload_n hx hb dX8_cutText_19 rfl (lv_at hl 1 rfl) ?_
    refine lv_iload_n hx hb dX8_cutText_20 rfl (lv_at hl 2 rfl) ?_
    obtain ⟨u3, h4, h⟩ := ob h
    obtain ⟨r5, h6, h⟩ := ob h
    refine xr_V (As := [.ref l1, .int l2]) (rest := [.int (l2 + 1)]) C0 W0 (ctX8_cutOne l G h6) (gK_of h4) (rr := (RX8, TX8, 3)) rfl rfl mc_X8_cutOne mv_X8_cutOne ml_X8_33 ⟨by decide, by decide⟩ rfl hl.1 rfl (Nat.le_of_ble_eq_true rfl) ⟨by decide, by decide⟩ dX8_cutText_21 (fun H locs W0 => ?_)
    refine W.cs (cells' := 0) (slots' := 0) rfl rfl ?_
    refine W.eq (g2 := F0 m 24 ls [.int r5.1, .int (l2 + 1)]) rfl ?_
    refine xr_mmax C0 hl.1 (xws_t 389 (by decide +kernel) rfl) (by decide) (Nat.le_of_ble_eq_true rfl) (Nat.le_of_ble_eq_true rfl) (Nat.le_of_ble_eq_true rfl) dX8_cutText_24 ?_
    refine lv_istore_n (lv' := [(2, .int (iMx (l2 + 1) r5.1)), (0, .ref l0), (1, .ref l1)]) hx hb dX8_cutText_27 rfl hl (by decide) rfl (fun ls hl => ?_)
    refine lv_goto (tgt := 7) hx hb dX8_cutText_28 (by decide) ?_
    exact hrec W0 (lv_sub hl [1, 2, 0] rfl) h
theorem tX8_cutText_l7 {p : Program} {l : Launch} {e : Env} {s : State} {m : MethodId} {args : Array Value} {below : List Frame} {meth : Method} {c : Code} {G : XG} {X0 : XW} (C0 : XC p s m args meth c RX8 cX8_cutText 3 G) (hret : meth.sig.returnType = none) {r : XW} {l0 : Nat} {l1 : Nat} {Q : State → Prop} (hK : ∀ {H : Heap} {locs : List Loc} {ls : Array Slot}, XD G X0 r s H locs → lv_has ls 3 [(0, .ref l0), (1, .ref l1)] → W p l e { frames := 7, cells := 0, slots := 0, locals := 420 } s m args below meth c H locs 0 0 Q (F0 m 31 ls [])) : ∀ (n : Nat) {y2 : Int32} {X : XW} {H : Heap} {locs : List Loc} {ls : Array Slot}, XD G X0 X s H locs → lv_has ls 3 [(0, .ref l0), (1, .ref l1), (2, .int y2)] → fX8_cutText_l7 l0 l1 n y2 X = some r → W p l e { frames := 7, cells := 0, slots := 0, locals := 420 } s m args below meth c H locs 0 0 Q (F0 m 7 ls []) := by
  intro n
  induction n with
  | zero =>
    intro y2 X H locs ls W0 hl h
    cases h
  | succ n ih =>
    intro y2 X H locs ls W0 hl h
    exact tX8_cutText_l7_b C0 hret (rec := fX8_cutText_l7 l0 l1 n) (fun W0 hl h => ih W0 hl h) hK W0 hl h
theorem ctX8_cutText (l : Launch) (G : XG) {l0 : Nat} {l1 : Nat} {X : XW} {r : XW}  (h : fX8_cutText l0 l1 X = some r) : XM l G yX8_cutText cX8_cutText 3 none 7 420 0 0 [.ref l0, .ref l1] X (none, r) := by
  refine xm_of (own := RX8) (by decide) rfl (Nat.le_of_ble_eq_true rfl) ?_
  intro p e s m below meth c ls C0 W0 hret hnm hl
  have hx := C0.1
  have hb := C0.2.1
  have hl : lv_has ls 3 [(0, .ref l0), (1, .ref l1)] := hl
  unfold fX8_cutText at h
  refine lv_aload_n hx hb dX8_cutText_0 rfl (lv_at hl 0 rfl) ?_
  refine lv_iconst (v := 0) hx hb dX8_cutText_1 (by decide) ?_
  obtain ⟨X1, h2, h⟩ := ob h
  refine xr_putI C0 W0 cl_X8 2 (by decide) fl_X8_9 rfl rfl rfl (by decide) h2 dX8_cutText_2 (fun H locs W0 => ?_)
  refine lv_iconst (v := 0) hx hb dX8_cutText_5 (by decide) ?_
  refine lv_istore_n (lv' := [(2, .int 0), (0, .ref l0), (1, .ref l1)]) hx hb dX8_cutText_6 rfl hl (by decide) rfl (fun ls hl => ?_)
  obtain ⟨r3, h4, h⟩ := ob h
  refine tX8_cutText_l7 C0 hret (fun {H} {locs} {ls} W0 hl => ?_) FU W0 (lv_sub hl [1, 2, 0] rfl) h4
  refine lv_aload_n hx hb dX8_cutText_31 rfl (lv_at hl 0 rfl) ?_
  refine lv_bipush (v := 24) hx hb dX8_cutText_32 (by decide) ?_
  refine lv_aload_n hx hb dX8_cutText_34 rfl (lv_at hl 1 rfl) ?_
  obtain ⟨v5, h6, h⟩ := ob h
  refine xr_getI C0 W0 cl_X7 1 (by decide) fl_X8_28 rfl h6 dX8_cutText_35 ?_
  obtain ⟨u7, h8, h⟩ := ob h
  obtain ⟨X9, h10, h⟩ := ob h
  refine xr_V (As := [.int 24, .int v5]) (rest := []) C0 W0 (ctX8_addToken l G h10) (gK_of h8) (rr := (RX8, TX8, 3)) rfl rfl mc_X8_addToken mv_X8_addToken ml_X8_37 ⟨by decide, by decide⟩ rfl hl.1 rfl (Nat.le_of_ble_eq_true rfl) ⟨by decide, by decide⟩ dX8_cutText_38 (fun H locs W0 => ?_)
  refine W.cs (cells' := 0) (slots' := 0) rfl rfl ?_
  refine W.eq (g2 := F0 m 41 ls []) rfl ?_
  exact xr_vret C0 W0 hret (Option.some.inj h).symm dX8_cutText_41
def fX1_refuse (l0 : Nat) (l1 : Int32) (X : XW) : Option (Int32 × XW) :=
  gR X l0 1 1 >>= fun q1 =>
  gR X q1 8 1 >>= fun q3 =>
  gI X l0 1 2 >>= fun v5 =>
  aI X q3 1 v5 >>= fun v7 =>
  pI X l0 1 4 (l1 + (16 * v7)) >>= fun X9 =>
  some (0, X9)
theorem ctX1_refuse (l : Launch) (G : XG) {l0 : Nat} {l1 : Int32} {X : XW} {r : Int32 × XW}  (h : fX1_refuse l0 l1 X = some r) : XM l G yX1_refuse cX1_refuse 2 (some .boolean) 0 0 0 0 [.ref l0, .int l1] X (some (.int r.1), r.2) := by
  refine xm_of (own := RX1) (by decide) rfl (Nat.le_of_ble_eq_true rfl) ?_
  intro p e s m below meth c ls C0 W0 hret hnm hl
  have hx := C0.1
  have hb := C0.2.1
  have hl : lv_has ls 2 [(0, .ref l0), (1, .int l1)] := hl
  unfold fX1_refuse at h
  refine lv_aload_n hx hb dX1_refuse_0 rfl (lv_at hl 0 rfl) ?_
  refine lv_iload_n hx hb dX1_refuse_1 rfl (lv_at hl 1 rfl) ?_
  refine lv_bipush (v := 16) hx hb dX1_refuse_2 (by decide) ?_
  refine lv_aload_n hx hb dX1_refuse_4 rfl (lv_at hl 0 rfl) ?_
  obtain ⟨q1, h2, h⟩ := ob h
  refine xr_getR C0 W0 cl_X1 1 (by decide) fl_X1_33 rfl h2 dX1_refuse_5 ?_
  obtain ⟨q3, h4, h⟩ := ob h
  refine xr_getR C0 W0 cl_X8 1 (by decide) fl_X1_49 rfl h4 dX1_refuse_8 ?_
  refine lv_aload_n hx hb dX1_refuse_11 rfl (lv_at hl 0 rfl) ?_
  obtain ⟨v5, h6, h⟩ := ob h
  refine xr_getI C0 W0 cl_X1 2 (by decide) fl_X1_9 rfl h6 dX1_refuse_12 ?_
  obtain ⟨v7, h8, h⟩ := ob h
  refine xr_iald C0 W0 h8 dX1_refuse_15 ?_
  refine lv_imul hx hb dX1_refuse_16 ?_
  refine lv_iadd hx hb dX1_refuse_17 ?_
  obtain ⟨X9, h10, h⟩ := ob h
  refine xr_putI C0 W0 cl_X1 4 (by decide) fl_X1_18 rfl rfl rfl (by decide) h10 dX1_refuse_18 (fun H locs W0 => ?_)
  refine lv_iconst (v := 0) hx hb dX1_refuse_21 (by decide) ?_
  exact xr_zret C0 W0 hret (by decide) (Option.some.inj h) dX1_refuse_22
def fX1_goOn (l0 : Nat) (X : XW) : Option (XW) :=
  gI X l0 1 3 >>= fun v1 =>
  if (v1 = 24 : Prop) then (some X)
  else (gI X l0 1 2 >>= fun v3 =>
    gR X l0 1 1 >>= fun q5 =>
    gR X q5 8 0 >>= fun q7 =>
    aE X q7 1 >>= fun v9 =>
    if (v9 ≤ (v3 + 1) : Prop) then (some X)
    else (gI X l0 1 2 >>= fun v11 =>
      pI X l0 1 2 (v11 + 1) >>= fun X13 =>
      gR X13 l0 1 1 >>= fun q15 =>
      gR X13 q15 8 0 >>= fun q17 =>
      gI X13 l0 1 2 >>= fun v19 =>
      aI X13 q17 1 v19 >>= fun v21 =>
      pI X13 l0 1 3 v21 >>= fun X23 =>
      some X23))
theorem ctX1_goOn (l : Launch) (G : XG) {l0 : Nat} {X : XW} {r : XW}  (h : fX1_goOn l0 X = some r) : XM l G yX1_goOn cX1_goOn 1 none 0 0 0 0 [.ref l0] X (none, r) := by
  refine xm_of (own := RX1) (by decide) rfl (Nat.le_of_ble_eq_true rfl) ?_
  intro p e s m below meth c ls C0 W0 hret hnm hl
  have hx := C0.1
  have hb := C0.2.1
  have hl : lv_has ls 1 [(0, .ref l0)] := hl
  unfold fX1_goOn at h
  refine lv_aload_n hx hb dX1_goOn_0 rfl (lv_at hl 0 rfl) ?_
  obtain ⟨v1, h2, h⟩ := ob h
  refine xr_getI C0 W0 cl_X1 3 (by decide) fl_X1_15 rfl h2 dX1_goOn_1 ?_
  refine lv_bipush (v := 24) hx hb dX1_goOn_4 (by decide) ?_
  refine lv_icmp_eq (tgt := 52) hx hb dX1_goOn_6 (by decide) (fun hcq => ?_) (fun hcq => ?_)
  · have h := it_t hcq h
    exact xr_vret C0 W0 hret (Option.some.inj h).symm dX1_goOn_52
  · have h := it_f hcq h
    refine lv_aload_n hx hb dX1_goOn_9 rfl (lv_at hl 0 rfl) ?_
    obtain ⟨v3, h4, h⟩ := ob h
    refine xr_getI C0 W0 cl_X1 2 (by decide) fl_X1_9 rfl h4 dX1_goOn_10 ?_
    refine lv_iconst (v := 1) hx hb dX1_goOn_13 (by decide) ?_
    refine lv_iadd hx hb dX1_goOn_14 ?_
    refine lv_aload_n hx hb dX1_goOn_15 rfl (lv_at hl 0 rfl) ?_
    obtain ⟨q5, h6, h⟩ := ob h
    refine xr_getR C0 W0 cl_X1 1 (by decide) fl_X1_33 rfl h6 dX1_goOn_16 ?_
    obtain ⟨q7, h8, h⟩ := ob h
    refine xr_getR C0 W0 cl_X8 0 (by decide) fl_X1_41 rfl h8 dX1_goOn_19 ?_
    obtain ⟨v9, h10, h⟩ := ob h
    refine xr_alen C0 W0 1 rfl h10 dX1_goOn_22 ?_
    refine lv_icmp_ge (tgt := 52) hx hb dX1_goOn_23 (by decide) (fun hcq => ?_) (fun hcq => ?_)
    · have h := it_t hcq h
      exact xr_vret C0 W0 hret (Option.some.inj h).symm dX1_goOn_52
    · have h := it_f hcq h
      refine lv_aload_n hx hb dX1_goOn_26 rfl (lv_at hl 0 rfl) ?_
      refine lv_dup hx hb dX1_goOn_27 rfl ?_
      obtain ⟨v11, h12, h⟩ := ob h
      refine xr_getI C0 W0 cl_X1 2 (by decide) fl_X1_9 rfl h12 dX1_goOn_28 ?_
      refine lv_iconst (v := 1) hx hb dX1_goOn_31 (by decide) ?_
      refine lv_iadd hx hb dX1_goOn_32 ?_
      obtain ⟨X13, h14, h⟩ := ob h
      refine xr_putI C0 W0 cl_X1 2 (by decide) fl_X1_9 rfl rfl rfl (by decide) h14 dX1_goOn_33 (fun H locs W0 => ?_)
      refine lv_aload_n hx hb dX1_goOn_36 rfl (lv_at hl 0 rfl) ?_
      refine lv_aload_n hx hb dX1_goOn_37 rfl (lv_at hl 0 rfl) ?_
      obtain ⟨q15, h16, h⟩ := ob h
      refine xr_getR C0 W0 cl_X1 1 (by decide) fl_X1_33 rfl h16 dX1_goOn_38 ?_
      obtain ⟨q17, h18, h⟩ := ob h
      refine xr_getR C0 W0 cl_X8 0 (by decide) fl_X1_41 rfl h18 dX1_goOn_41 ?_
      refine lv_aload_n hx hb dX1_goOn_44 rfl (lv_at hl 0 rfl) ?_
      obtain ⟨v19, h20, h⟩ := ob h
      refine xr_getI C0 W0 cl_X1 2 (by decide) fl_X1_9 rfl h20 dX1_goOn_45 ?_
      obtain ⟨v21, h22, h⟩ := ob h
      refine xr_iald C0 W0 h22 dX1_goOn_48 ?_
      obtain ⟨X23, h24, h⟩ := ob h
      refine xr_putI C0 W0 cl_X1 3 (by decide) fl_X1_15 rfl rfl rfl (by decide) h24 dX1_goOn_49 (fun H locs W0 => ?_)
      exact xr_vret C0 W0 hret (Option.some.inj h).symm dX1_goOn_52
def fX5_addNumber (l0 : Nat) (l1 : Int32) (X : XW) : Option (XW) :=
  gI X l0 5 7 >>= fun v1 =>
  gR X l0 5 5 >>= fun q3 =>
  aE X q3 1 >>= fun v5 =>
  if (v5 ≤ v1 : Prop) then (some X)
  else (gR X l0 5 5 >>= fun q7 =>
    gI X l0 5 7 >>= fun v9 =>
    uI X q7 v9 l1 >>= fun X11 =>
    gI X11 l0 5 7 >>= fun v13 =>
    pI X11 l0 5 7 (v13 + 1) >>= fun X15 =>
    some X15)
theorem ctX5_addNumber (l : Launch) (G : XG) {l0 : Nat} {l1 : Int32} {X : XW} {r : XW}  (h : fX5_addNumber l0 l1 X = some r) : XM l G yX5_addNumber cX5_addNumber 2 none 0 0 0 0 [.ref l0, .int l1] X (none, r) := by
  refine xm_of (own := RX5) (by decide) rfl (Nat.le_of_ble_eq_true rfl) ?_
  intro p e s m below meth c ls C0 W0 hret hnm hl
  have hx := C0.1
  have hb := C0.2.1
  have hl : lv_has ls 2 [(0, .ref l0), (1, .int l1)] := hl
  unfold fX5_addNumber at h
  refine lv_aload_n hx hb dX5_addNumber_0 rfl (lv_at hl 0 rfl) ?_
  obtain ⟨v1, h2, h⟩ := ob h
  refine xr_getI C0 W0 cl_X5 7 (by decide) fl_X5_32 rfl h2 dX5_addNumber_1 ?_
  refine lv_aload_n hx hb dX5_addNumber_4 rfl (lv_at hl 0 rfl) ?_
  obtain ⟨q3, h4, h⟩ := ob h
  refine xr_getR C0 W0 cl_X5 5 (by decide) fl_X5_41 rfl h4 dX5_addNumber_5 ?_
  obtain ⟨v5, h6, h⟩ := ob h
  refine xr_alen C0 W0 1 rfl h6 dX5_addNumber_8 ?_
  refine lv_icmp_ge (tgt := 32) hx hb dX5_addNumber_9 (by decide) (fun hcq => ?_) (fun hcq => ?_)
  · have h := it_t hcq h
    exact xr_vret C0 W0 hret (Option.some.inj h).symm dX5_addNumber_32
  · have h := it_f hcq h
    refine lv_aload_n hx hb dX5_addNumber_12 rfl (lv_at hl 0 rfl) ?_
    obtain ⟨q7, h8, h⟩ := ob h
    refine xr_getR C0 W0 cl_X5 5 (by decide) fl_X5_41 rfl h8 dX5_addNumber_13 ?_
    refine lv_aload_n hx hb dX5_addNumber_16 rfl (lv_at hl 0 rfl) ?_
    obtain ⟨v9, h10, h⟩ := ob h
    refine xr_getI C0 W0 cl_X5 7 (by decide) fl_X5_32 rfl h10 dX5_addNumber_17 ?_
    refine lv_iload_n hx hb dX5_addNumber_20 rfl (lv_at hl 1 rfl) ?_
    obtain ⟨X11, h12, h⟩ := ob h
    refine xr_iast C0 W0 h12 dX5_addNumber_21 (fun H locs W0 => ?_)
    refine lv_aload_n hx hb dX5_addNumber_22 rfl (lv_at hl 0 rfl) ?_
    refine lv_dup hx hb dX5_addNumber_23 rfl ?_
    obtain ⟨v13, h14, h⟩ := ob h
    refine xr_getI C0 W0 cl_X5 7 (by decide) fl_X5_32 rfl h14 dX5_addNumber_24 ?_
    refine lv_iconst (v := 1) hx hb dX5_addNumber_27 (by decide) ?_
    refine lv_iadd hx hb dX5_addNumber_28 ?_
    obtain ⟨X15, h16, h⟩ := ob h
    refine xr_putI C0 W0 cl_X5 7 (by decide) fl_X5_32 rfl rfl rfl (by decide) h16 dX5_addNumber_29 (fun H locs W0 => ?_)
    exact xr_vret C0 W0 hret (Option.some.inj h).symm dX5_addNumber_32
def fX5_addSign (l0 : Nat) (l1 : Int32) (X : XW) : Option (XW) :=
  gI X l0 5 7 >>= fun v1 =>
  gR X l0 5 5 >>= fun q3 =>
  aE X q3 1 >>= fun v5 =>
  if (v5 ≤ v1 : Prop) then (some X)
  else (gR X l0 5 5 >>= fun q7 =>
    gI X l0 5 7 >>= fun v9 =>
    uI X q7 v9 ((-1) - l1) >>= fun X11 =>
    gI X11 l0 5 7 >>= fun v13 =>
    pI X11 l0 5 7 (v13 + 1) >>= fun X15 =>
    some X15)
theorem ctX5_addSign (l : Launch) (G : XG) {l0 : Nat} {l1 : Int32} {X : XW} {r : XW}  (h : fX5_addSign l0 l1 X = some r) : XM l G yX5_addSign cX5_addSign 2 none 0 0 0 0 [.ref l0, .int l1] X (none, r) := by
  refine xm_of (own := RX5) (by decide) rfl (Nat.le_of_ble_eq_true rfl) ?_
  intro p e s m below meth c ls C0 W0 hret hnm hl
  have hx := C0.1
  have hb := C0.2.1
  have hl : lv_has ls 2 [(0, .ref l0), (1, .int l1)] := hl
  unfold fX5_addSign at h
  refine lv_aload_n hx hb dX5_addSign_0 rfl (lv_at hl 0 rfl) ?_
  obtain ⟨v1, h2, h⟩ := ob h
  refine xr_getI C0 W0 cl_X5 7 (by decide) fl_X5_32 rfl h2 dX5_addSign_1 ?_
  refine lv_aload_n hx hb dX5_addSign_4 rfl (lv_at hl 0 rfl) ?_
  obtain ⟨q3, h4, h⟩ := ob h
  refine xr_getR C0 W0 cl_X5 5 (by decide) fl_X5_41 rfl h4 dX5_addSign_5 ?_
  obtain ⟨v5, h6, h⟩ := ob h
  refine xr_alen C0 W0 1 rfl h6 dX5_addSign_8 ?_
  refine lv_icmp_ge (tgt := 34) hx hb dX5_addSign_9 (by decide) (fun hcq => ?_) (fun hcq => ?_)
  · have h := it_t hcq h
    exact xr_vret C0 W0 hret (Option.some.inj h).symm dX5_addSign_34
  · have h := it_f hcq h
    refine lv_aload_n hx hb dX5_addSign_12 rfl (lv_at hl 0 rfl) ?_
    obtain ⟨q7, h8, h⟩ := ob h
    refine xr_getR C0 W0 cl_X5 5 (by decide) fl_X5_41 rfl h8 dX5_addSign_13 ?_
    refine lv_aload_n hx hb dX5_addSign_16 rfl (lv_at hl 0 rfl) ?_
    obtain ⟨v9, h10, h⟩ := ob h
    refine xr_getI C0 W0 cl_X5 7 (by decide) fl_X5_32 rfl h10 dX5_addSign_17 ?_
    refine lv_iconst (v := (-1)) hx hb dX5_addSign_20 (by decide) ?_
    refine lv_iload_n hx hb dX5_addSign_21 rfl (lv_at hl 1 rfl) ?_
    refine lv_isub hx hb dX5_addSign_22 ?_
    obtain ⟨X11, h12, h⟩ := ob h
    refine xr_iast C0 W0 h12 dX5_addSign_23 (fun H locs W0 => ?_)
    refine lv_aload_n hx hb dX5_addSign_24 rfl (lv_at hl 0 rfl) ?_
    refine lv_dup hx hb dX5_addSign_25 rfl ?_
    obtain ⟨v13, h14, h⟩ := ob h
    refine xr_getI C0 W0 cl_X5 7 (by decide) fl_X5_32 rfl h14 dX5_addSign_26 ?_
    refine lv_iconst (v := 1) hx hb dX5_addSign_29 (by decide) ?_
    refine lv_iadd hx hb dX5_addSign_30 ?_
    obtain ⟨X15, h16, h⟩ := ob h
    refine xr_putI C0 W0 cl_X5 7 (by decide) fl_X5_32 rfl rfl rfl (by decide) h16 dX5_addSign_31 (fun H locs W0 => ?_)
    exact xr_vret C0 W0 hret (Option.some.inj h).symm dX5_addSign_34
def fX1_readPart_j134 (rA : Nat → Int32 → XW → Option (Int32 × XW))  (l0 : Nat) (X : XW) : Option (Int32 × XW) :=
  gK X l0 1 >>= fun u1 =>
  fX1_goOn l0 X >>= fun X3 =>
  some (1, X3)
def fX1_readPart_j53 (rA : Nat → Int32 → XW → Option (Int32 × XW))  (l0 : Nat) (l1 : Int32) (l2 : Int32) (l3 : Int32) (X : XW) : Option (Int32 × XW) :=
  if (l1 < 5 : Prop) then (if (l2 = 0 : Prop) then (if (l3 = 0 : Prop) then (gK X l0 1 >>= fun u1 =>
        fX1_goOn l0 X >>= fun X3 =>
        gK X3 l0 1 >>= fun u5 =>
        rA l0 (l1 + 1) X3 >>= fun r7 =>
        if (r7.1 = 0 : Prop) then (some (0, r7.2))
        else (gI r7.2 l0 1 3 >>= fun v9 =>
          if (v9 = 18 : Prop) then (fX1_readPart_j134 rA l0 r7.2)
          else (gK r7.2 l0 1 >>= fun u11 =>
            fX1_refuse l0 1 r7.2 >>= fun r13 =>
            zG r13.1 >>= fun u15 =>
            some (r13.1, r13.2))))
      else (gR X l0 1 0 >>= fun q17 =>
        gI X l0 1 3 >>= fun v19 =>
        gK X q17 5 >>= fun u21 =>
        fX5_addSign q17 v19 X >>= fun X23 =>
        fX1_readPart_j134 rA l0 X23))
    else (gR X l0 1 0 >>= fun q25 =>
      gI X l0 1 3 >>= fun v27 =>
      gK X q25 5 >>= fun u29 =>
      fX5_addNumber q25 (v27 - 26) X >>= fun X31 =>
      fX1_readPart_j134 rA l0 X31))
  else (gK X l0 1 >>= fun u33 =>
    fX1_refuse l0 5 X >>= fun r35 =>
    zG r35.1 >>= fun u37 =>
    some (r35.1, r35.2))
def fX1_readPart_j29 (rA : Nat → Int32 → XW → Option (Int32 × XW))  (l0 : Nat) (l1 : Int32) (l2 : Int32) (s0 : Int32) (X : XW) : Option (Int32 × XW) :=
  if (l2 = 0 : Prop) then (if (s0 = 0 : Prop) then (gI X l0 1 3 >>= fun v1 =>
      if (v1 = 17 : Prop) then (fX1_readPart_j53 rA l0 l1 l2 s0 X)
      else (gK X l0 1 >>= fun u3 =>
        fX1_refuse l0 1 X >>= fun r5 =>
        zG r5.1 >>= fun u7 =>
        some (r5.1, r5.2)))
    else (fX1_readPart_j53 rA l0 l1 l2 s0 X))
  else (fX1_readPart_j53 rA l0 l1 l2 s0 X)
def fX1_readPart_j14 (rA : Nat → Int32 → XW → Option (Int32 × XW))  (l0 : Nat) (l1 : Int32) (s0 : Int32) (X : XW) : Option (Int32 × XW) :=
  gI X l0 1 3 >>= fun v1 =>
  if (12 < v1 : Prop) then (fX1_readPart_j29 rA l0 l1 s0 0 X)
  else (fX1_readPart_j29 rA l0 l1 s0 1 X)
def fX1_readPart (rA : Nat → Int32 → XW → Option (Int32 × XW)) (l0 : Nat) (l1 : Int32) (X : XW) : Option (Int32 × XW) :=
  gI X l0 1 3 >>= fun v1 =>
  if (v1 < 26 : Prop) then (fX1_readPart_j14 rA l0 l1 0 X)
  else (fX1_readPart_j14 rA l0 l1 1 X)
theorem tX1_readPart_j134 {p : Program} {l : Launch} {e : Env} {s : State} {m : MethodId} {args : Array Value} {below : List Frame} {meth : Method} {c : Code} {G : XG} {X0 : XW} (C0 : XC p s m args meth c RX1 cX1_readPart 4 G) (hret : meth.sig.returnType = (some .boolean)) {rA : Nat → Int32 → XW → Option (Int32 × XW)} {lv : Nat} (hrA : ∀ {o : Nat} {w : Int32} {X : XW} {r : Int32 × XW}, rA o w X = some r → XM l G yX1_readAll cX1_readAll 4 (some .boolean) (lv + 3) (60 * (lv + 3)) 0 0 [.ref o, .int w] X (some (.int r.1), r.2)) {r : Int32 × XW} {l0 : Nat} {X : XW} {H : Heap} {locs : List Loc} {ls : Array Slot} (W0 : XD G X0 X s H locs) (hl : lv_has ls 4 [(0, .ref l0)]) (h : fX1_readPart_j134 rA l0 X = some r) : W p l e { frames := lv + 4, cells := 0, slots := 0, locals := 60 * (lv + 4) } s m args below meth c H locs 0 0 (MQ below (XQ G X0 (some (.int r.1), r.2)) args s 0 0 (xAd X0)) (F0 m 134 ls []) := by
  have hx := C0.1
  have hb := C0.2.1
  unfold fX1_readPart_j134 at h
  refine lv_aload_n hx hb dX1_readPart_134 rfl (lv_at hl 0 rfl) ?_
  obtain ⟨u1, h2, h⟩ := ob h
  obtain ⟨X3, h4, h⟩ := ob h
  refine xr_V (As := []) (rest := []) C0 W0 (ctX1_goOn l G h4) (gK_of h2) (rr := (RX1, TX1, 5)) rfl rfl mc_X1_goOn mv_X1_goOn ml_X1_59 ⟨by dsimp only; omega, by dsimp only; omega⟩ rfl hl.1 rfl (Nat.le_of_ble_eq_true rfl) ⟨Nat.le_of_ble_eq_true rfl, Nat.le_of_ble_eq_true rfl⟩ dX1_readPart_135 (fun H locs W0 => ?_)
  refine W.cs (cells' := 0) (slots' := 0) rfl rfl ?_
  refine W.eq (g2 := F0 m 138 ls []) rfl ?_
  refine lv_iconst (v := 1) hx hb dX1_readPart_138 (by decide) ?_
  exact xr_zret C0 W0 hret (by decide) (Option.some.inj h) dX1_readPart_139
theorem tX1_readPart_j53 {p : Program} {l : Launch} {e : Env} {s : State} {m : MethodId} {args : Array Value} {below : List Frame} {meth : Method} {c : Code} {G : XG} {X0 : XW} (C0 : XC p s m args meth c RX1 cX1_readPart 4 G) (hret : meth.sig.returnType = (some .boolean)) {rA : Nat → Int32 → XW → Option (Int32 × XW)} {lv : Nat} (hrA : ∀ {o : Nat} {w : Int32} {X : XW} {r : Int32 × XW}, rA o w X = some r → XM l G yX1_readAll cX1_readAll 4 (some .boolean) (lv + 3) (60 * (lv + 3)) 0 0 [.ref o, .int w] X (some (.int r.1), r.2)) {r : Int32 × XW} {l0 : Nat} {l1 : Int32} {l2 : Int32} {l3 : Int32} {X : XW} {H : Heap} {locs : List Loc} {ls : Array Slot} (W0 : XD G X0 X s H locs) (hl : lv_has ls 4 [(0, .ref l0), (1, .int l1), (2, .int l2), (3, .int l3)]) (h : fX1_readPart_j53 rA l0 l1 l2 l3 X = some r) : W p l e { frames := lv + 4, cells := 0, slots := 0, locals := 60 * (lv + 4) } s m args below meth c H locs 0 0 (MQ below (XQ G X0 (some (.int r.1), r.2)) args s 0 0 (xAd X0)) (F0 m 53 ls []) := by
  have hx := C0.1
  have hb := C0.2.1
  unfold fX1_readPart_j53 at h
  refine lv_iload_n hx hb dX1_readPart_53 rfl (lv_at hl 1 rfl) ?_
  refine lv_iconst (v := 5) hx hb dX1_readPart_54 (by decide) ?_
  refine lv_icmp_lt (tgt := 64) hx hb dX1_readPart_55 (by decide) (fun hcq => ?_) (fun hcq => ?_)
  · have h := it_t hcq h
    refine lv_iload_n hx hb dX1_readPart_64 rfl (lv_at hl 2 rfl) ?_
    refine lv_if_eq (tgt := 85) hx hb dX1_readPart_65 (by decide) (fun hcq => ?_) (fun hcq => ?_)
    · have h := it_t hcq h
      refine lv_iload_n hx hb dX1_readPart_85 rfl (lv_at hl 3 rfl) ?_
      refine lv_if_eq (tgt := 103) hx hb dX1_readPart_86 (by decide) (fun hcq => ?_) (fun hcq => ?_)
      · have h := it_t hcq h
        refine lv_aload_n hx hb dX1_readPart_103 rfl (lv_at hl 0 rfl) ?_
        obtain ⟨u1, h2, h⟩ := ob h
        obtain ⟨X3, h4, h⟩ := ob h
        refine xr_V (As := []) (rest := []) C0 W0 (ctX1_goOn l G h4) (gK_of h2) (rr := (RX1, TX1, 5)) rfl rfl mc_X1_goOn mv_X1_goOn ml_X1_59 ⟨by dsimp only; omega, by dsimp only; omega⟩ rfl hl.1 rfl (Nat.le_of_ble_eq_true rfl) ⟨Nat.le_of_ble_eq_true rfl, Nat.le_of_ble_eq_true rfl⟩ dX1_readPart_104 (fun H locs W0 => ?_)
        refine W.cs (cells' := 0) (slots' := 0) rfl rfl ?_
        refine W.eq (g2 := F0 m 107 ls []) rfl ?_
        refine lv_aload_n hx hb dX1_readPart_107 rfl (lv_at hl 0 rfl) ?_
        refine lv_iload_n hx hb dX1_readPart_108 rfl (lv_at hl 1 rfl) ?_
        refine lv_iconst (v := 1) hx hb dX1_readPart_109 (by decide) ?_
        refine lv_iadd hx hb dX1_readPart_110 ?_
        obtain ⟨u5, h6, h⟩ := ob h
        obtain ⟨r7, h8, h⟩ := ob h
        refine xr_V (As := [.int (l1 + 1)]) (rest := []) C0 W0 (hrA h8) (gK_of h6) (rr := (RX1, TX1, 5)) rfl rfl mc_X1_readAll mv_X1_readAll ml_X1_75 ⟨by dsimp only; omega, by dsimp only; omega⟩ rfl hl.1 rfl (Nat.le_of_ble_eq_true rfl) ⟨Nat.le_of_ble_eq_true rfl, Nat.le_of_ble_eq_true rfl⟩ dX1_readPart_111 (fun H locs W0 => ?_)
        refine W.cs (cells' := 0) (slots' := 0) rfl rfl ?_
        refine W.eq (g2 := F0 m 114 ls [.int r7.1]) rfl ?_
        refine lv_if_ne (tgt := 119) hx hb dX1_readPart_114 (by decide) (fun hcq => ?_) (fun hcq => ?_)
        · have h := it_f hcq h
          refine lv_aload_n hx hb dX1_readPart_119 rfl (lv_at hl 0 rfl) ?_
          obtain ⟨v9, h10, h⟩ := ob h
          refine xr_getI C0 W0 cl_X1 3 (by decide) fl_X1_15 rfl h10 dX1_readPart_120 ?_
          refine lv_bipush (v := 18) hx hb dX1_readPart_123 (by decide) ?_
          refine lv_icmp_eq (tgt := 134) hx hb dX1_readPart_125 (by decide) (fun hcq => ?_) (fun hcq => ?_)
          · have h := it_t hcq h
            exact tX1_readPart_j134 C0 hret hrA W0 (lv_sub hl [0] rfl) h
          · have h := it_f hcq h
            refine lv_aload_n hx hb dX1_readPart_128 rfl (lv_at hl 0 rfl) ?_
            refine lv_iconst (v := 1) hx hb dX1_readPart_129 (by decide) ?_
            obtain ⟨u11, h12, h⟩ := ob h
            obtain ⟨r13, h14, h⟩ := ob h
            refine xr_V (As := [.int 1]) (rest := []) C0 W0 (ctX1_refuse l G h14) (gK_of h12) (rr := (RX1, TX1, 5)) rfl rfl mc_X1_refuse mv_X1_refuse ml_X1_52 ⟨by dsimp only; omega, by dsimp only; omega⟩ rfl hl.1 rfl (Nat.le_of_ble_eq_true rfl) ⟨Nat.le_of_ble_eq_true rfl, Nat.le_of_ble_eq_true rfl⟩ dX1_readPart_130 (fun H locs W0 => ?_)
            refine W.cs (cells' := 0) (slots' := 0) rfl rfl ?_
            refine W.eq (g2 := F0 m 133 ls [.int r13.1]) rfl ?_
            obtain ⟨u15, h16, h⟩ := ob h
            exact xr_zret C0 W0 hret (zG_of h16) (Option.some.inj h) dX1_readPart_133
        · have h := it_t hcq h
          refine lv_iconst (v := 0) hx hb dX1_readPart_117 (by decide) ?_
          exact xr_zret C0 W0 hret (by decide) (Option.some.inj h) dX1_readPart_118
      · have h := it_f hcq h
        refine lv_aload_n hx hb dX1_readPart_89 rfl (lv_at hl 0 rfl) ?_
        obtain ⟨q17, h18, h⟩ := ob h
        refine xr_getR C0 W0 cl_X1 0 (by decide) fl_X1_26 rfl h18 dX1_readPart_90 ?_
        refine lv_aload_n hx hb dX1_readPart_93 rfl (lv_at hl 0 rfl) ?_
        obtain ⟨v19, h20, h⟩ := ob h
        refine xr_getI C0 W0 cl_X1 3 (by decide) fl_X1_15 rfl h20 dX1_readPart_94 ?_
        obtain ⟨u21, h22, h⟩ := ob h
        obtain ⟨X23, h24, h⟩ := ob h
        refine xr_V (As := [.int v19]) (rest := []) C0 W0 (ctX5_addSign l G h24) (gK_of h22) (rr := (RX5, TX5, 8)) rfl rfl mc_X5_addSign mv_X5_addSign ml_X1_90 ⟨by dsimp only; omega, by dsimp only; omega⟩ rfl hl.1 rfl (Nat.le_of_ble_eq_true rfl) ⟨Nat.le_of_ble_eq_true rfl, Nat.le_of_ble_eq_true rfl⟩ dX1_readPart_97 (fun H locs W0 => ?_)
        refine W.cs (cells' := 0) (slots' := 0) rfl rfl ?_
        refine W.eq (g2 := F0 m 100 ls []) rfl ?_
        refine lv_goto (tgt := 134) hx hb dX1_readPart_100 (by decide) ?_
        exact tX1_readPart_j134 C0 hret hrA W0 (lv_sub hl [0] rfl) h
    · have h := it_f hcq h
      refine lv_aload_n hx hb dX1_readPart_68 rfl (lv_at hl 0 rfl) ?_
      obtain ⟨q25, h26, h⟩ := ob h
      refine xr_getR C0 W0 cl_X1 0 (by decide) fl_X1_26 rfl h26 dX1_readPart_69 ?_
      refine lv_aload_n hx hb dX1_readPart_72 rfl (lv_at hl 0 rfl) ?_
      obtain ⟨v27, h28, h⟩ := ob h
      refine xr_getI C0 W0 cl_X1 3 (by decide) fl_X1_15 rfl h28 dX1_readPart_73 ?_
      refine lv_bipush (v := 26) hx hb dX1_readPart_76 (by decide) ?_
      refine lv_isub hx hb dX1_readPart_78 ?_
      obtain ⟨u29, h30, h⟩ := ob h
      obtain ⟨X31, h32, h⟩ := ob h
      refine xr_V (As := [.int (v27 - 26)]) (rest := []) C0 W0 (ctX5_addNumber l G h32) (gK_of h30) (rr := (RX5, TX5, 8)) rfl rfl mc_X5_addNumber mv_X5_addNumber ml_X1_99 ⟨by dsimp only; omega, by dsimp only; omega⟩ rfl hl.1 rfl (Nat.le_of_ble_eq_true rfl) ⟨Nat.le_of_ble_eq_true rfl, Nat.le_of_ble_eq_true rfl⟩ dX1_readPart_79 (fun H locs W0 => ?_)
      refine W.cs (cells' := 0) (slots' := 0) rfl rfl ?_
      refine W.eq (g2 := F0 m 82 ls []) rfl ?_
      refine lv_goto (tgt := 134) hx hb dX1_readPart_82 (by decide) ?_
      exact tX1_readPart_j134 C0 hret hrA W0 (lv_sub hl [0] rfl) h
  · have h := it_f hcq h
    refine lv_aload_n hx hb dX1_readPart_58 rfl (lv_at hl 0 rfl) ?_
    refine lv_iconst (v := 5) hx hb dX1_readPart_59 (by decide) ?_
    obtain ⟨u33, h34, h⟩ := ob h
    obtain ⟨r35, h36, h⟩ := ob h
    refine xr_V (As := [.int 5]) (rest := []) C0 W0 (ctX1_refuse l G h36) (gK_of h34) (rr := (RX1, TX1, 5)) rfl rfl mc_X1_refuse mv_X1_refuse ml_X1_52 ⟨by dsimp only; omega, by dsimp only; omega⟩ rfl hl.1 rfl (Nat.le_of_ble_eq_true rfl) ⟨Nat.le_of_ble_eq_true rfl, Nat.le_of_ble_eq_true rfl⟩ dX1_readPart_60 (fun H locs W0 => ?_)
    refine W.cs (cells' := 0) (slots' := 0) rfl rfl ?_
    refine W.eq (g2 := F0 m 63 ls [.int r35.1]) rfl ?_
    obtain ⟨u37, h38, h⟩ := ob h
    exact xr_zret C0 W0 hret (zG_of h38) (Option.some.inj h) dX1_readPart_63
theorem tX1_readPart_j29 {p : Program} {l : Launch} {e : Env} {s : State} {m : MethodId} {args : Array Value} {below : List Frame} {meth : Method} {c : Code} {G : XG} {X0 : XW} (C0 : XC p s m args meth c RX1 cX1_readPart 4 G) (hret : meth.sig.returnType = (some .boolean)) {rA : Nat → Int32 → XW → Option (Int32 × XW)} {lv : Nat} (hrA : ∀ {o : Nat} {w : Int32} {X : XW} {r : Int32 × XW}, rA o w X = some r → XM l G yX1_readAll cX1_readAll 4 (some .boolean) (lv + 3) (60 * (lv + 3)) 0 0 [.ref o, .int w] X (some (.int r.1), r.2)) {r : Int32 × XW} {l0 : Nat} {l1 : Int32} {l2 : Int32} {s0 : Int32} {X : XW} {H : Heap} {locs : List Loc} {ls : Array Slot} (W0 : XD G X0 X s H locs) (hl : lv_has ls 4 [(0, .ref l0), (1, .int l1), (2, .int l2)]) (h : fX1_readPart_j29 rA l0 l1 l2 s0 X = some r) : W p l e { frames := lv + 4, cells := 0, slots := 0, locals := 60 * (lv + 4) } s m args below meth c H locs 0 0 (MQ below (XQ G X0 (some (.int r.1), r.2)) args s 0 0 (xAd X0)) (F0 m 29 ls [.int s0]) := by
  have hx := C0.1
  have hb := C0.2.1
  unfold fX1_readPart_j29 at h
  refine lv_istore_n (lv' := [(3, .int s0), (0, .ref l0), (1, .int l1), (2, .int l2)]) hx hb dX1_readPart_29 rfl hl (by decide) rfl (fun ls hl => ?_)
  refine lv_iload_n hx hb dX1_readPart_30 rfl (lv_at hl 3 rfl) ?_
  refine lv_if_ne (tgt := 53) hx hb dX1_readPart_31 (by decide) (fun hcq => ?_) (fun hcq => ?_)
  · have h := it_f hcq h
    exact tX1_readPart_j53 C0 hret hrA W0 (lv_sub hl [1, 2, 3, 0] rfl) h
  · have h := it_t hcq h
    refine lv_iload_n hx hb dX1_readPart_34 rfl (lv_at hl 0 rfl) ?_
    refine lv_if_ne (tgt := 53) hx hb dX1_readPart_35 (by decide) (fun hcq => ?_) (fun hcq => ?_)
    · have h := it_f hcq h
      exact tX1_readPart_j53 C0 hret hrA W0 (lv_sub hl [1, 2, 3, 0] rfl) h
    · have h := it_t hcq h
      refine lv_aload_n hx hb dX1_readPart_38 rfl (lv_at hl 1 rfl) ?_
      obtain ⟨v1, h2, h⟩ := ob h
      refine xr_getI C0 W0 cl_X1 3 (by decide) fl_X1_15 rfl h2 dX1_readPart_39 ?_
      refine lv_bipush (v := 17) hx hb dX1_readPart_42 (by decide) ?_
      refine lv_icmp_eq (tgt := 53) hx hb dX1_readPart_44 (by decide) (fun hcq => ?_) (fun hcq => ?_)
      · have h := it_t hcq h
        exact tX1_readPart_j53 C0 hret hrA W0 (lv_sub hl [1, 2, 3, 0] rfl) h
      · have h := it_f hcq h
        refine lv_aload_n hx hb dX1_readPart_47 rfl (lv_at hl 1 rfl) ?_
        refine lv_iconst (v := 1) hx hb dX1_readPart_48 (by decide) ?_
        obtain ⟨u3, h4, h⟩ := ob h
        obtain ⟨r5, h6, h⟩ := ob h
        refine xr_V (As := [.int 1]) (rest := []) C0 W0 (ctX1_refuse l G h6) (gK_of h4) (rr := (RX1, TX1, 5)) rfl rfl mc_X1_refuse mv_X1_refuse ml_X1_52 ⟨by dsimp only; omega, by dsimp only; omega⟩ rfl hl.1 rfl (Nat.le_of_ble_eq_true rfl) ⟨Nat.le_of_ble_eq_true rfl, Nat.le_of_ble_eq_true rfl⟩ dX1_readPart_49 (fun H locs W0 => ?_)
        refine W.cs (cells' := 0) (slots' := 0) rfl rfl ?_
        refine W.eq (g2 := F0 m 52 ls [.int r5.1]) rfl ?_
        obtain ⟨u7, h8, h⟩ := ob h
        exact xr_zret C0 W0 hret (zG_of h8) (Option.some.inj h) dX1_readPart_52
theorem tX1_readPart_j14 {p : Program} {l : Launch} {e : Env} {s : State} {m : MethodId} {args : Array Value} {below : List Frame} {meth : Method} {c : Code} {G : XG} {X0 : XW} (C0 : XC p s m args meth c RX1 cX1_readPart 4 G) (hret : meth.sig.returnType = (some .boolean)) {rA : Nat → Int32 → XW → Option (Int32 × XW)} {lv : Nat} (hrA : ∀ {o : Nat} {w : Int32} {X : XW} {r : Int32 × XW}, rA o w X = some r → XM l G yX1_readAll cX1_readAll 4 (some .boolean) (lv + 3) (60 * (lv + 3)) 0 0 [.ref o, .int w] X (some (.int r.1), r.2)) {r : Int32 × XW} {l0 : Nat} {l1 : Int32} {s0 : Int32} {X : XW} {H : Heap} {locs : List Loc} {ls : Array Slot} (W0 : XD G X0 X s H locs) (hl : lv_has ls 4 [(0, .ref l0), (1, .int l1)]) (h : fX1_readPart_j14 rA l0 l1 s0 X = some r) : W p l e { frames := lv + 4, cells := 0, slots := 0, locals := 60 * (lv + 4) } s m args below meth c H locs 0 0 (MQ below (XQ G X0 (some (.int r.1), r.2)) args s 0 0 (xAd X0)) (F0 m 14 ls [.int s0]) := by
  have hx := C0.1
  have hb := C0.2.1
  unfold fX1_readPart_j14 at h
  refine lv_istore_n (lv' := [(2, .int s0), (0, .ref l0), (1, .int l1)]) hx hb dX1_readPart_14 rfl hl (by decide) rfl (fun ls hl => ?_)
  refine lv_aload_n hx hb dX1_readPart_15 rfl (lv_at hl 1 rfl) ?_
  obtain ⟨v1, h2, h⟩ := ob h
  refine xr_getI C0 W0 cl_X1 3 (by decide) fl_X1_15 rfl h2 dX1_readPart_16 ?_
  refine lv_bipush (v := 12) hx hb dX1_readPart_19 (by decide) ?_
  refine lv_icmp_gt (tgt := 28) hx hb dX1_readPart_21 (by decide) (fun hcq => ?_) (fun hcq => ?_)
  · have h := it_t hcq h
    refine lv_iconst (v := 0) hx hb dX1_readPart_28 (by decide) ?_
    exact tX1_readPart_j29 C0 hret hrA W0 (lv_sub hl [1, 2, 0] rfl) h
  · have h := it_f hcq h
    refine lv_iconst (v := 1) hx hb dX1_readPart_24 (by decide) ?_
    refine lv_goto (tgt := 29) hx hb dX1_readPart_25 (by decide) ?_
    exact tX1_readPart_j29 C0 hret hrA W0 (lv_sub hl [1, 2, 0] rfl) h
theorem ctX1_readPart (l : Launch) (G : XG) {l0 : Nat} {l1 : Int32} {X : XW} {r : Int32 × XW}  {rA : Nat → Int32 → XW → Option (Int32 × XW)} {lv : Nat} (hrA : ∀ {o : Nat} {w : Int32} {X : XW} {r : Int32 × XW}, rA o w X = some r → XM l G yX1_readAll cX1_readAll 4 (some .boolean) (lv + 3) (60 * (lv + 3)) 0 0 [.ref o, .int w] X (some (.int r.1), r.2)) (h : fX1_readPart rA l0 l1 X = some r) : XM l G yX1_readPart cX1_readPart 4 (some .boolean) (lv + 4) (60 * (lv + 4)) 0 0 [.ref l0, .int l1] X (some (.int r.1), r.2) := by
  refine xm_of (own := RX1) (by decide) rfl (Nat.le_of_ble_eq_true rfl) ?_
  intro p e s m below meth c ls C0 W0 hret hnm hl
  have hx := C0.1
  have hb := C0.2.1
  have hl : lv_has ls 4 [(0, .ref l0), (1, .int l1)] := hl
  unfold fX1_readPart at h
  refine lv_aload_n hx hb dX1_readPart_0 rfl (lv_at hl 0 rfl) ?_
  obtain ⟨v1, h2, h⟩ := ob h
  refine xr_getI C0 W0 cl_X1 3 (by decide) fl_X1_15 rfl h2 dX1_readPart_1 ?_
  refine lv_bipush (v := 26) hx hb dX1_readPart_4 (by decide) ?_
  refine lv_icmp_lt (tgt := 13) hx hb dX1_readPart_6 (by decide) (fun hcq => ?_) (fun hcq => ?_)
  · have h := it_t hcq h
    refine lv_iconst (v := 0) hx hb dX1_readPart_13 (by decide) ?_
    exact tX1_readPart_j14 C0 hret hrA W0 (lv_sub hl [0, 1] rfl) h
  · have h := it_f hcq h
    refine lv_iconst (v := 1) hx hb dX1_readPart_9 (by decide) ?_
    refine lv_goto (tgt := 14) hx hb dX1_readPart_10 (by decide) ?_
    exact tX1_readPart_j14 C0 hret hrA W0 (lv_sub hl [0, 1] rfl) h
def fX1_readSum_j37 (rA : Nat → Int32 → XW → Option (Int32 × XW)) (rec : Int32 → Int32 → XW → Option (Int32 × XW)) (l0 : Nat) (l1 : Int32) (l3 : Int32) (X : XW) : Option (Int32 × XW) :=
  gI X l0 1 3 >>= fun v1 =>
  gK X l0 1 >>= fun u3 =>
  fX1_goOn l0 X >>= fun X5 =>
  gK X5 l0 1 >>= fun u7 =>
  fX1_readPart rA l0 l1 X5 >>= fun r9 =>
  gR r9.2 l0 1 0 >>= fun q11 =>
  gK r9.2 q11 5 >>= fun u13 =>
  fX5_addSign q11 v1 r9.2 >>= fun X15 =>
  rec r9.1 (l3 + 1) X15
def fX1_readSum_l8_b (rA : Nat → Int32 → XW → Option (Int32 × XW)) (rec : Int32 → Int32 → XW → Option (Int32 × XW)) (l0 : Nat) (l1 : Int32) (l2 : Int32) (l3 : Int32) (X : XW) : Option (Int32 × XW) :=
  if (1000 ≤ l3 : Prop) then (some (l2, X))
  else (if (l2 = 0 : Prop) then (some (l2, X))
    else (gI X l0 1 3 >>= fun v1 =>
      if (v1 = 21 : Prop) then (fX1_readSum_j37 rA rec l0 l1 l3 X)
      else (gI X l0 1 3 >>= fun v3 =>
        if (v3 = 22 : Prop) then (fX1_readSum_j37 rA rec l0 l1 l3 X)
        else (some (l2, X)))))
def fX1_readSum_l8 (rA : Nat → Int32 → XW → Option (Int32 × XW)) (l0 : Nat) (l1 : Int32) (n : Nat) : Int32 → Int32 → XW → Option (Int32 × XW) := iter (fun rec => fX1_readSum_l8_b rA rec l0 l1) (fun _ _ _ => none) n
def fX1_readSum (rA : Nat → Int32 → XW → Option (Int32 × XW)) (l0 : Nat) (l1 : Int32) (X : XW) : Option (Int32 × XW) :=
  gK X l0 1 >>= fun u1 =>
  fX1_readPart rA l0 l1 X >>= fun r3 =>
  fX1_readSum_l8 rA l0 l1 FU r3.1 0 r3.2 >>= fun r5 =>
  zG r5.1 >>= fun u7 =>
  some (r5.1, r5.2)
theorem tX1_readSum_j37 {p : Program} {l : Launch} {e : Env} {s : State} {m : MethodId} {args : Array Value} {below : List Frame} {meth : Method} {c : Code} {G : XG} {X0 : XW} (C0 : XC p s m args meth c RX1 cX1_readSum 5 G) (hret : meth.sig.returnType = (some .boolean)) {rA : Nat → Int32 → XW → Option (Int32 × XW)} {lv : Nat} (hrA : ∀ {o : Nat} {w : Int32} {X : XW} {r : Int32 × XW}, rA o w X = some r → XM l G yX1_readAll cX1_readAll 4 (some .boolean) (lv + 3) (60 * (lv + 3)) 0 0 [.ref o, .int w] X (some (.int r.1), r.2)) {r : Int32 × XW} {l0 : Nat} {l1 : Int32} {Q : State → Prop} {rec : Int32 → Int32 → XW → Option (Int32 × XW)} (hrec : ∀ {y2 : Int32} {y3 : Int32} {X : XW} {H : Heap} {locs : List Loc} {ls : Array Slot}, XD G X0 X s H locs → lv_has ls 5 [(0, .ref l0), (1, .int l1), (2, .int y2), (3, .int y3)] → rec y2 y3 X = some r → W p l e { frames := lv + 5, cells := 0, slots := 0, locals := 60 * (lv + 5) } s m args below meth c H locs 0 0 Q (F0 m 8 ls [])) (hK : ∀ {H : Heap} {locs : List Loc} {ls : Array Slot}, XD G X0 r.2 s H locs → lv_has ls 5 [(2, .int r.1)] → W p l e { frames := lv + 5, cells := 0, slots := 0, locals := 60 * (lv + 5) } s m args below meth c H locs 0 0 Q (F0 m 68 ls []))  {l3 : Int32} {X : XW} {H : Heap} {locs : List Loc} {ls : Array Slot} (W0 : XD G X0 X s H locs) (hl : lv_has ls 5 [(0, .ref l0), (1, .int l1), (3, .int l3)]) (h : fX1_readSum_j37 rA rec l0 l1 l3 X = some r) : W p l e { frames := lv + 5, cells := 0, slots := 0, locals := 60 * (lv + 5) } s m args below meth c H locs 0 0 Q (F0 m 37 ls []) := by
  have hx := C0.1
  have hb := C0.2.1
  unfold fX1_readSum_j37 at h
  refine lv_aload_n hx hb dX1_readSum_37 rfl (lv_at hl 0 rfl) ?_
  obtain ⟨v1, h2, h⟩ := ob h
  refine xr_getI C0 W0 cl_X1 3 (by decide) fl_X1_15 rfl h2 dX1_readSum_38 ?_
  refine lv_istore (lv' := [(4, .int v1), (0, .ref l0), (1, .int l1), (3, .int l3)]) hx hb dX1_readSum_41 hl (by decide) rfl (fun ls hl => ?_)
  refine lv_aload_n hx hb dX1_readSum_43 rfl (lv_at hl 1 rfl) ?_
  obtain ⟨u3, h4, h⟩ := ob h
  obtain ⟨X5, h6, h⟩ := ob h
  refine xr_V (As := []) (rest := []) C0 W0 (ctX1_goOn l G h6) (gK_of h4) (rr := (RX1, TX1, 5)) rfl rfl mc_X1_goOn mv_X1_goOn ml_X1_59 ⟨by dsimp only; omega, by dsimp only; omega⟩ rfl hl.1 rfl (Nat.le_of_ble_eq_true rfl) ⟨Nat.le_of_ble_eq_true rfl, Nat.le_of_ble_eq_true rfl⟩ dX1_readSum_44 (fun H locs W0 => ?_)
  refine W.cs (cells' := 0) (slots' := 0) rfl rfl ?_
  refine W.eq (g2 := F0 m 47 ls []) rfl ?_
  refine lv_aload_n hx hb dX1_readSum_47 rfl (lv_at hl 1 rfl) ?_
  refine lv_iload_n hx hb dX1_readSum_48 rfl (lv_at hl 2 rfl) ?_
  obtain ⟨u7, h8, h⟩ := ob h
  obtain ⟨r9, h10, h⟩ := ob h
  refine xr_V (As := [.int l1]) (rest := []) C0 W0 (ctX1_readPart l G hrA h10) (gK_of h8) (rr := (RX1, TX1, 5)) rfl rfl mc_X1_readPart mv_X1_readPart ml_X1_96 ⟨by dsimp only; omega, by dsimp only; omega⟩ rfl hl.1 rfl (Nat.le_of_ble_eq_true rfl) ⟨Nat.le_of_ble_eq_true rfl, Nat.le_of_ble_eq_true rfl⟩ dX1_readSum_49 (fun H locs W0 => ?_)
  refine W.cs (cells' := 0) (slots' := 0) rfl rfl ?_
  refine W.eq (g2 := F0 m 52 ls [.int r9.1]) rfl ?_
  refine lv_istore_n (lv' := [(2, .int r9.1), (4, .int v1), (0, .ref l0), (1, .int l1), (3, .int l3)]) hx hb dX1_readSum_52 rfl hl (by decide) rfl (fun ls hl => ?_)
  refine lv_aload_n hx hb dX1_readSum_53 rfl (lv_at hl 2 rfl) ?_
  obtain ⟨q11, h12, h⟩ := ob h
  refine xr_getR C0 W0 cl_X1 0 (by decide) fl_X1_26 rfl h12 dX1_readSum_54 ?_
  refine lv_iload hx hb dX1_readSum_57 (lv_at hl 1 rfl) ?_
  obtain ⟨u13, h14, h⟩ := ob h
  obtain ⟨X15, h16, h⟩ := ob h
  refine xr_V (As := [.int v1]) (rest := []) C0 W0 (ctX5_addSign l G h16) (gK_of h14) (rr := (RX5, TX5, 8)) rfl rfl mc_X5_addSign mv_X5_addSign ml_X1_90 ⟨by dsimp only; omega, by dsimp only; omega⟩ rfl hl.1 rfl (Nat.le_of_ble_eq_true rfl) ⟨Nat.le_of_ble_eq_true rfl, Nat.le_of_ble_eq_true rfl⟩ dX1_readSum_59 (fun H locs W0 => ?_)
  refine W.cs (cells' := 0) (slots' := 0) rfl rfl ?_
  refine W.eq (g2 := F0 m 62 ls []) rfl ?_
  refine lv_iinc (v := (l3 + 1)) (lv' := [(3, .int (l3 + 1)), (2, .int r9.1), (4, .int v1), (0, .ref l0), (1, .int l1)]) hx hb dX1_readSum_62 hl (k := 4) rfl (ii (by decide)) (by decide) rfl (fun ls hl => ?_)
  refine lv_goto (tgt := 8) hx hb dX1_readSum_65 (by decide) ?_
  exact hrec W0 (lv_sub hl [3, 4, 1, 0] rfl) h
theorem tX1_readSum_l8_b {p : Program} {l : Launch} {e : Env} {s : State} {m : MethodId} {args : Array Value} {below : List Frame} {meth : Method} {c : Code} {G : XG} {X0 : XW} (C0 : XC p s m args meth c RX1 cX1_readSum 5 G) (hret : meth.sig.returnType = (some .boolean)) {rA : Nat → Int32 → XW → Option (Int32 × XW)} {lv : Nat} (hrA : ∀ {o : Nat} {w : Int32} {X : XW} {r : Int32 × XW}, rA o w X = some r → XM l G yX1_readAll cX1_readAll 4 (some .boolean) (lv + 3) (60 * (lv + 3)) 0 0 [.ref o, .int w] X (some (.int r.1), r.2)) {r : Int32 × XW} {l0 : Nat} {l1 : Int32} {Q : State → Prop} {rec : Int32 → Int32 → XW → Option (Int32 × XW)} (hrec : ∀ {y2 : Int32} {y3 : Int32} {X : XW} {H : Heap} {locs : List Loc} {ls : Array Slot}, XD G X0 X s H locs → lv_has ls 5 [(0, .ref l0), (1, .int l1), (2, .int y2), (3, .int y3)] → rec y2 y3 X = some r → W p l e { frames := lv + 5, cells := 0, slots := 0, locals := 60 * (lv + 5) } s m args below meth c H locs 0 0 Q (F0 m 8 ls [])) (hK : ∀ {H : Heap} {locs : List Loc} {ls : Array Slot}, XD G X0 r.2 s H locs → lv_has ls 5 [(2, .int r.1)] → W p l e { frames := lv + 5, cells := 0, slots := 0, locals := 60 * (lv + 5) } s m args below meth c H locs 0 0 Q (F0 m 68 ls []))  {l2 : Int32} {l3 : Int32} {X : XW} {H : Heap} {locs : List Loc} {ls : Array Slot} (W0 : XD G X0 X s H locs) (hl : lv_has ls 5 [(0, .ref l0), (1, .int l1), (2, .int l2), (3, .int l3)]) (h : fX1_readSum_l8_b rA rec l0 l1 l2 l3 X = some r) : W p l e { frames := lv + 5, cells := 0, slots := 0, locals := 60 * (lv + 5) } s m args below meth c H locs 0 0 Q (F0 m 8 ls []) := by
  have hx := C0.1
  have hb := C0.2.1
  unfold fX1_readSum_l8_b at h
  refine lv_iload_n hx hb dX1_readSum_8 rfl (lv_at hl 3 rfl) ?_
  refine lv_sipush (v := 1000) hx hb dX1_readSum_9 (by decide) ?_
  refine lv_icmp_ge (tgt := 68) hx hb dX1_readSum_12 (by decide) (fun hcq => ?_) (fun hcq => ?_)
  · have h := it_t hcq h
    cases h
    exact hK W0 (lv_sub hl [2] rfl)
  · have h := it_f hcq h
    refine lv_iload_n hx hb dX1_readSum_15 rfl (lv_at hl 2 rfl) ?_
    refine lv_if_eq (tgt := 68) hx hb dX1_readSum_16 (by decide) (fun hcq => ?_) (fun hcq => ?_)
    · have h := it_t hcq h
      cases h
      exact hK W0 (lv_sub hl [2] rfl)
    · have h := it_f hcq h
      refine lv_aload_n hx hb dX1_readSum_19 rfl (lv_at hl 0 rfl) ?_
      obtain ⟨v1, h2, h⟩ := ob h
      refine xr_getI C0 W0 cl_X1 3 (by decide) fl_X1_15 rfl h2 dX1_readSum_20 ?_
      refine lv_bipush (v := 21) hx hb dX1_readSum_23 (by decide) ?_
      refine lv_icmp_eq (tgt := 37) hx hb dX1_readSum_25 (by decide) (fun hcq => ?_) (fun hcq => ?_)
      · have h := it_t hcq h
        exact tX1_readSum_j37 C0 hret hrA hrec hK W0 (lv_sub hl [0, 1, 3] rfl) h
      · have h := it_f hcq h
        refine lv_aload_n hx hb dX1_readSum_28 rfl (lv_at hl 0 rfl) ?_
        obtain ⟨v3, h4, h⟩ := ob h
        refine xr_getI C0 W0 cl_X1 3 (by decide) fl_X1_15 rfl h4 dX1_readSum_29 ?_
        refine lv_bipush (v := 22) hx hb dX1_readSum_32 (by decide) ?_
        refine lv_icmp_ne (tgt := 68) hx hb dX1_readSum_34 (by decide) (fun hcq => ?_) (fun hcq => ?_)
        · have h := it_f hcq h
          cases h
          exact hK W0 (lv_sub hl [2] rfl)
        · have h := it_t hcq h
          exact tX1_readSum_j37 C0 hret hrA hrec hK W0 (lv_sub hl [0, 1, 3] rfl) h
theorem tX1_readSum_l8 {p : Program} {l : Launch} {e : Env} {s : State} {m : MethodId} {args : Array Value} {below : List Frame} {meth : Method} {c : Code} {G : XG} {X0 : XW} (C0 : XC p s m args meth c RX1 cX1_readSum 5 G) (hret : meth.sig.returnType = (some .boolean)) {rA : Nat → Int32 → XW → Option (Int32 × XW)} {lv : Nat} (hrA : ∀ {o : Nat} {w : Int32} {X : XW} {r : Int32 × XW}, rA o w X = some r → XM l G yX1_readAll cX1_readAll 4 (some .boolean) (lv + 3) (60 * (lv + 3)) 0 0 [.ref o, .int w] X (some (.int r.1), r.2)) {r : Int32 × XW} {l0 : Nat} {l1 : Int32} {Q : State → Prop} (hK : ∀ {H : Heap} {locs : List Loc} {ls : Array Slot}, XD G X0 r.2 s H locs → lv_has ls 5 [(2, .int r.1)] → W p l e { frames := lv + 5, cells := 0, slots := 0, locals := 60 * (lv + 5) } s m args below meth c H locs 0 0 Q (F0 m 68 ls [])) : ∀ (n : Nat) {y2 : Int32} {y3 : Int32} {X : XW} {H : Heap} {locs : List Loc} {ls : Array Slot}, XD G X0 X s H locs → lv_has ls 5 [(0, .ref l0), (1, .int l1), (2, .int y2), (3, .int y3)] → fX1_readSum_l8 rA l0 l1 n y2 y3 X = some r → W p l e { frames := lv + 5, cells := 0, slots := 0, locals := 60 * (lv + 5) } s m args below meth c H locs 0 0 Q (F0 m 8 ls []) := by
  intro n
  induction n with
  | zero =>
    intro y2 y3 X H locs ls W0 hl h
    cases h
  | succ n ih =>
    intro y2 y3 X H locs ls W0 hl h
    exact tX1_readSum_l8_b C0 hret hrA (rec := fX1_readSum_l8 rA l0 l1 n) (fun W0 hl h => ih W0 hl h) hK W0 hl h
theorem ctX1_readSum (l : Launch) (G : XG) {l0 : Nat} {l1 : Int32} {X : XW} {r : Int32 × XW}  {rA : Nat → Int32 → XW → Option (Int32 × XW)} {lv : Nat} (hrA : ∀ {o : Nat} {w : Int32} {X : XW} {r : Int32 × XW}, rA o w X = some r → XM l G yX1_readAll cX1_readAll 4 (some .boolean) (lv + 3) (60 * (lv + 3)) 0 0 [.ref o, .int w] X (some (.int r.1), r.2)) (h : fX1_readSum rA l0 l1 X = some r) : XM l G yX1_readSum cX1_readSum 5 (some .boolean) (lv + 5) (60 * (lv + 5)) 0 0 [.ref l0, .int l1] X (some (.int r.1), r.2) := by
  refine xm_of (own := RX1) (by decide) rfl (Nat.le_of_ble_eq_true rfl) ?_
  intro p e s m below meth c ls C0 W0 hret hnm hl
  have hx := C0.1
  have hb := C0.2.1
  have hl : lv_has ls 5 [(0, .ref l0), (1, .int l1)] := hl
  unfold fX1_readSum at h
  refine lv_aload_n hx hb dX1_readSum_0 rfl (lv_at hl 0 rfl) ?_
  refine lv_iload_n hx hb dX1_readSum_1 rfl (lv_at hl 1 rfl) ?_
  obtain ⟨u1, h2, h⟩ := ob h
  obtain ⟨r3, h4, h⟩ := ob h
  refine xr_V (As := [.int l1]) (rest := []) C0 W0 (ctX1_readPart l G hrA h4) (gK_of h2) (rr := (RX1, TX1, 5)) rfl rfl mc_X1_readPart mv_X1_readPart ml_X1_96 ⟨by dsimp only; omega, by dsimp only; omega⟩ rfl hl.1 rfl (Nat.le_of_ble_eq_true rfl) ⟨Nat.le_of_ble_eq_true rfl, Nat.le_of_ble_eq_true rfl⟩ dX1_readSum_2 (fun H locs W0 => ?_)
  refine W.cs (cells' := 0) (slots' := 0) rfl rfl ?_
  refine W.eq (g2 := F0 m 5 ls [.int r3.1]) rfl ?_
  refine lv_istore_n (lv' := [(2, .int r3.1), (0, .ref l0), (1, .int l1)]) hx hb dX1_readSum_5 rfl hl (by decide) rfl (fun ls hl => ?_)
  refine lv_iconst (v := 0) hx hb dX1_readSum_6 (by decide) ?_
  refine lv_istore_n (lv' := [(3, .int 0), (2, .int r3.1), (0, .ref l0), (1, .int l1)]) hx hb dX1_readSum_7 rfl hl (by decide) rfl (fun ls hl => ?_)
  obtain ⟨r5, h6, h⟩ := ob h
  refine tX1_readSum_l8 C0 hret hrA (fun {H} {locs} {ls} W0 hl => ?_) FU W0 (lv_sub hl [2, 3, 1, 0] rfl) h6
  refine lv_iload_n hx hb dX1_readSum_68 rfl (lv_at hl 0 rfl) ?_
  obtain ⟨u7, h8, h⟩ := ob h
  exact xr_zret C0 W0 hret (zG_of h8) (Option.some.inj h) dX1_readSum_69
def fX1_readTest_j28 (rA : Nat → Int32 → XW → Option (Int32 × XW))  (l0 : Nat) (l1 : Int32) (X : XW) : Option (Int32 × XW) :=
  gI X l0 1 3 >>= fun v1 =>
  gK X l0 1 >>= fun u3 =>
  fX1_goOn l0 X >>= fun X5 =>
  gK X5 l0 1 >>= fun u7 =>
  fX1_readSum rA l0 l1 X5 >>= fun r9 =>
  gR r9.2 l0 1 0 >>= fun q11 =>
  gK r9.2 q11 5 >>= fun u13 =>
  fX5_addSign q11 v1 r9.2 >>= fun X15 =>
  zG r9.1 >>= fun u17 =>
  some (r9.1, X15)
def fX1_readTest (rA : Nat → Int32 → XW → Option (Int32 × XW)) (l0 : Nat) (l1 : Int32) (X : XW) : Option (Int32 × XW) :=
  gK X l0 1 >>= fun u1 =>
  fX1_readSum rA l0 l1 X >>= fun r3 =>
  if (r3.1 = 0 : Prop) then (zG r3.1 >>= fun u5 =>
    some (r3.1, r3.2))
  else (gI r3.2 l0 1 3 >>= fun v7 =>
    if (v7 = 19 : Prop) then (fX1_readTest_j28 rA l0 l1 r3.2)
    else (gI r3.2 l0 1 3 >>= fun v9 =>
      if (v9 = 20 : Prop) then (fX1_readTest_j28 rA l0 l1 r3.2)
      else (zG r3.1 >>= fun u11 =>
        some (r3.1, r3.2))))
theorem tX1_readTest_j28 {p : Program} {l : Launch} {e : Env} {s : State} {m : MethodId} {args : Array Value} {below : List Frame} {meth : Method} {c : Code} {G : XG} {X0 : XW} (C0 : XC p s m args meth c RX1 cX1_readTest 4 G) (hret : meth.sig.returnType = (some .boolean)) {rA : Nat → Int32 → XW → Option (Int32 × XW)} {lv : Nat} (hrA : ∀ {o : Nat} {w : Int32} {X : XW} {r : Int32 × XW}, rA o w X = some r → XM l G yX1_readAll cX1_readAll 4 (some .boolean) (lv + 3) (60 * (lv + 3)) 0 0 [.ref o, .int w] X (some (.int r.1), r.2)) {r : Int32 × XW} {l0 : Nat} {l1 : Int32} {X : XW} {H : Heap} {locs : List Loc} {ls : Array Slot} (W0 : XD G X0 X s H locs) (hl : lv_has ls 4 [(0, .ref l0), (1, .int l1)]) (h : fX1_readTest_j28 rA l0 l1 X = some r) : W p l e { frames := lv + 6, cells := 0, slots := 0, locals := 60 * (lv + 6) } s m args below meth c H locs 0 0 (MQ below (XQ G X0 (some (.int r.1), r.2)) args s 0 0 (xAd X0)) (F0 m 28 ls []) := by
  have hx := C0.1
  have hb := C0.2.1
  unfold fX1_readTest_j28 at h
  refine lv_aload_n hx hb dX1_readTest_28 rfl (lv_at hl 0 rfl) ?_
  obtain ⟨v1, h2, h⟩ := ob h
  refine xr_getI C0 W0 cl_X1 3 (by decide) fl_X1_15 rfl h2 dX1_readTest_29 ?_
  refine lv_istore_n (lv' := [(3, .int v1), (0, .ref l0), (1, .int l1)]) hx hb dX1_readTest_32 rfl hl (by decide) rfl (fun ls hl => ?_)
  refine lv_aload_n hx hb dX1_readTest_33 rfl (lv_at hl 1 rfl) ?_
  obtain ⟨u3, h4, h⟩ := ob h
  obtain ⟨X5, h6, h⟩ := ob h
  refine xr_V (As := []) (rest := []) C0 W0 (ctX1_goOn l G h6) (gK_of h4) (rr := (RX1, TX1, 5)) rfl rfl mc_X1_goOn mv_X1_goOn ml_X1_59 ⟨by dsimp only; omega, by dsimp only; omega⟩ rfl hl.1 rfl (Nat.le_of_ble_eq_true rfl) ⟨Nat.le_of_ble_eq_true rfl, Nat.le_of_ble_eq_true rfl⟩ dX1_readTest_34 (fun H locs W0 => ?_)
  refine W.cs (cells' := 0) (slots' := 0) rfl rfl ?_
  refine W.eq (g2 := F0 m 37 ls []) rfl ?_
  refine lv_aload_n hx hb dX1_readTest_37 rfl (lv_at hl 1 rfl) ?_
  refine lv_iload_n hx hb dX1_readTest_38 rfl (lv_at hl 2 rfl) ?_
  obtain ⟨u7, h8, h⟩ := ob h
  obtain ⟨r9, h10, h⟩ := ob h
  refine xr_V (As := [.int l1]) (rest := []) C0 W0 (ctX1_readSum l G hrA h10) (gK_of h8) (rr := (RX1, TX1, 5)) rfl rfl mc_X1_readSum mv_X1_readSum ml_X1_93 ⟨by dsimp only; omega, by dsimp only; omega⟩ rfl hl.1 rfl (Nat.le_of_ble_eq_true rfl) ⟨Nat.le_of_ble_eq_true rfl, Nat.le_of_ble_eq_true rfl⟩ dX1_readTest_39 (fun H locs W0 => ?_)
  refine W.cs (cells' := 0) (slots' := 0) rfl rfl ?_
  refine W.eq (g2 := F0 m 42 ls [.int r9.1]) rfl ?_
  refine lv_istore_n (lv' := [(2, .int r9.1), (3, .int v1), (0, .ref l0), (1, .int l1)]) hx hb dX1_readTest_42 rfl hl (by decide) rfl (fun ls hl => ?_)
  refine lv_aload_n hx hb dX1_readTest_43 rfl (lv_at hl 2 rfl) ?_
  obtain ⟨q11, h12, h⟩ := ob h
  refine xr_getR C0 W0 cl_X1 0 (by decide) fl_X1_26 rfl h12 dX1_readTest_44 ?_
  refine lv_iload_n hx hb dX1_readTest_47 rfl (lv_at hl 1 rfl) ?_
  obtain ⟨u13, h14, h⟩ := ob h
  obtain ⟨X15, h16, h⟩ := ob h
  refine xr_V (As := [.int v1]) (rest := []) C0 W0 (ctX5_addSign l G h16) (gK_of h14) (rr := (RX5, TX5, 8)) rfl rfl mc_X5_addSign mv_X5_addSign ml_X1_90 ⟨by dsimp only; omega, by dsimp only; omega⟩ rfl hl.1 rfl (Nat.le_of_ble_eq_true rfl) ⟨Nat.le_of_ble_eq_true rfl, Nat.le_of_ble_eq_true rfl⟩ dX1_readTest_48 (fun H locs W0 => ?_)
  refine W.cs (cells' := 0) (slots' := 0) rfl rfl ?_
  refine W.eq (g2 := F0 m 51 ls []) rfl ?_
  refine lv_iload_n hx hb dX1_readTest_51 rfl (lv_at hl 0 rfl) ?_
  obtain ⟨u17, h18, h⟩ := ob h
  exact xr_zret C0 W0 hret (zG_of h18) (Option.some.inj h) dX1_readTest_52
theorem ctX1_readTest (l : Launch) (G : XG) {l0 : Nat} {l1 : Int32} {X : XW} {r : Int32 × XW}  {rA : Nat → Int32 → XW → Option (Int32 × XW)} {lv : Nat} (hrA : ∀ {o : Nat} {w : Int32} {X : XW} {r : Int32 × XW}, rA o w X = some r → XM l G yX1_readAll cX1_readAll 4 (some .boolean) (lv + 3) (60 * (lv + 3)) 0 0 [.ref o, .int w] X (some (.int r.1), r.2)) (h : fX1_readTest rA l0 l1 X = some r) : XM l G yX1_readTest cX1_readTest 4 (some .boolean) (lv + 6) (60 * (lv + 6)) 0 0 [.ref l0, .int l1] X (some (.int r.1), r.2) := by
  refine xm_of (own := RX1) (by decide) rfl (Nat.le_of_ble_eq_true rfl) ?_
  intro p e s m below meth c ls C0 W0 hret hnm hl
  have hx := C0.1
  have hb := C0.2.1
  have hl : lv_has ls 4 [(0, .ref l0), (1, .int l1)] := hl
  unfold fX1_readTest at h
  refine lv_aload_n hx hb dX1_readTest_0 rfl (lv_at hl 0 rfl) ?_
  refine lv_iload_n hx hb dX1_readTest_1 rfl (lv_at hl 1 rfl) ?_
  obtain ⟨u1, h2, h⟩ := ob h
  obtain ⟨r3, h4, h⟩ := ob h
  refine xr_V (As := [.int l1]) (rest := []) C0 W0 (ctX1_readSum l G hrA h4) (gK_of h2) (rr := (RX1, TX1, 5)) rfl rfl mc_X1_readSum mv_X1_readSum ml_X1_93 ⟨by dsimp only; omega, by dsimp only; omega⟩ rfl hl.1 rfl (Nat.le_of_ble_eq_true rfl) ⟨Nat.le_of_ble_eq_true rfl, Nat.le_of_ble_eq_true rfl⟩ dX1_readTest_2 (fun H locs W0 => ?_)
  refine W.cs (cells' := 0) (slots' := 0) rfl rfl ?_
  refine W.eq (g2 := F0 m 5 ls [.int r3.1]) rfl ?_
  refine lv_istore_n (lv' := [(2, .int r3.1), (0, .ref l0), (1, .int l1)]) hx hb dX1_readTest_5 rfl hl (by decide) rfl (fun ls hl => ?_)
  refine lv_iload_n hx hb dX1_readTest_6 rfl (lv_at hl 0 rfl) ?_
  refine lv_if_eq (tgt := 51) hx hb dX1_readTest_7 (by decide) (fun hcq => ?_) (fun hcq => ?_)
  · have h := it_t hcq h
    refine lv_iload_n hx hb dX1_readTest_51 rfl (lv_at hl 0 rfl) ?_
    obtain ⟨u5, h6, h⟩ := ob h
    exact xr_zret C0 W0 hret (zG_of h6) (Option.some.inj h) dX1_readTest_52
  · have h := it_f hcq h
    refine lv_aload_n hx hb dX1_readTest_10 rfl (lv_at hl 1 rfl) ?_
    obtain ⟨v7, h8, h⟩ := ob h
    refine xr_getI C0 W0 cl_X1 3 (by decide) fl_X1_15 rfl h8 dX1_readTest_11 ?_
    refine lv_bipush (v := 19) hx hb dX1_readTest_14 (by decide) ?_
    refine lv_icmp_eq (tgt := 28) hx hb dX1_readTest_16 (by decide) (fun hcq => ?_) (fun hcq => ?_)
    · have h := it_t hcq h
      exact tX1_readTest_j28 C0 hret hrA W0 (lv_sub hl [1, 2] rfl) h
    · have h := it_f hcq h
      refine lv_aload_n hx hb dX1_readTest_19 rfl (lv_at hl 1 rfl) ?_
      obtain ⟨v9, h10, h⟩ := ob h
      refine xr_getI C0 W0 cl_X1 3 (by decide) fl_X1_15 rfl h10 dX1_readTest_20 ?_
      refine lv_bipush (v := 20) hx hb dX1_readTest_23 (by decide) ?_
      refine lv_icmp_ne (tgt := 51) hx hb dX1_readTest_25 (by decide) (fun hcq => ?_) (fun hcq => ?_)
      · have h := it_f hcq h
        refine lv_iload_n hx hb dX1_readTest_51 rfl (lv_at hl 0 rfl) ?_
        obtain ⟨u11, h12, h⟩ := ob h
        exact xr_zret C0 W0 hret (zG_of h12) (Option.some.inj h) dX1_readTest_52
      · have h := it_t hcq h
        exact tX1_readTest_j28 C0 hret hrA W0 (lv_sub hl [1, 2] rfl) h
def fX1_readAll_l8_b (rA : Nat → Int32 → XW → Option (Int32 × XW)) (rec : Int32 → Int32 → XW → Option (Int32 × XW)) (l0 : Nat) (l1 : Int32) (l2 : Int32) (l3 : Int32) (X : XW) : Option (Int32 × XW) :=
  if (1000 ≤ l3 : Prop) then (some (l2, X))
  else (if (l2 = 0 : Prop) then (some (l2, X))
    else (gI X l0 1 3 >>= fun v1 =>
      if (v1 = 16 : Prop) then (gK X l0 1 >>= fun u3 =>
        fX1_goOn l0 X >>= fun X5 =>
        gK X5 l0 1 >>= fun u7 =>
        fX1_readTest rA l0 l1 X5 >>= fun r9 =>
        gR r9.2 l0 1 0 >>= fun q11 =>
        gK r9.2 q11 5 >>= fun u13 =>
        fX5_addSign q11 16 r9.2 >>= fun X15 =>
        rec r9.1 (l3 + 1) X15)
      else (some (l2, X))))
def fX1_readAll_l8 (rA : Nat → Int32 → XW → Option (Int32 × XW)) (l0 : Nat) (l1 : Int32) (n : Nat) : Int32 → Int32 → XW → Option (Int32 × XW) := iter (fun rec => fX1_readAll_l8_b rA rec l0 l1) (fun _ _ _ => none) n
def fX1_readAll (rA : Nat → Int32 → XW → Option (Int32 × XW)) (l0 : Nat) (l1 : Int32) (X : XW) : Option (Int32 × XW) :=
  gK X l0 1 >>= fun u1 =>
  fX1_readTest rA l0 l1 X >>= fun r3 =>
  fX1_readAll_l8 rA l0 l1 FU r3.1 0 r3.2 >>= fun r5 =>
  zG r5.1 >>= fun u7 =>
  some (r5.1, r5.2)
theorem tX1_readAll_l8_b {p : Program} {l : Launch} {e : Env} {s : State} {m : MethodId} {args : Array Value} {below : List Frame} {meth : Method} {c : Code} {G : XG} {X0 : XW} (C0 : XC p s m args meth c RX1 cX1_readAll 4 G) (hret : meth.sig.returnType = (some .boolean)) {rA : Nat → Int32 → XW → Option (Int32 × XW)} {lv : Nat} (hrA : ∀ {o : Nat} {w : Int32} {X : XW} {r : Int32 × XW}, rA o w X = some r → XM l G yX1_readAll cX1_readAll 4 (some .boolean) (lv + 3) (60 * (lv + 3)) 0 0 [.ref o, .int w] X (some (.int r.1), r.2)) {r : Int32 × XW} {l0 : Nat} {l1 : Int32} {Q : State → Prop} {rec : Int32 → Int32 → XW → Option (Int32 × XW)} (hrec : ∀ {y2 : Int32} {y3 : Int32} {X : XW} {H : Heap} {locs : List Loc} {ls : Array Slot}, XD G X0 X s H locs → lv_has ls 4 [(0, .ref l0), (1, .int l1), (2, .int y2), (3, .int y3)] → rec y2 y3 X = some r → W p l e { frames := lv + 7, cells := 0, slots := 0, locals := 60 * (lv + 7) } s m args below meth c H locs 0 0 Q (F0 m 8 ls [])) (hK : ∀ {H : Heap} {locs : List Loc} {ls : Array Slot}, XD G X0 r.2 s H locs → lv_has ls 4 [(2, .int r.1)] → W p l e { frames := lv + 7, cells := 0, slots := 0, locals := 60 * (lv + 7) } s m args below meth c H locs 0 0 Q (F0 m 53 ls []))  {l2 : Int32} {l3 : Int32} {X : XW} {H : Heap} {locs : List Loc} {ls : Array Slot} (W0 : XD G X0 X s H locs) (hl : lv_has ls 4 [(0, .ref l0), (1, .int l1), (2, .int l2), (3, .int l3)]) (h : fX1_readAll_l8_b rA rec l0 l1 l2 l3 X = some r) : W p l e { frames := lv + 7, cells := 0, slots := 0, locals := 60 * (lv + 7) } s m args below meth c H locs 0 0 Q (F0 m 8 ls []) := by
  have hx := C0.1
  have hb := C0.2.1
  unfold fX1_readAll_l8_b at h
  refine lv_iload_n hx hb dX1_readAll_8 rfl (lv_at hl 3 rfl) ?_
  refine lv_sipush (v := 1000) hx hb dX1_readAll_9 (by decide) ?_
  refine lv_icmp_ge (tgt := 53) hx hb dX1_readAll_12 (by decide) (fun hcq => ?_) (fun hcq => ?_)
  · have h := it_t hcq h
    cases h
    exact hK W0 (lv_sub hl [2] rfl)
  · have h := it_f hcq h
    refine lv_iload_n hx hb dX1_readAll_15 rfl (lv_at hl 2 rfl) ?_
    refine lv_if_eq (tgt := 53) hx hb dX1_readAll_16 (by decide) (fun hcq => ?_) (fun hcq => ?_)
    · have h := it_t hcq h
      cases h
      exact hK W0 (lv_sub hl [2] rfl)
    · have h := it_f hcq h
      refine lv_aload_n hx hb dX1_readAll_19 rfl (lv_at hl 0 rfl) ?_
      obtain ⟨v1, h2, h⟩ := ob h
      refine xr_getI C0 W0 cl_X1 3 (by decide) fl_X1_15 rfl h2 dX1_readAll_20 ?_
      refine lv_bipush (v := 16) hx hb dX1_readAll_23 (by decide) ?_
      refine lv_icmp_ne (tgt := 53) hx hb dX1_readAll_25 (by decide) (fun hcq => ?_) (fun hcq => ?_)
      · have h := it_f hcq h
        cases h
        exact hK W0 (lv_sub hl [2] rfl)
      · have h := it_t hcq h
        refine lv_aload_n hx hb dX1_readAll_28 rfl (lv_at hl 0 rfl) ?_
        obtain ⟨u3, h4, h⟩ := ob h
        obtain ⟨X5, h6, h⟩ := ob h
        refine xr_V (As := []) (rest := []) C0 W0 (ctX1_goOn l G h6) (gK_of h4) (rr := (RX1, TX1, 5)) rfl rfl mc_X1_goOn mv_X1_goOn ml_X1_59 ⟨by dsimp only; omega, by dsimp only; omega⟩ rfl hl.1 rfl (Nat.le_of_ble_eq_true rfl) ⟨Nat.le_of_ble_eq_true rfl, Nat.le_of_ble_eq_true rfl⟩ dX1_readAll_29 (fun H locs W0 => ?_)
        refine W.cs (cells' := 0) (slots' := 0) rfl rfl ?_
        refine W.eq (g2 := F0 m 32 ls []) rfl ?_
        refine lv_aload_n hx hb dX1_readAll_32 rfl (lv_at hl 0 rfl) ?_
        refine lv_iload_n hx hb dX1_readAll_33 rfl (lv_at hl 1 rfl) ?_
        obtain ⟨u7, h8, h⟩ := ob h
        obtain ⟨r9, h10, h⟩ := ob h
        refine xr_V (As := [.int l1]) (rest := []) C0 W0 (ctX1_readTest l G hrA h10) (gK_of h8) (rr := (RX1, TX1, 5)) rfl rfl mc_X1_readTest mv_X1_readTest ml_X1_87 ⟨by dsimp only; omega, by dsimp only; omega⟩ rfl hl.1 rfl (Nat.le_of_ble_eq_true rfl) ⟨Nat.le_of_ble_eq_true rfl, Nat.le_of_ble_eq_true rfl⟩ dX1_readAll_34 (fun H locs W0 => ?_)
        refine W.cs (cells' := 0) (slots' := 0) rfl rfl ?_
        refine W.eq (g2 := F0 m 37 ls [.int r9.1]) rfl ?_
        refine lv_istore_n (lv' := [(2, .int r9.1), (0, .ref l0), (1, .int l1), (3, .int l3)]) hx hb dX1_readAll_37 rfl hl (by decide) rfl (fun ls hl => ?_)
        refine lv_aload_n hx hb dX1_readAll_38 rfl (lv_at hl 1 rfl) ?_
        obtain ⟨q11, h12, h⟩ := ob h
        refine xr_getR C0 W0 cl_X1 0 (by decide) fl_X1_26 rfl h12 dX1_readAll_39 ?_
        refine lv_bipush (v := 16) hx hb dX1_readAll_42 (by decide) ?_
        obtain ⟨u13, h14, h⟩ := ob h
        obtain ⟨X15, h16, h⟩ := ob h
        refine xr_V (As := [.int 16]) (rest := []) C0 W0 (ctX5_addSign l G h16) (gK_of h14) (rr := (RX5, TX5, 8)) rfl rfl mc_X5_addSign mv_X5_addSign ml_X1_90 ⟨by dsimp only; omega, by dsimp only; omega⟩ rfl hl.1 rfl (Nat.le_of_ble_eq_true rfl) ⟨Nat.le_of_ble_eq_true rfl, Nat.le_of_ble_eq_true rfl⟩ dX1_readAll_44 (fun H locs W0 => ?_)
        refine W.cs (cells' := 0) (slots' := 0) rfl rfl ?_
        refine W.eq (g2 := F0 m 47 ls []) rfl ?_
        refine lv_iinc (v := (l3 + 1)) (lv' := [(3, .int (l3 + 1)), (2, .int r9.1), (0, .ref l0), (1, .int l1)]) hx hb dX1_readAll_47 hl (k := 3) rfl (ii (by decide)) (by decide) rfl (fun ls hl => ?_)
        refine lv_goto (tgt := 8) hx hb dX1_readAll_50 (by decide) ?_
        exact hrec W0 (lv_sub hl [2, 3, 1, 0] rfl) h
theorem tX1_readAll_l8 {p : Program} {l : Launch} {e : Env} {s : State} {m : MethodId} {args : Array Value} {below : List Frame} {meth : Method} {c : Code} {G : XG} {X0 : XW} (C0 : XC p s m args meth c RX1 cX1_readAll 4 G) (hret : meth.sig.returnType = (some .boolean)) {rA : Nat → Int32 → XW → Option (Int32 × XW)} {lv : Nat} (hrA : ∀ {o : Nat} {w : Int32} {X : XW} {r : Int32 × XW}, rA o w X = some r → XM l G yX1_readAll cX1_readAll 4 (some .boolean) (lv + 3) (60 * (lv + 3)) 0 0 [.ref o, .int w] X (some (.int r.1), r.2)) {r : Int32 × XW} {l0 : Nat} {l1 : Int32} {Q : State → Prop} (hK : ∀ {H : Heap} {locs : List Loc} {ls : Array Slot}, XD G X0 r.2 s H locs → lv_has ls 4 [(2, .int r.1)] → W p l e { frames := lv + 7, cells := 0, slots := 0, locals := 60 * (lv + 7) } s m args below meth c H locs 0 0 Q (F0 m 53 ls [])) : ∀ (n : Nat) {y2 : Int32} {y3 : Int32} {X : XW} {H : Heap} {locs : List Loc} {ls : Array Slot}, XD G X0 X s H locs → lv_has ls 4 [(0, .ref l0), (1, .int l1), (2, .int y2), (3, .int y3)] → fX1_readAll_l8 rA l0 l1 n y2 y3 X = some r → W p l e { frames := lv + 7, cells := 0, slots := 0, locals := 60 * (lv + 7) } s m args below meth c H locs 0 0 Q (F0 m 8 ls []) := by
  intro n
  induction n with
  | zero =>
    intro y2 y3 X H locs ls W0 hl h
    cases h
  | succ n ih =>
    intro y2 y3 X H locs ls W0 hl h
    exact tX1_readAll_l8_b C0 hret hrA (rec := fX1_readAll_l8 rA l0 l1 n) (fun W0 hl h => ih W0 hl h) hK W0 hl h
theorem ctX1_readAll (l : Launch) (G : XG) {l0 : Nat} {l1 : Int32} {X : XW} {r : Int32 × XW}  {rA : Nat → Int32 → XW → Option (Int32 × XW)} {lv : Nat} (hrA : ∀ {o : Nat} {w : Int32} {X : XW} {r : Int32 × XW}, rA o w X = some r → XM l G yX1_readAll cX1_readAll 4 (some .boolean) (lv + 3) (60 * (lv + 3)) 0 0 [.ref o, .int w] X (some (.int r.1), r.2)) (h : fX1_readAll rA l0 l1 X = some r) : XM l G yX1_readAll cX1_readAll 4 (some .boolean) (lv + 7) (60 * (lv + 7)) 0 0 [.ref l0, .int l1] X (some (.int r.1), r.2) := by
  refine xm_of (own := RX1) (by decide) rfl (Nat.le_of_ble_eq_true rfl) ?_
  intro p e s m below meth c ls C0 W0 hret hnm hl
  have hx := C0.1
  have hb := C0.2.1
  have hl : lv_has ls 4 [(0, .ref l0), (1, .int l1)] := hl
  unfold fX1_readAll at h
  refine lv_aload_n hx hb dX1_readAll_0 rfl (lv_at hl 0 rfl) ?_
  refine lv_iload_n hx hb dX1_readAll_1 rfl (lv_at hl 1 rfl) ?_
  obtain ⟨u1, h2, h⟩ := ob h
  obtain ⟨r3, h4, h⟩ := ob h
  refine xr_V (As := [.int l1]) (rest := []) C0 W0 (ctX1_readTest l G hrA h4) (gK_of h2) (rr := (RX1, TX1, 5)) rfl rfl mc_X1_readTest mv_X1_readTest ml_X1_87 ⟨by dsimp only; omega, by dsimp only; omega⟩ rfl hl.1 rfl (Nat.le_of_ble_eq_true rfl) ⟨Nat.le_of_ble_eq_true rfl, Nat.le_of_ble_eq_true rfl⟩ dX1_readAll_2 (fun H locs W0 => ?_)
  refine W.cs (cells' := 0) (slots' := 0) rfl rfl ?_
  refine W.eq (g2 := F0 m 5 ls [.int r3.1]) rfl ?_
  refine lv_istore_n (lv' := [(2, .int r3.1), (0, .ref l0), (1, .int l1)]) hx hb dX1_readAll_5 rfl hl (by decide) rfl (fun ls hl => ?_)
  refine lv_iconst (v := 0) hx hb dX1_readAll_6 (by decide) ?_
  refine lv_istore_n (lv' := [(3, .int 0), (2, .int r3.1), (0, .ref l0), (1, .int l1)]) hx hb dX1_readAll_7 rfl hl (by decide) rfl (fun ls hl => ?_)
  obtain ⟨r5, h6, h⟩ := ob h
  refine tX1_readAll_l8 C0 hret hrA (fun {H} {locs} {ls} W0 hl => ?_) FU W0 (lv_sub hl [2, 3, 1, 0] rfl) h6
  refine lv_iload_n hx hb dX1_readAll_53 rfl (lv_at hl 0 rfl) ?_
  obtain ⟨u7, h8, h⟩ := ob h
  exact xr_zret C0 W0 hret (zG_of h8) (Option.some.inj h) dX1_readAll_54
def fX1_readAllR (d : Nat) : Nat → Int32 → XW → Option (Int32 × XW) := iter (fun rA => fX1_readAll rA) (fun _ _ _ => none) d
theorem ctX1_readAllR (l : Launch) (G : XG) : ∀ (d : Nat) {o : Nat} {w : Int32} {X : XW} {r : Int32 × XW}, fX1_readAllR d o w X = some r → XM l G yX1_readAll cX1_readAll 4 (some .boolean) (4 * d + 3) (60 * (4 * d + 3)) 0 0 [.ref o, .int w] X (some (.int r.1), r.2) := by
  intro d
  induction d with
  | zero =>
    intro o w X r h
    cases h
  | succ d ih =>
    intro o w X r h
    have e : 4 * (d + 1) + 3 = 4 * d + 7 := by omega
    rw [e]
    exact ctX1_readAll l G (lv := 4 * d) (rA := fX1_readAllR d) (fun h => ih h) h
