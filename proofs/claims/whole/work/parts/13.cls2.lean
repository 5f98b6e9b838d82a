def fX1_readLine_j159  (l0 : Nat) (l1 : Int32) (l2 : Int32) (X : XW) : Option (Int32 × XW) :=
  gR X l0 1 0 >>= fun q1 =>
  gR X q1 5 4 >>= fun q3 =>
  gR X l0 1 0 >>= fun q5 =>
  gI X q5 5 7 >>= fun v7 =>
  uI X q3 l1 v7 >>= fun X9 =>
  if (l2 = 0 : Prop) then (some (0, X9))
  else (gI X9 l0 1 3 >>= fun v11 =>
    if (v11 = 23 : Prop) then (gK X9 l0 1 >>= fun u13 =>
      fX1_goOn l0 X9 >>= fun X15 =>
      gR X15 l0 1 0 >>= fun q17 =>
      pI X15 q17 5 6 (l1 + 1) >>= fun X19 =>
      some (1, X19))
    else (gK X9 l0 1 >>= fun u21 =>
      fX1_refuse l0 1 X9 >>= fun r23 =>
      zG r23.1 >>= fun u25 =>
      some (r23.1, r23.2)))
def fX1_readLine_j58  (l0 : Nat) (l1 : Int32) (s0 : Int32) (s1 : Int32) (s2 : Nat) (X : XW) : Option (Int32 × XW) :=
  uZ X s2 s1 s0 >>= fun X1 =>
  gK X1 l0 1 >>= fun u3 =>
  fX1_goOn l0 X1 >>= fun X5 =>
  gI X5 l0 1 3 >>= fun v7 =>
  fX9_isWithin v7 0 2 X5 >>= fun r9 =>
  if (r9.1 = 0 : Prop) then (gK r9.2 l0 1 >>= fun u57 =>
    fX1_refuse l0 1 r9.2 >>= fun r59 =>
    zG r59.1 >>= fun u61 =>
    some (r59.1, r59.2))
  else (gR r9.2 l0 1 0 >>= fun q11 =>
    gR r9.2 q11 5 1 >>= fun q13 =>
    gI r9.2 l0 1 3 >>= fun v15 =>
    uI r9.2 q13 l1 v15 >>= fun X17 =>
    gK X17 l0 1 >>= fun u19 =>
    fX1_goOn l0 X17 >>= fun X21 =>
    gR X21 l0 1 0 >>= fun q23 =>
    gR X21 q23 5 2 >>= fun q25 =>
    gR X21 l0 1 0 >>= fun q27 =>
    gI X21 q27 5 7 >>= fun v29 =>
    uI X21 q25 l1 v29 >>= fun X31 =>
    gK X31 l0 1 >>= fun u33 =>
    fX1_readAllR 6 l0 0 X31 >>= fun r35 =>
    gR r35.2 l0 1 0 >>= fun q37 =>
    gR r35.2 q37 5 3 >>= fun q39 =>
    gR r35.2 l0 1 0 >>= fun q41 =>
    gI r35.2 q41 5 7 >>= fun v43 =>
    uI r35.2 q39 l1 v43 >>= fun X45 =>
    if (r35.1 = 0 : Prop) then (fX1_readLine_j159 l0 l1 r35.1 X45)
    else (gI X45 l0 1 3 >>= fun v47 =>
      if (v47 = 15 : Prop) then (gK X45 l0 1 >>= fun u49 =>
        fX1_goOn l0 X45 >>= fun X51 =>
        gK X51 l0 1 >>= fun u53 =>
        fX1_readAllR 6 l0 0 X51 >>= fun r55 =>
        fX1_readLine_j159 l0 l1 r55.1 r55.2)
      else (fX1_readLine_j159 l0 l1 r35.1 X45)))
def fX1_readLine_j24  (l0 : Nat) (l1 : Int32) (X : XW) : Option (Int32 × XW) :=
  if (l1 < 24 : Prop) then (gR X l0 1 0 >>= fun q1 =>
    gR X q1 5 0 >>= fun q3 =>
    gI X l0 1 3 >>= fun v5 =>
    if (v5 = 14 : Prop) then (fX1_readLine_j58 l0 l1 1 l1 q3 X)
    else (fX1_readLine_j58 l0 l1 0 l1 q3 X))
  else (gK X l0 1 >>= fun u7 =>
    fX1_refuse l0 5 X >>= fun r9 =>
    zG r9.1 >>= fun u11 =>
    some (r9.1, r9.2))
def fX1_readLine (l0 : Nat) (l1 : Int32) (X : XW) : Option (Int32 × XW) :=
  gI X l0 1 3 >>= fun v1 =>
  if (v1 = 13 : Prop) then (fX1_readLine_j24 l0 l1 X)
  else (gI X l0 1 3 >>= fun v3 =>
    if (v3 = 14 : Prop) then (fX1_readLine_j24 l0 l1 X)
    else (gK X l0 1 >>= fun u5 =>
      fX1_refuse l0 1 X >>= fun r7 =>
      zG r7.1 >>= fun u9 =>
      some (r7.1, r7.2)))
theorem tX1_readLine_j159 {p : Program} {l : Launch} {e : Env} {s : State} {m : MethodId} {args : Array Value} {below : List Frame} {meth : Method} {c : Code} {G : XG} {X0 : XW} (C0 : XC p s m args meth c RX1 cX1_readLine 3 G) (hret : meth.sig.returnType = (some .boolean)) {r : Int32 × XW} {l0 : Nat} {l1 : Int32} {l2 : Int32} {X : XW} {H : Heap} {locs : List Loc} {ls : Array Slot} (W0 : XD G X0 X s H locs) (hl : lv_has ls 3 [(0, .ref l0), (1, .int l1), (2, .int l2)]) (h : fX1_readLine_j159 l0 l1 l2 X = some r) : W p l e { frames := 28, cells := 0, slots := 0, locals := 1680 } s m args below meth c H locs 0 0 (MQ below (XQ G X0 (some (.int r.1), r.2)) args s 0 0 (xAd X0)) (F0 m 159 ls []) := by
  have hx := C0.1
  have hb := C0.2.1
  unfold fX1_readLine_j159 at h
  refine lv_aload_n hx hb dX1_readLine_159 rfl (lv_at hl 0 rfl) ?_
  obtain ⟨q1, h2, h⟩ := ob h
  refine xr_getR C0 W0 cl_X1 0 (by decide) fl_X1_26 rfl h2 dX1_readLine_160 ?_
  obtain ⟨q3, h4, h⟩ := ob h
  refine xr_getR C0 W0 cl_X5 4 (by decide) fl_X1_81 rfl h4 dX1_readLine_163 ?_
  refine lv_iload_n hx hb dX1_readLine_166 rfl (lv_at hl 1 rfl) ?_
  refine lv_aload_n hx hb dX1_readLine_167 rfl (lv_at hl 0 rfl) ?_
  obtain ⟨q5, h6, h⟩ := ob h
  refine xr_getR C0 W0 cl_X1 0 (by decide) fl_X1_26 rfl h6 dX1_readLine_168 ?_
  obtain ⟨v7, h8, h⟩ := ob h
  refine xr_getI C0 W0 cl_X5 7 (by decide) fl_X1_72 rfl h8 dX1_readLine_171 ?_
  obtain ⟨X9, h10, h⟩ := ob h
  refine xr_iast C0 W0 h10 dX1_readLine_174 (fun H locs W0 => ?_)
  refine lv_iload_n hx hb dX1_readLine_175 rfl (lv_at hl 2 rfl) ?_
  refine lv_if_ne (tgt := 181) hx hb dX1_readLine_176 (by decide) (fun hcq => ?_) (fun hcq => ?_)
  · have h := it_f hcq h
    refine lv_aload_n hx hb dX1_readLine_181 rfl (lv_at hl 0 rfl) ?_
    obtain ⟨v11, h12, h⟩ := ob h
    refine xr_getI C0 W0 cl_X1 3 (by decide) fl_X1_15 rfl h12 dX1_readLine_182 ?_
    refine lv_bipush (v := 23) hx hb dX1_readLine_185 (by decide) ?_
    refine lv_icmp_eq (tgt := 196) hx hb dX1_readLine_187 (by decide) (fun hcq => ?_) (fun hcq => ?_)
    · have h := it_t hcq h
      refine lv_aload_n hx hb dX1_readLine_196 rfl (lv_at hl 0 rfl) ?_
      obtain ⟨u13, h14, h⟩ := ob h
      obtain ⟨X15, h16, h⟩ := ob h
      refine xr_V (As := []) (rest := []) C0 W0 (ctX1_goOn l G h16) (gK_of h14) (rr := (RX1, TX1, 5)) rfl rfl mc_X1_goOn mv_X1_goOn ml_X1_59 ⟨by decide, by decide⟩ rfl hl.1 rfl (Nat.le_of_ble_eq_true rfl) ⟨by decide, by decide⟩ dX1_readLine_197 (fun H locs W0 => ?_)
      refine W.cs (cells' := 0) (slots' := 0) rfl rfl ?_
      refine W.eq (g2 := F0 m 200 ls []) rfl ?_
      refine lv_aload_n hx hb dX1_readLine_200 rfl (lv_at hl 0 rfl) ?_
      obtain ⟨q17, h18, h⟩ := ob h
      refine xr_getR C0 W0 cl_X1 0 (by decide) fl_X1_26 rfl h18 dX1_readLine_201 ?_
      refine lv_iload_n hx hb dX1_readLine_204 rfl (lv_at hl 1 rfl) ?_
      refine lv_iconst (v := 1) hx hb dX1_readLine_205 (by decide) ?_
      refine lv_iadd hx hb dX1_readLine_206 ?_
      obtain ⟨X19, h20, h⟩ := ob h
      refine xr_putI C0 W0 cl_X5 6 (by decide) fl_X1_84 rfl rfl rfl (by decide) h20 dX1_readLine_207 (fun H locs W0 => ?_)
      refine lv_iconst (v := 1) hx hb dX1_readLine_210 (by decide) ?_
      exact xr_zret C0 W0 hret (by decide) (Option.some.inj h) dX1_readLine_211
    · have h := it_f hcq h
      refine lv_aload_n hx hb dX1_readLine_190 rfl (lv_at hl 0 rfl) ?_
      refine lv_iconst (v := 1) hx hb dX1_readLine_191 (by decide) ?_
      obtain ⟨u21, h22, h⟩ := ob h
      obtain ⟨r23, h24, h⟩ := ob h
      refine xr_V (As := [.int 1]) (rest := []) C0 W0 (ctX1_refuse l G h24) (gK_of h22) (rr := (RX1, TX1, 5)) rfl rfl mc_X1_refuse mv_X1_refuse ml_X1_52 ⟨by decide, by decide⟩ rfl hl.1 rfl (Nat.le_of_ble_eq_true rfl) ⟨by decide, by decide⟩ dX1_readLine_192 (fun H locs W0 => ?_)
      refine W.cs (cells' := 0) (slots' := 0) rfl rfl ?_
      refine W.eq (g2 := F0 m 195 ls [.int r23.1]) rfl ?_
      obtain ⟨u25, h26, h⟩ := ob h
      exact xr_zret C0 W0 hret (zG_of h26) (Option.some.inj h) dX1_readLine_195
  · have h := it_t hcq h
    refine lv_iconst (v := 0) hx hb dX1_readLine_179 (by decide) ?_
    exact xr_zret C0 W0 hret (by decide) (Option.some.inj h) dX1_readLine_180
theorem tX1_readLine_j58 {p : Program} {l : Launch} {e : Env} {s : State} {m : MethodId} {args : Array Value} {below : List Frame} {meth : Method} {c : Code} {G : XG} {X0 : XW} (C0 : XC p s m args meth c RX1 cX1_readLine 3 G) (hret : meth.sig.returnType = (some .boolean)) {r : Int32 × XW} {l0 : Nat} {l1 : Int32} {s0 : Int32} {s1 : Int32} {s2 : Nat} {X : XW} {H : Heap} {locs : List Loc} {ls : Array Slot} (W0 : XD G X0 X s H locs) (hl : lv_has ls 3 [(0, .ref l0), (1, .int l1)]) (h : fX1_readLine_j58 l0 l1 s0 s1 s2 X = some r) : W p l e { frames := 28, cells := 0, slots := 0, locals := 1680 } s m args below meth c H locs 0 0 (MQ below (XQ G X0 (some (.int r.1), r.2)) args s 0 0 (xAd X0)) (F0 m 58 ls [.int s0, .int s1, .ref s2]) := by
  have hx := C0.1
  have hb := C0.2.1
  unfold fX1_readLine_j58 at h
  obtain ⟨X1, h2, h⟩ := ob h
  refine xr_zast C0 W0 h2 dX1_readLine_58 (fun H locs W0 => ?_)
  refine lv_aload_n hx hb dX1_readLine_59 rfl (lv_at hl 0 rfl) ?_
  obtain ⟨u3, h4, h⟩ := ob h
  obtain ⟨X5, h6, h⟩ := ob h
  refine xr_V (As := []) (rest := []) C0 W0 (ctX1_goOn l G h6) (gK_of h4) (rr := (RX1, TX1, 5)) rfl rfl mc_X1_goOn mv_X1_goOn ml_X1_59 ⟨by decide, by decide⟩ rfl hl.1 rfl (Nat.le_of_ble_eq_true rfl) ⟨by decide, by decide⟩ dX1_readLine_60 (fun H locs W0 => ?_)
  refine W.cs (cells' := 0) (slots' := 0) rfl rfl ?_
  refine W.eq (g2 := F0 m 63 ls []) rfl ?_
  refine lv_aload_n hx hb dX1_readLine_63 rfl (lv_at hl 0 rfl) ?_
  obtain ⟨v7, h8, h⟩ := ob h
  refine xr_getI C0 W0 cl_X1 3 (by decide) fl_X1_15 rfl h8 dX1_readLine_64 ?_
  refine lv_iconst (v := 0) hx hb dX1_readLine_67 (by decide) ?_
  refine lv_iconst (v := 2) hx hb dX1_readLine_68 (by decide) ?_
  obtain ⟨r9, h10, h⟩ := ob h
  refine xr_SN (As := [.int v7, .int 0, .int 2]) (rest := []) C0 W0 (ctX9_isWithin l G h10) mc_X9_isWithin ms_X9_isWithin (xnw_570 C0.2.2.2.2.2.1.2) ⟨by decide, by decide⟩ rfl hl.1 rfl (Nat.le_of_ble_eq_true rfl) ⟨by decide, by decide⟩ dX1_readLine_69 (fun H locs W0 => ?_)
  refine W.cs (cells' := 0) (slots' := 0) rfl rfl ?_
  refine W.eq (g2 := F0 m 72 ls [.int r9.1]) rfl ?_
  refine lv_if_ne (tgt := 81) hx hb dX1_readLine_72 (by decide) (fun hcq => ?_) (fun hcq => ?_)
  · have h := it_f hcq h
    refine lv_aload_n hx hb dX1_readLine_81 rfl (lv_at hl 0 rfl) ?_
    obtain ⟨q11, h12, h⟩ := ob h
    refine xr_getR C0 W0 cl_X1 0 (by decide) fl_X1_26 rfl h12 dX1_readLine_82 ?_
    obtain ⟨q13, h14, h⟩ := ob h
    refine xr_getR C0 W0 cl_X5 1 (by decide) fl_X1_66 rfl h14 dX1_readLine_85 ?_
    refine lv_iload_n hx hb dX1_readLine_88 rfl (lv_at hl 1 rfl) ?_
    refine lv_aload_n hx hb dX1_readLine_89 rfl (lv_at hl 0 rfl) ?_
    obtain ⟨v15, h16, h⟩ := ob h
    refine xr_getI C0 W0 cl_X1 3 (by decide) fl_X1_15 rfl h16 dX1_readLine_90 ?_
    obtain ⟨X17, h18, h⟩ := ob h
    refine xr_iast C0 W0 h18 dX1_readLine_93 (fun H locs W0 => ?_)
    refine lv_aload_n hx hb dX1_readLine_94 rfl (lv_at hl 0 rfl) ?_
    obtain ⟨u19, h20, h⟩ := ob h
    obtain ⟨X21, h22, h⟩ := ob h
    refine xr_V (As := []) (rest := []) C0 W0 (ctX1_goOn l G h22) (gK_of h20) (rr := (RX1, TX1, 5)) rfl rfl mc_X1_goOn mv_X1_goOn ml_X1_59 ⟨by decide, by decide⟩ rfl hl.1 rfl (Nat.le_of_ble_eq_true rfl) ⟨by decide, by decide⟩ dX1_readLine_95 (fun H locs W0 => ?_)
    refine W.cs (cells' := 0) (slots' := 0) rfl rfl ?_
    refine W.eq (g2 := F0 m 98 ls []) rfl ?_
    refine lv_aload_n hx hb dX1_readLine_98 rfl (lv_at hl 0 rfl) ?_
    obtain ⟨q23, h24, h⟩ := ob h
    refine xr_getR C0 W0 cl_X1 0 (by decide) fl_X1_26 rfl h24 dX1_readLine_99 ?_
    obtain ⟨q25, h26, h⟩ := ob h
    refine xr_getR C0 W0 cl_X5 2 (by decide) fl_X1_69 rfl h26 dX1_readLine_102 ?_
    refine lv_iload_n hx hb dX1_readLine_105 rfl (lv_at hl 1 rfl) ?_
    refine lv_aload_n hx hb dX1_readLine_106 rfl (lv_at hl 0 rfl) ?_
    obtain ⟨q27, h28, h⟩ := ob h
    refine xr_getR C0 W0 cl_X1 0 (by decide) fl_X1_26 rfl h28 dX1_readLine_107 ?_
    obtain ⟨v29, h30, h⟩ := ob h
    refine xr_getI C0 W0 cl_X5 7 (by decide) fl_X1_72 rfl h30 dX1_readLine_110 ?_
    obtain ⟨X31, h32, h⟩ := ob h
    refine xr_iast C0 W0 h32 dX1_readLine_113 (fun H locs W0 => ?_)
    refine lv_aload_n hx hb dX1_readLine_114 rfl (lv_at hl 0 rfl) ?_
    refine lv_iconst (v := 0) hx hb dX1_readLine_115 (by decide) ?_
    obtain ⟨u33, h34, h⟩ := ob h
    obtain ⟨r35, h36, h⟩ := ob h
    refine xr_V (As := [.int 0]) (rest := []) C0 W0 (ctX1_readAllR l G 6 h36) (gK_of h34) (rr := (RX1, TX1, 5)) rfl rfl mc_X1_readAll mv_X1_readAll ml_X1_75 ⟨by decide, by decide⟩ rfl hl.1 rfl (Nat.le_of_ble_eq_true rfl) ⟨by decide, by decide⟩ dX1_readLine_116 (fun H locs W0 => ?_)
    refine W.cs (cells' := 0) (slots' := 0) rfl rfl ?_
    refine W.eq (g2 := F0 m 119 ls [.int r35.1]) rfl ?_
    refine lv_istore_n (lv' := [(2, .int r35.1), (0, .ref l0), (1, .int l1)]) hx hb dX1_readLine_119 rfl hl (by decide) rfl (fun ls hl => ?_)
    refine lv_aload_n hx hb dX1_readLine_120 rfl (lv_at hl 1 rfl) ?_
    obtain ⟨q37, h38, h⟩ := ob h
    refine xr_getR C0 W0 cl_X1 0 (by decide) fl_X1_26 rfl h38 dX1_readLine_121 ?_
    obtain ⟨q39, h40, h⟩ := ob h
    refine xr_getR C0 W0 cl_X5 3 (by decide) fl_X1_78 rfl h40 dX1_readLine_124 ?_
    refine lv_iload_n hx hb dX1_readLine_127 rfl (lv_at hl 2 rfl) ?_
    refine lv_aload_n hx hb dX1_readLine_128 rfl (lv_at hl 1 rfl) ?_
    obtain ⟨q41, h42, h⟩ := ob h
    refine xr_getR C0 W0 cl_X1 0 (by decide) fl_X1_26 rfl h42 dX1_readLine_129 ?_
    obtain ⟨v43, h44, h⟩ := ob h
    refine xr_getI C0 W0 cl_X5 7 (by decide) fl_X1_72 rfl h44 dX1_readLine_132 ?_
    obtain ⟨X45, h46, h⟩ := ob h
    refine xr_iast C0 W0 h46 dX1_readLine_135 (fun H locs W0 => ?_)
    refine lv_iload_n hx hb dX1_readLine_136 rfl (lv_at hl 0 rfl) ?_
    refine lv_if_eq (tgt := 159) hx hb dX1_readLine_137 (by decide) (fun hcq => ?_) (fun hcq => ?_)
    · have h := it_t hcq h
      exact tX1_readLine_j159 C0 hret W0 (lv_sub hl [1, 2, 0] rfl) h
    · have h := it_f hcq h
      refine lv_aload_n hx hb dX1_readLine_140 rfl (lv_at hl 1 rfl) ?_
      obtain ⟨v47, h48, h⟩ := ob h
      refine xr_getI C0 W0 cl_X1 3 (by decide) fl_X1_15 rfl h48 dX1_readLine_141 ?_
      refine lv_bipush (v := 15) hx hb dX1_readLine_144 (by decide) ?_
      refine lv_icmp_ne (tgt := 159) hx hb dX1_readLine_146 (by decide) (fun hcq => ?_) (fun hcq => ?_)
      · have h := it_f hcq h
        exact tX1_readLine_j159 C0 hret W0 (lv_sub hl [1, 2, 0] rfl) h
      · have h := it_t hcq h
        refine lv_aload_n hx hb dX1_readLine_149 rfl (lv_at hl 1 rfl) ?_
        obtain ⟨u49, h50, h⟩ := ob h
        obtain ⟨X51, h52, h⟩ := ob h
        refine xr_V (As := []) (rest := []) C0 W0 (ctX1_goOn l G h52) (gK_of h50) (rr := (RX1, TX1, 5)) rfl rfl mc_X1_goOn mv_X1_goOn ml_X1_59 ⟨by decide, by decide⟩ rfl hl.1 rfl (Nat.le_of_ble_eq_true rfl) ⟨by decide, by decide⟩ dX1_readLine_150 (fun H locs W0 => ?_)
        refine W.cs (cells' := 0) (slots' := 0) rfl rfl ?_
        refine W.eq (g2 := F0 m 153 ls []) rfl ?_
        refine lv_aload_n hx hb dX1_readLine_153 rfl (lv_at hl 1 rfl) ?_
        refine lv_iconst (v := 0) hx hb dX1_readLine_154 (by decide) ?_
        obtain ⟨u53, h54, h⟩ := ob h
        obtain ⟨r55, h56, h⟩ := ob h
        refine xr_V (As := [.int 0]) (rest := []) C0 W0 (ctX1_readAllR l G 6 h56) (gK_of h54) (rr := (RX1, TX1, 5)) rfl rfl mc_X1_readAll mv_X1_readAll ml_X1_75 ⟨by decide, by decide⟩ rfl hl.1 rfl (Nat.le_of_ble_eq_true rfl) ⟨by decide, by decide⟩ dX1_readLine_155 (fun H locs W0 => ?_)
        refine W.cs (cells' := 0) (slots' := 0) rfl rfl ?_
        refine W.eq (g2 := F0 m 158 ls [.int r55.1]) rfl ?_
        refine lv_istore_n (lv' := [(2, .int r55.1), (0, .ref l0), (1, .int l1)]) hx hb dX1_readLine_158 rfl hl (by decide) rfl (fun ls hl => ?_)
        exact tX1_readLine_j159 C0 hret W0 (lv_sub hl [1, 2, 0] rfl) h
  · have h := it_t hcq h
    refine lv_aload_n hx hb dX1_readLine_75 rfl (lv_at hl 0 rfl) ?_
    refine lv_iconst (v := 1) hx hb dX1_readLine_76 (by decide) ?_
    obtain ⟨u57, h58, h⟩ := ob h
    obtain ⟨r59, h60, h⟩ := ob h
    refine xr_V (As := [.int 1]) (rest := []) C0 W0 (ctX1_refuse l G h60) (gK_of h58) (rr := (RX1, TX1, 5)) rfl rfl mc_X1_refuse mv_X1_refuse ml_X1_52 ⟨by decide, by decide⟩ rfl hl.1 rfl (Nat.le_of_ble_eq_true rfl) ⟨by decide, by decide⟩ dX1_readLine_77 (fun H locs W0 => ?_)
    refine W.cs (cells' := 0) (slots' := 0) rfl rfl ?_
    refine W.eq (g2 := F0 m 80 ls [.int r59.1]) rfl ?_
    obtain ⟨u61, h62, h⟩ := ob h
    exact xr_zret C0 W0 hret (zG_of h62) (Option.some.inj h) dX1_readLine_80
theorem tX1_readLine_j24 {p : Program} {l : Launch} {e : Env} {s : State} {m : MethodId} {args : Array Value} {below : List Frame} {meth : Method} {c : Code} {G : XG} {X0 : XW} (C0 : XC p s m args meth c RX1 cX1_readLine 3 G) (hret : meth.sig.returnType = (some .boolean)) {r : Int32 × XW} {l0 : Nat} {l1 : Int32} {X : XW} {H : Heap} {locs : List Loc} {ls : Array Slot} (W0 : XD G X0 X s H locs) (hl : lv_has ls 3 [(0, .ref l0), (1, .int l1)]) (h : fX1_readLine_j24 l0 l1 X = some r) : W p l e { frames := 28, cells := 0, slots := 0, locals := 1680 } s m args below meth c H locs 0 0 (MQ below (XQ G X0 (some (.int r.1), r.2)) args s 0 0 (xAd X0)) (F0 m 24 ls []) := by
  have hx := C0.1
  have hb := C0.2.1
  unfold fX1_readLine_j24 at h
  refine lv_iload_n hx hb dX1_readLine_24 rfl (lv_at hl 1 rfl) ?_
  refine lv_bipush (v := 24) hx hb dX1_readLine_25 (by decide) ?_
  refine lv_icmp_lt (tgt := 36) hx hb dX1_readLine_27 (by decide) (fun hcq => ?_) (fun hcq => ?_)
  · have h := it_t hcq h
    refine lv_aload_n hx hb dX1_readLine_36 rfl (lv_at hl 0 rfl) ?_
    obtain ⟨q1, h2, h⟩ := ob h
    refine xr_getR C0 W0 cl_X1 0 (by decide) fl_X1_26 rfl h2 dX1_readLine_37 ?_
    obtain ⟨q3, h4, h⟩ := ob h
    refine xr_getR C0 W0 cl_X5 0 (by decide) fl_X1_55 rfl h4 dX1_readLine_40 ?_
    refine lv_iload_n hx hb dX1_readLine_43 rfl (lv_at hl 1 rfl) ?_
    refine lv_aload_n hx hb dX1_readLine_44 rfl (lv_at hl 0 rfl) ?_
    obtain ⟨v5, h6, h⟩ := ob h
    refine xr_getI C0 W0 cl_X1 3 (by decide) fl_X1_15 rfl h6 dX1_readLine_45 ?_
    refine lv_bipush (v := 14) hx hb dX1_readLine_48 (by decide) ?_
    refine lv_icmp_ne (tgt := 57) hx hb dX1_readLine_50 (by decide) (fun hcq => ?_) (fun hcq => ?_)
    · have h := it_f hcq h
      refine lv_iconst (v := 0) hx hb dX1_readLine_57 (by decide) ?_
      exact tX1_readLine_j58 C0 hret W0 (lv_sub hl [0, 1] rfl) h
    · have h := it_t hcq h
      refine lv_iconst (v := 1) hx hb dX1_readLine_53 (by decide) ?_
      refine lv_goto (tgt := 58) hx hb dX1_readLine_54 (by decide) ?_
      exact tX1_readLine_j58 C0 hret W0 (lv_sub hl [0, 1] rfl) h
  · have h := it_f hcq h
    refine lv_aload_n hx hb dX1_readLine_30 rfl (lv_at hl 0 rfl) ?_
    refine lv_iconst (v := 5) hx hb dX1_readLine_31 (by decide) ?_
    obtain ⟨u7, h8, h⟩ := ob h
    obtain ⟨r9, h10, h⟩ := ob h
    refine xr_V (As := [.int 5]) (rest := []) C0 W0 (ctX1_refuse l G h10) (gK_of h8) (rr := (RX1, TX1, 5)) rfl rfl mc_X1_refuse mv_X1_refuse ml_X1_52 ⟨by decide, by decide⟩ rfl hl.1 rfl (Nat.le_of_ble_eq_true rfl) ⟨by decide, by decide⟩ dX1_readLine_32 (fun H locs W0 => ?_)
    refine W.cs (cells' := 0) (slots' := 0) rfl rfl ?_
    refine W.eq (g2 := F0 m 35 ls [.int r9.1]) rfl ?_
    obtain ⟨u11, h12, h⟩ := ob h
    exact xr_zret C0 W0 hret (zG_of h12) (Option.some.inj h) dX1_readLine_35
theorem ctX1_readLine (l : Launch) (G : XG) {l0 : Nat} {l1 : Int32} {X : XW} {r : Int32 × XW}  (h : fX1_readLine l0 l1 X = some r) : XM l G yX1_readLine cX1_readLine 3 (some .boolean) 28 1680 0 0 [.ref l0, .int l1] X (some (.int r.1), r.2) := by
  refine xm_of (own := RX1) (by decide) rfl (Nat.le_of_ble_eq_true rfl) ?_
  intro p e s m below meth c ls C0 W0 hret hnm hl
  have hx := C0.1
  have hb := C0.2.1
  have hl : lv_has ls 3 [(0, .ref l0), (1, .int l1)] := hl
  unfold fX1_readLine at h
  refine lv_aload_n hx hb dX1_readLine_0 rfl (lv_at hl 0 rfl) ?_
  obtain ⟨v1, h2, h⟩ := ob h
  refine xr_getI C0 W0 cl_X1 3 (by decide) fl_X1_15 rfl h2 dX1_readLine_1 ?_
  refine lv_bipush (v := 13) hx hb dX1_readLine_4 (by decide) ?_
  refine lv_icmp_eq (tgt := 24) hx hb dX1_readLine_6 (by decide) (fun hcq => ?_) (fun hcq => ?_)
  · have h := it_t hcq h
    exact tX1_readLine_j24 C0 hret W0 (lv_sub hl [0, 1] rfl) h
  · have h := it_f hcq h
    refine lv_aload_n hx hb dX1_readLine_9 rfl (lv_at hl 0 rfl) ?_
    obtain ⟨v3, h4, h⟩ := ob h
    refine xr_getI C0 W0 cl_X1 3 (by decide) fl_X1_15 rfl h4 dX1_readLine_10 ?_
    refine lv_bipush (v := 14) hx hb dX1_readLine_13 (by decide) ?_
    refine lv_icmp_eq (tgt := 24) hx hb dX1_readLine_15 (by decide) (fun hcq => ?_) (fun hcq => ?_)
    · have h := it_t hcq h
      exact tX1_readLine_j24 C0 hret W0 (lv_sub hl [0, 1] rfl) h
    · have h := it_f hcq h
      refine lv_aload_n hx hb dX1_readLine_18 rfl (lv_at hl 0 rfl) ?_
      refine lv_iconst (v := 1) hx hb dX1_readLine_19 (by decide) ?_
      obtain ⟨u5, h6, h⟩ := ob h
      obtain ⟨r7, h8, h⟩ := ob h
      refine xr_V (As := [.int 1]) (rest := []) C0 W0 (ctX1_refuse l G h8) (gK_of h6) (rr := (RX1, TX1, 5)) rfl rfl mc_X1_refuse mv_X1_refuse ml_X1_52 ⟨by decide, by decide⟩ rfl hl.1 rfl (Nat.le_of_ble_eq_true rfl) ⟨by decide, by decide⟩ dX1_readLine_20 (fun H locs W0 => ?_)
      refine W.cs (cells' := 0) (slots' := 0) rfl rfl ?_
      refine W.eq (g2 := F0 m 23 ls [.int r7.1]) rfl ?_
      obtain ⟨u9, h10, h⟩ := ob h
      exact xr_zret C0 W0 hret (zG_of h10) (Option.some.inj h) dX1_readLine_23
def fX1_readText_l25_b (rec : Int32 → Int32 → XW → Option (XW)) (l0 : Nat) (l2 : Int32) (l3 : Int32) (X : XW) : Option (XW) :=
  if (24 < l3 : Prop) then (some (X))
  else (if (l2 = 0 : Prop) then (some (X))
    else (gI X l0 1 3 >>= fun v1 =>
      if (v1 = 24 : Prop) then (some (X))
      else (gK X l0 1 >>= fun u3 =>
        fX1_readLine l0 l3 X >>= fun r5 =>
        rec r5.1 (l3 + 1) r5.2)))
def fX1_readText_l25 (l0 : Nat) (n : Nat) : Int32 → Int32 → XW → Option (XW) := iter (fun rec => fX1_readText_l25_b rec l0) (fun _ _ _ => none) n
def fX1_readText (l0 : Nat) (l1 : Nat) (X : XW) : Option (Int32 × XW) :=
  gR X l0 1 1 >>= fun q1 =>
  gK X q1 8 >>= fun u3 =>
  fX8_cutText q1 l1 X >>= fun X5 =>
  gR X5 l0 1 1 >>= fun q7 =>
  gR X5 q7 8 0 >>= fun q9 =>
  aI X5 q9 1 0 >>= fun v11 =>
  pI X5 l0 1 3 v11 >>= fun X13 =>
  fX1_readText_l25 l0 FU 1 0 X13 >>= fun r15 =>
  gI r15 l0 1 4 >>= fun v17 =>
  some (v17, r15)
theorem tX1_readText_l25_b {p : Program} {l : Launch} {e : Env} {s : State} {m : MethodId} {args : Array Value} {below : List Frame} {meth : Method} {c : Code} {G : XG} {X0 : XW} (C0 : XC p s m args meth c RX1 cX1_readText 4 G) (hret : meth.sig.returnType = (some .int)) {r : XW} {l0 : Nat} {Q : State → Prop} {rec : Int32 → Int32 → XW → Option (XW)} (hrec : ∀ {y2 : Int32} {y3 : Int32} {X : XW} {H : Heap} {locs : List Loc} {ls : Array Slot}, XD G X0 X s H locs → lv_has ls 4 [(0, .ref l0), (2, .int y2), (3, .int y3)] → rec y2 y3 X = some r → W p l e { frames := 29, cells := 0, slots := 0, locals := 1740 } s m args below meth c H locs 0 0 Q (F0 m 25 ls [])) (hK : ∀ {H : Heap} {locs : List Loc} {ls : Array Slot}, XD G X0 r s H locs → lv_has ls 4 [(0, .ref l0)] → W p l e { frames := 29, cells := 0, slots := 0, locals := 1740 } s m args below meth c H locs 0 0 Q (F0 m 56 ls []))  {l2 : Int32} {l3 : Int32} {X : XW} {H : Heap} {locs : List Loc} {ls : Array Slot} (W0 : XD G X0 X s H locs) (hl : lv_has ls 4 [(0, .ref l0), (2, .int l2), (3, .int l3)]) (h : fX1_readText_l25_b rec l0 l2 l3 X = some r) : W p l e { frames := 29, cells := 0, slots := 0, locals := 1740 } s m args below meth c H locs 0 0 Q (F0 m 25 ls []) := by
  have hx := C0.1
  have hb := C0.2.1
  unfold fX1_readText_l25_b at h
  refine lv_iload_n hx hb dX1_readText_25 rfl (lv_at hl 2 rfl) ?_
  refine lv_bipush (v := 24) hx hb dX1_readText_26 (by decide) ?_
  refine lv_icmp_gt (tgt := 56) hx hb dX1_readText_28 (by decide) (fun hcq => ?_) (fun hcq => ?_)
  · have h := it_t hcq h
    cases h
    exact hK W0 (lv_sub hl [0] rfl)
  · have h := it_f hcq h
    refine lv_iload_n hx hb dX1_readText_31 rfl (lv_at hl 1 rfl) ?_
    refine lv_if_eq (tgt := 56) hx hb dX1_readText_32 (by decide) (fun hcq => ?_) (fun hcq => ?_)
    · have h := it_t hcq h
      cases h
      exact hK W0 (lv_sub hl [0] rfl)
    · have h := it_f hcq h
      refine lv_aload_n hx hb dX1_readText_35 rfl (lv_at hl 0 rfl) ?_
      obtain ⟨v1, h2, h⟩ := ob h
      refine xr_getI C0 W0 cl_X1 3 (by decide) fl_X1_15 rfl h2 dX1_readText_36 ?_
      refine lv_bipush (v := 24) hx hb dX1_readText_39 (by decide) ?_
      refine lv_icmp_eq (tgt := 56) hx hb dX1_readText_41 (by decide) (fun hcq => ?_) (fun hcq => ?_)
      · have h := it_t hcq h
        cases h
        exact hK W0 (lv_sub hl [0] rfl)
      · have h := it_f hcq h
        refine lv_aload_n hx hb dX1_readText_44 rfl (lv_at hl 0 rfl) ?_
        refine lv_iload_n hx hb dX1_readText_45 rfl (lv_at hl 2 rfl) ?_
        obtain ⟨u3, h4, h⟩ := ob h
        obtain ⟨r5, h6, h⟩ := ob h
        refine xr_V (As := [.int l3]) (rest := []) C0 W0 (ctX1_readLine l G h6) (gK_of h4) (rr := (RX1, TX1, 5)) rfl rfl mc_X1_readLine mv_X1_readLine ml_X1_45 ⟨by decide, by decide⟩ rfl hl.1 rfl (Nat.le_of_ble_eq_true rfl) ⟨by decide, by decide⟩ dX1_readText_46 (fun H locs W0 => ?_)
        refine W.cs (cells' := 0) (slots' := 0) rfl rfl ?_
        refine W.eq (g2 := F0 m 49 ls [.int r5.1]) rfl ?_
        refine lv_istore_n (lv' := [(2, .int r5.1), (0, .ref l0), (3, .int l3)]) hx hb dX1_readText_49 rfl hl (by decide) rfl (fun ls hl => ?_)
        refine lv_iinc (v := (l3 + 1)) (lv' := [(3, .int (l3 + 1)), (2, .int r5.1), (0, .ref l0)]) hx hb dX1_readText_50 hl (k := 2) rfl (ii (by decide)) (by decide) rfl (fun ls hl => ?_)
        refine lv_goto (tgt := 25) hx hb dX1_readText_53 (by decide) ?_
        exact hrec W0 (lv_sub hl [2, 1, 0] rfl) h
theorem tX1_readText_l25 {p : Program} {l : Launch} {e : Env} {s : State} {m : MethodId} {args : Array Value} {below : List Frame} {meth : Method} {c : Code} {G : XG} {X0 : XW} (C0 : XC p s m args meth c RX1 cX1_readText 4 G) (hret : meth.sig.returnType = (some .int)) {r : XW} {l0 : Nat} {Q : State → Prop} (hK : ∀ {H : Heap} {locs : List Loc} {ls : Array Slot}, XD G X0 r s H locs → lv_has ls 4 [(0, .ref l0)] → W p l e { frames := 29, cells := 0, slots := 0, locals := 1740 } s m args below meth c H locs 0 0 Q (F0 m 56 ls [])) : ∀ (n : Nat) {y2 : Int32} {y3 : Int32} {X : XW} {H : Heap} {locs : List Loc} {ls : Array Slot}, XD G X0 X s H locs → lv_has ls 4 [(0, .ref l0), (2, .int y2), (3, .int y3)] → fX1_readText_l25 l0 n y2 y3 X = some r → W p l e { frames := 29, cells := 0, slots := 0, locals := 1740 } s m args below meth c H locs 0 0 Q (F0 m 25 ls []) := by
  intro n
  induction n with
  | zero =>
    intro y2 y3 X H locs ls W0 hl h
    cases h
  | succ n ih =>
    intro y2 y3 X H locs ls W0 hl h
    exact tX1_readText_l25_b C0 hret (rec := fX1_readText_l25 l0 n) (fun W0 hl h => ih W0 hl h) hK W0 hl h
theorem ctX1_readText (l : Launch) (G : XG) {l0 : Nat} {l1 : Nat} {X : XW} {r : Int32 × XW}  (h : fX1_readText l0 l1 X = some r) : XM l G yX1_readText cX1_readText 4 (some .int) 29 1740 0 0 [.ref l0, .ref l1] X (some (.int r.1), r.2) := by
  refine xm_of (own := RX1) (by decide) rfl (Nat.le_of_ble_eq_true rfl) ?_
  intro p e s m below meth c ls C0 W0 hret hnm hl
  have hx := C0.1
  have hb := C0.2.1
  have hl : lv_has ls 4 [(0, .ref l0), (1, .ref l1)] := hl
  unfold fX1_readText at h
  refine lv_aload_n hx hb dX1_readText_0 rfl (lv_at hl 0 rfl) ?_
  obtain ⟨q1, h2, h⟩ := ob h
  refine xr_getR C0 W0 cl_X1 1 (by decide) fl_X1_33 rfl h2 dX1_readText_1 ?_
  refine lv_aload_n hx hb dX1_readText_4 rfl (lv_at hl 1 rfl) ?_
  obtain ⟨u3, h4, h⟩ := ob h
  obtain ⟨X5, h6, h⟩ := ob h
  refine xr_V (As := [.ref l1]) (rest := []) C0 W0 (ctX8_cutText l G h6) (gK_of h4) (rr := (RX8, TX8, 3)) rfl rfl mc_X8_cutText mv_X8_cutText ml_X1_37 ⟨by decide, by decide⟩ rfl hl.1 rfl (Nat.le_of_ble_eq_true rfl) ⟨by decide, by decide⟩ dX1_readText_5 (fun H locs W0 => ?_)
  refine W.cs (cells' := 0) (slots' := 0) rfl rfl ?_
  refine W.eq (g2 := F0 m 8 ls []) rfl ?_
  refine lv_aload_n hx hb dX1_readText_8 rfl (lv_at hl 0 rfl) ?_
  refine lv_aload_n hx hb dX1_readText_9 rfl (lv_at hl 0 rfl) ?_
  obtain ⟨q7, h8, h⟩ := ob h
  refine xr_getR C0 W0 cl_X1 1 (by decide) fl_X1_33 rfl h8 dX1_readText_10 ?_
  obtain ⟨q9, h10, h⟩ := ob h
  refine xr_getR C0 W0 cl_X8 0 (by decide) fl_X1_41 rfl h10 dX1_readText_13 ?_
  refine lv_iconst (v := 0) hx hb dX1_readText_16 (by decide) ?_
  obtain ⟨v11, h12, h⟩ := ob h
  refine xr_iald C0 W0 h12 dX1_readText_17 ?_
  obtain ⟨X13, h14, h⟩ := ob h
  refine xr_putI C0 W0 cl_X1 3 (by decide) fl_X1_15 rfl rfl rfl (by decide) h14 dX1_readText_18 (fun H locs W0 => ?_)
  refine lv_iconst (v := 1) hx hb dX1_readText_21 (by decide) ?_
  refine lv_istore_n (lv' := [(2, .int 1), (0, .ref l0), (1, .ref l1)]) hx hb dX1_readText_22 rfl hl (by decide) rfl (fun ls hl => ?_)
  refine lv_iconst (v := 0) hx hb dX1_readText_23 (by decide) ?_
  refine lv_istore_n (lv' := [(3, .int 0), (2, .int 1), (0, .ref l0), (1, .ref l1)]) hx hb dX1_readText_24 rfl hl (by decide) rfl (fun ls hl => ?_)
  obtain ⟨r15, h16, h⟩ := ob h
  refine tX1_readText_l25 C0 hret (fun {H} {locs} {ls} W0 hl => ?_) FU W0 (lv_sub hl [2, 1, 0] rfl) h16
  refine lv_aload_n hx hb dX1_readText_56 rfl (lv_at hl 0 rfl) ?_
  obtain ⟨v17, h18, h⟩ := ob h
  refine xr_getI C0 W0 cl_X1 4 (by decide) fl_X1_18 rfl h18 dX1_readText_57 ?_
  exact xr_iret C0 W0 hret (Option.some.inj h) dX1_readText_60
def fX2_init (l0 : Nat) (X : XW) : Option (XW) :=
  fX5_init ((nO X 5).1) 0 (nO X 5).2 >>= fun X1 =>
  pR X1 l0 2 0 ((nO X 5).1) >>= fun X3 =>
  pI X3 l0 2 1 0 >>= fun X5 =>
  pI X5 l0 2 2 99 >>= fun X7 =>
  pI X7 l0 2 3 99 >>= fun X9 =>
  some X9
theorem ctX2_init (l : Launch) (G : XG) {l0 : Nat} {X : XW} {r : XW}  (h : fX2_init l0 X = some r) : XM l G yX2_init cX2_init 1 none 2 120 7 1128 [.ref l0] X (none, r) := by
  refine xm_of (own := RX2) (by decide) rfl (Nat.le_of_ble_eq_true rfl) ?_
  intro p e s m below meth c ls C0 W0 hret hin hl
  have hx := C0.1
  have hb := C0.2.1
  have hl : lv_has ls 1 [(0, .ref l0)] := hl
  unfold fX2_init at h
  refine lv_aload_n hx hb dX2_init_0 rfl (lv_at hl 0 rfl) ?_
  refine W.objInit hx hb C0.2.2.2.1 (C0.2.2.2.2.1 _ (xws_t 200 (by decide +kernel) rfl)) (C0.2.2.2.2.1 _ xoi1) (C0.2.2.2.2.1 _ xoi2) rfl (by rw [C0.2.2.1]; exact hl.1) rfl dX2_init_1 (by decide) (Nat.le_of_ble_eq_true rfl) ?_
  refine W.eq (g2 := F0 m 4 ls []) rfl ?_
  refine lv_aload_n hx hb dX2_init_4 rfl (lv_at hl 0 rfl) ?_
  refine xr_new C0 W0 cl_X5 (by decide) dv_X5 kl_X2_9 kn_X5.1 kn_X5.2 (by decide) (by decide) dX2_init_5 (fun H W0 => ?_)
  refine W.cs (cells' := 1) (slots' := 8) rfl rfl ?_
  refine lv_dup hx hb dX2_init_8 rfl ?_
  refine lv_iconst (v := 0) hx hb dX2_init_9 (by decide) ?_
  obtain ⟨X1, h2, h⟩ := ob h
  refine xr_I (As := [.int 0]) (rest := [.ref ((nO X 5).1), .ref l0]) C0 W0 (ctX5_init l G h2) mc_X5_init mi_X5_init ml_X2_11 ⟨by decide, by decide⟩ rfl hl.1 rfl (Nat.le_of_ble_eq_true rfl) ⟨by decide, by decide⟩ dX2_init_10 (fun H locs W0 => ?_)
  refine W.cs (cells' := 7) (slots' := 1128) rfl rfl ?_
  refine W.eq (g2 := F0 m 13 ls [.ref ((nO X 5).1), .ref l0]) rfl ?_
  obtain ⟨X3, h4, h⟩ := ob h
  refine xr_putR C0 W0 cl_X2 0 (by decide) fl_X2_14 (Or.inl rfl) rfl ⟨rfl, rfl⟩ (by decide) h4 dX2_init_13 (fun H locs W0 => ?_)
  refine lv_aload_n hx hb dX2_init_16 rfl (lv_at hl 0 rfl) ?_
  refine lv_iconst (v := 0) hx hb dX2_init_17 (by decide) ?_
  obtain ⟨X5, h6, h⟩ := ob h
  refine xr_putI C0 W0 cl_X2 1 (by decide) fl_X2_20 rfl rfl rfl (by decide) h6 dX2_init_18 (fun H locs W0 => ?_)
  refine lv_aload_n hx hb dX2_init_21 rfl (lv_at hl 0 rfl) ?_
  refine lv_bipush (v := 99) hx hb dX2_init_22 (by decide) ?_
  obtain ⟨X7, h8, h⟩ := ob h
  refine xr_putI C0 W0 cl_X2 2 (by decide) fl_X2_24 rfl rfl rfl (by decide) h8 dX2_init_24 (fun H locs W0 => ?_)
  refine lv_aload_n hx hb dX2_init_27 rfl (lv_at hl 0 rfl) ?_
  refine lv_bipush (v := 99) hx hb dX2_init_28 (by decide) ?_
  obtain ⟨X9, h10, h⟩ := ob h
  refine xr_putI C0 W0 cl_X2 3 (by decide) fl_X2_27 rfl rfl rfl (by decide) h10 dX2_init_30 (fun H locs W0 => ?_)
  exact xr_vret C0 W0 hret (Option.some.inj h).symm dX2_init_33
def fX3_init (l0 : Nat) (X : XW) : Option (XW) :=
  nA X 1 16 16 >>= fun r1 =>
  pR r1.2 l0 3 0 r1.1 >>= fun X3 =>
  nA X3 1 16 16 >>= fun r5 =>
  pR r5.2 l0 3 1 r5.1 >>= fun X7 =>
  nA X7 1 16 16 >>= fun r9 =>
  pR r9.2 l0 3 2 r9.1 >>= fun X11 =>
  nA X11 1 16 16 >>= fun r13 =>
  pR r13.2 l0 3 3 r13.1 >>= fun X15 =>
  nA X15 3 16 16 >>= fun r17 =>
  pR r17.2 l0 3 4 r17.1 >>= fun X19 =>
  nA X19 1 17 17 >>= fun r21 =>
  pR r21.2 l0 3 5 r21.1 >>= fun X23 =>
  nA X23 1 16 16 >>= fun r25 =>
  pR r25.2 l0 3 6 r25.1 >>= fun X27 =>
  pI X27 l0 3 7 0 >>= fun X29 =>
  some X29
theorem ctX3_init (l : Launch) (G : XG) {l0 : Nat} {X : XW} {r : XW}  (h : fX3_init l0 X = some r) : XM l G yX3_init cX3_init 1 none 1 60 7 113 [.ref l0] X (none, r) := by
  refine xm_of (own := RX3) (by decide) rfl (Nat.le_of_ble_eq_true rfl) ?_
  intro p e s m below meth c ls C0 W0 hret hin hl
  have hx := C0.1
  have hb := C0.2.1
  have hl : lv_has ls 1 [(0, .ref l0)] := hl
  unfold fX3_init at h
  refine lv_aload_n hx hb dX3_init_0 rfl (lv_at hl 0 rfl) ?_
  refine W.objInit hx hb C0.2.2.2.1 (C0.2.2.2.2.1 _ (xws_t 78 (by decide +kernel) rfl)) (C0.2.2.2.2.1 _ xoi1) (C0.2.2.2.2.1 _ xoi2) rfl (by rw [C0.2.2.1]; exact hl.1) rfl dX3_init_1 (by decide) (Nat.le_of_ble_eq_true rfl) ?_
  refine W.eq (g2 := F0 m 4 ls []) rfl ?_
  refine lv_aload_n hx hb dX3_init_4 rfl (lv_at hl 0 rfl) ?_
  refine lv_bipush (v := 16) hx hb dX3_init_5 (by decide) ?_
  obtain ⟨r1, h2, h⟩ := ob h
  refine xr_newa (atype := .int) C0 W0 1 16 rfl (by decide) (by decide) rfl ka_int (fun N => nw_int) (by decide) h2 (by decide) (by decide) dX3_init_7 (fun H W0 => ?_)
  refine W.cs (cells' := 1) (slots' := 16) rfl rfl ?_
  obtain ⟨X3, h4, h⟩ := ob h
  refine xr_putR C0 W0 cl_X3 0 (by decide) fl_X3_9 (Or.inr ⟨rfl, hin, rfl⟩) rfl ⟨rfl, rfl⟩ (by decide) h4 dX3_init_9 (fun H locs W0 => ?_)
  refine lv_aload_n hx hb dX3_init_12 rfl (lv_at hl 0 rfl) ?_
  refine lv_bipush (v := 16) hx hb dX3_init_13 (by decide) ?_
  obtain ⟨r5, h6, h⟩ := ob h
  refine xr_newa (atype := .int) C0 W0 1 16 rfl (by decide) (by decide) rfl ka_int (fun N => nw_int) (by decide) h6 (by decide) (by decide) dX3_init_15 (fun H W0 => ?_)
  refine W.cs (cells' := 2) (slots' := 32) rfl rfl ?_
  obtain ⟨X7, h8, h⟩ := ob h
  refine xr_putR C0 W0 cl_X3 1 (by decide) fl_X3_15 (Or.inr ⟨rfl, hin, rfl⟩) rfl ⟨rfl, rfl⟩ (by decide) h8 dX3_init_17 (fun H locs W0 => ?_)
  refine lv_aload_n hx hb dX3_init_20 rfl (lv_at hl 0 rfl) ?_
  refine lv_bipush (v := 16) hx hb dX3_init_21 (by decide) ?_
  obtain ⟨r9, h10, h⟩ := ob h
  refine xr_newa (atype := .int) C0 W0 1 16 rfl (by decide) (by decide) rfl ka_int (fun N => nw_int) (by decide) h10 (by decide) (by decide) dX3_init_23 (fun H W0 => ?_)
  refine W.cs (cells' := 3) (slots' := 48) rfl rfl ?_
  obtain ⟨X11, h12, h⟩ := ob h
  refine xr_putR C0 W0 cl_X3 2 (by decide) fl_X3_18 (Or.inr ⟨rfl, hin, rfl⟩) rfl ⟨rfl, rfl⟩ (by decide) h12 dX3_init_25 (fun H locs W0 => ?_)
  refine lv_aload_n hx hb dX3_init_28 rfl (lv_at hl 0 rfl) ?_
  refine lv_bipush (v := 16) hx hb dX3_init_29 (by decide) ?_
  obtain ⟨r13, h14, h⟩ := ob h
  refine xr_newa (atype := .int) C0 W0 1 16 rfl (by decide) (by decide) rfl ka_int (fun N => nw_int) (by decide) h14 (by decide) (by decide) dX3_init_31 (fun H W0 => ?_)
  refine W.cs (cells' := 4) (slots' := 64) rfl rfl ?_
  obtain ⟨X15, h16, h⟩ := ob h
  refine xr_putR C0 W0 cl_X3 3 (by decide) fl_X3_21 (Or.inr ⟨rfl, hin, rfl⟩) rfl ⟨rfl, rfl⟩ (by decide) h16 dX3_init_33 (fun H locs W0 => ?_)
  refine lv_aload_n hx hb dX3_init_36 rfl (lv_at hl 0 rfl) ?_
  refine lv_bipush (v := 16) hx hb dX3_init_37 (by decide) ?_
  obtain ⟨r17, h18, h⟩ := ob h
  refine xr_newa (atype := .boolean) C0 W0 3 16 rfl (by decide) (by decide) rfl ka_boolean (fun N => nw_boolean) (by decide) h18 (by decide) (by decide) dX3_init_39 (fun H W0 => ?_)
  refine W.cs (cells' := 5) (slots' := 80) rfl rfl ?_
  obtain ⟨X19, h20, h⟩ := ob h
  refine xr_putR C0 W0 cl_X3 4 (by decide) fl_X3_24 (Or.inr ⟨rfl, hin, rfl⟩) rfl ⟨rfl, rfl⟩ (by decide) h20 dX3_init_41 (fun H locs W0 => ?_)
  refine lv_aload_n hx hb dX3_init_44 rfl (lv_at hl 0 rfl) ?_
  refine lv_bipush (v := 17) hx hb dX3_init_45 (by decide) ?_
  obtain ⟨r21, h22, h⟩ := ob h
  refine xr_newa (atype := .int) C0 W0 1 17 rfl (by decide) (by decide) rfl ka_int (fun N => nw_int) (by decide) h22 (by decide) (by decide) dX3_init_47 (fun H W0 => ?_)
  refine W.cs (cells' := 6) (slots' := 97) rfl rfl ?_
  obtain ⟨X23, h24, h⟩ := ob h
  refine xr_putR C0 W0 cl_X3 5 (by decide) fl_X3_28 (Or.inr ⟨rfl, hin, rfl⟩) rfl ⟨rfl, rfl⟩ (by decide) h24 dX3_init_49 (fun H locs W0 => ?_)
  refine lv_aload_n hx hb dX3_init_52 rfl (lv_at hl 0 rfl) ?_
  refine lv_bipush (v := 16) hx hb dX3_init_53 (by decide) ?_
  obtain ⟨r25, h26, h⟩ := ob h
  refine xr_newa (atype := .int) C0 W0 1 16 rfl (by decide) (by decide) rfl ka_int (fun N => nw_int) (by decide) h26 (by decide) (by decide) dX3_init_55 (fun H W0 => ?_)
  refine W.cs (cells' := 7) (slots' := 113) rfl rfl ?_
  obtain ⟨X27, h28, h⟩ := ob h
  refine xr_putR C0 W0 cl_X3 6 (by decide) fl_X3_31 (Or.inr ⟨rfl, hin, rfl⟩) rfl ⟨rfl, rfl⟩ (by decide) h28 dX3_init_57 (fun H locs W0 => ?_)
  refine lv_aload_n hx hb dX3_init_60 rfl (lv_at hl 0 rfl) ?_
  refine lv_iconst (v := 0) hx hb dX3_init_61 (by decide) ?_
  obtain ⟨X29, h30, h⟩ := ob h
  refine xr_putI C0 W0 cl_X3 7 (by decide) fl_X3_34 rfl rfl rfl (by decide) h30 dX3_init_62 (fun H locs W0 => ?_)
  exact xr_vret C0 W0 hret (Option.some.inj h).symm dX3_init_65
def fX3_weighFrom_j116 (rec : Int32 → Int32 → XW → Option (XW)) (l0 : Nat) (l1 : Nat) (l2 : Int32) (l3 : Int32) (l4 : Int32) (l5 : Int32) (X : XW) : Option (XW) :=
  rec l4 (l5 + 1) X
def fX3_weighFrom_j96 (rec : Int32 → Int32 → XW → Option (XW)) (l0 : Nat) (l1 : Nat) (l2 : Int32) (l3 : Int32) (l4 : Int32) (l5 : Int32) (l8 : Int32) (X : XW) : Option (XW) :=
  gR X l0 3 5 >>= fun q1 =>
  uI X q1 l3 l8 >>= fun X3 =>
  gR X3 l0 3 6 >>= fun q5 =>
  uI X3 q5 l3 ((l5 + 1) - l3) >>= fun X7 =>
  fX3_weighFrom_j116 rec l0 l1 l2 l3 l4 l5 X7
def fX3_weighFrom_j57 (rec : Int32 → Int32 → XW → Option (XW)) (l0 : Nat) (l1 : Nat) (l2 : Int32) (l3 : Int32) (l4 : Int32) (l5 : Int32) (l6 : Int32) (s0 : Int32) (X : XW) : Option (XW) :=
  gR X l0 3 5 >>= fun q1 =>
  aI X q1 1 (l5 + 1) >>= fun v3 =>
  if (l5 = l3 : Prop) then (fX3_weighFrom_j96 rec l0 l1 l2 l3 l4 l5 (((l6 * l6) + s0) + v3) X)
  else (gR X l0 3 5 >>= fun q5 =>
    aI X q5 1 l3 >>= fun v7 =>
    if (v7 < (((l6 * l6) + s0) + v3) : Prop) then (fX3_weighFrom_j116 rec l0 l1 l2 l3 l4 l5 X)
    else (fX3_weighFrom_j96 rec l0 l1 l2 l3 l4 l5 (((l6 * l6) + s0) + v3) X))
def fX3_weighFrom_l6_b (rec : Int32 → Int32 → XW → Option (XW)) (l0 : Nat) (l1 : Nat) (l2 : Int32) (l3 : Int32) (l4 : Int32) (l5 : Int32) (X : XW) : Option (XW) :=
  gI X l1 4 6 >>= fun v1 =>
  if (v1 ≤ l5 : Prop) then (some (X))
  else (gR X l1 4 0 >>= fun q3 =>
    aI X q3 1 l5 >>= fun v5 =>
    gI X l1 4 6 >>= fun v7 =>
    if (v7 ≤ (l5 + 1) : Prop) then (fX3_weighFrom_j57 rec l0 l1 l2 l3 (l4 + v5) l5 ((l4 + v5) - l2) 0 X)
    else (gR X l1 4 2 >>= fun q9 =>
      aI X q9 1 l5 >>= fun v11 =>
      fX3_weighFrom_j57 rec l0 l1 l2 l3 (l4 + v5) l5 ((l4 + v5) - l2) (1 + v11) X))
def fX3_weighFrom_l6 (l0 : Nat) (l1 : Nat) (l2 : Int32) (l3 : Int32) (n : Nat) : Int32 → Int32 → XW → Option (XW) := iter (fun rec => fX3_weighFrom_l6_b rec l0 l1 l2 l3) (fun _ _ _ => none) n
def fX3_weighFrom (l0 : Nat) (l1 : Nat) (l2 : Int32) (l3 : Int32) (X : XW) : Option (XW) :=
  fX3_weighFrom_l6 l0 l1 l2 l3 FU 0 l3 X >>= fun r1 =>
  some r1
theorem tX3_weighFrom_j116 {p : Program} {l : Launch} {e : Env} {s : State} {m : MethodId} {args : Array Value} {below : List Frame} {meth : Method} {c : Code} {G : XG} {X0 : XW} (C0 : XC p s m args meth c RX3 cX3_weighFrom 9 G) (hret : meth.sig.returnType = none) {r : XW} {l0 : Nat} {l1 : Nat} {l2 : Int32} {l3 : Int32} {Q : State → Prop} {rec : Int32 → Int32 → XW → Option (XW)} (hrec : ∀ {y4 : Int32} {y5 : Int32} {X : XW} {H : Heap} {locs : List Loc} {ls : Array Slot}, XD G X0 X s H locs → lv_has ls 9 [(0, .ref l0), (1, .ref l1), (2, .int l2), (3, .int l3), (4, .int y4), (5, .int y5)] → rec y4 y5 X = some r → W p l e { frames := 0, cells := 0, slots := 0, locals := 0 } s m args below meth c H locs 0 0 Q (F0 m 6 ls [])) (hK : ∀ {H : Heap} {locs : List Loc} {ls : Array Slot}, XD G X0 r s H locs → lv_has ls 9 [] → W p l e { frames := 0, cells := 0, slots := 0, locals := 0 } s m args below meth c H locs 0 0 Q (F0 m 122 ls []))  {l4 : Int32} {l5 : Int32} {X : XW} {H : Heap} {locs : List Loc} {ls : Array Slot} (W0 : XD G X0 X s H locs) (hl : lv_has ls 9 [(0, .ref l0), (1, .ref l1), (2, .int l2), (3, .int l3), (4, .int l4), (5, .int l5)]) (h : fX3_weighFrom_j116 rec l0 l1 l2 l3 l4 l5 X = some r) : W p l e { frames := 0, cells := 0, slots := 0, locals := 0 } s m args below meth c H locs 0 0 Q (F0 m 116 ls []) := by
  have hx := C0.1
  have hb := C0.2.1
  unfold fX3_weighFrom_j116 at h
  refine lv_iinc (v := (l5 + 1)) (lv' := [(5, .int (l5 + 1)), (0, .ref l0), (1, .ref l1), (2, .int l2), (3, .int l3), (4, .int l4)]) hx hb dX3_weighFrom_116 hl (k := 5) rfl (ii (by decide)) (by decide) rfl (fun ls hl => ?_)
  refine lv_goto (tgt := 6) hx hb dX3_weighFrom_119 (by decide) ?_
  exact hrec W0 (lv_sub hl [1, 2, 3, 4, 5, 0] rfl) h
theorem tX3_weighFrom_j96 {p : Program} {l : Launch} {e : Env} {s : State} {m : MethodId} {args : Array Value} {below : List Frame} {meth : Method} {c : Code} {G : XG} {X0 : XW} (C0 : XC p s m args meth c RX3 cX3_weighFrom 9 G) (hret : meth.sig.returnType = none) {r : XW} {l0 : Nat} {l1 : Nat} {l2 : Int32} {l3 : Int32} {Q : State → Prop} {rec : Int32 → Int32 → XW → Option (XW)} (hrec : ∀ {y4 : Int32} {y5 : Int32} {X : XW} {H : Heap} {locs : List Loc} {ls : Array Slot}, XD G X0 X s H locs → lv_has ls 9 [(0, .ref l0), (1, .ref l1), (2, .int l2), (3, .int l3), (4, .int y4), (5, .int y5)] → rec y4 y5 X = some r → W p l e { frames := 0, cells := 0, slots := 0, locals := 0 } s m args below meth c H locs 0 0 Q (F0 m 6 ls [])) (hK : ∀ {H : Heap} {locs : List Loc} {ls : Array Slot}, XD G X0 r s H locs → lv_has ls 9 [] → W p l e { frames := 0, cells := 0, slots := 0, locals := 0 } s m args below meth c H locs 0 0 Q (F0 m 122 ls []))  {l4 : Int32} {l5 : Int32} {l8 : Int32} {X : XW} {H : Heap} {locs : List Loc} {ls : Array Slot} (W0 : XD G X0 X s H locs) (hl : lv_has ls 9 [(0, .ref l0), (1, .ref l1), (2, .int l2), (3, .int l3), (4, .int l4), (5, .int l5), (8, .int l8)]) (h : fX3_weighFrom_j96 rec l0 l1 l2 l3 l4 l5 l8 X = some r) : W p l e { frames := 0, cells := 0, slots := 0, locals := 0 } s m args below meth c H locs 0 0 Q (F0 m 96 ls []) := by
  have hx := C0.1
  have hb := C0.2.1
  unfold fX3_weighFrom_j96 at h
  refine lv_aload_n hx hb dX3_weighFrom_96 rfl (lv_at hl 0 rfl) ?_
  obtain ⟨q1, h2, h⟩ := ob h
  refine xr_getR C0 W0 cl_X3 5 (by decide) fl_X3_28 rfl h2 dX3_weighFrom_97 ?_
  refine lv_iload_n hx hb dX3_weighFrom_100 rfl (lv_at hl 3 rfl) ?_
  refine lv_iload hx hb dX3_weighFrom_101 (lv_at hl 6 rfl) ?_
  obtain ⟨X3, h4, h⟩ := ob h
  refine xr_iast C0 W0 h4 dX3_weighFrom_103 (fun H locs W0 => ?_)
  refine lv_aload_n hx hb dX3_weighFrom_104 rfl (lv_at hl 0 rfl) ?_
  obtain ⟨q5, h6, h⟩ := ob h
  refine xr_getR C0 W0 cl_X3 6 (by decide) fl_X3_31 rfl h6 dX3_weighFrom_105 ?_
  refine lv_iload_n hx hb dX3_weighFrom_108 rfl (lv_at hl 3 rfl) ?_
  refine lv_iload hx hb dX3_weighFrom_109 (lv_at hl 5 rfl) ?_
  refine lv_iconst (v := 1) hx hb dX3_weighFrom_111 (by decide) ?_
  refine lv_iadd hx hb dX3_weighFrom_112 ?_
  refine lv_iload_n hx hb dX3_weighFrom_113 rfl (lv_at hl 3 rfl) ?_
  refine lv_isub hx hb dX3_weighFrom_114 ?_
  obtain ⟨X7, h8, h⟩ := ob h
  refine xr_iast C0 W0 h8 dX3_weighFrom_115 (fun H locs W0 => ?_)
  exact tX3_weighFrom_j116 C0 hret hrec hK W0 (lv_sub hl [0, 1, 2, 3, 4, 5] rfl) h
theorem tX3_weighFrom_j57 {p : Program} {l : Launch} {e : Env} {s : State} {m : MethodId} {args : Array Value} {below : List Frame} {meth : Method} {c : Code} {G : XG} {X0 : XW} (C0 : XC p s m args meth c RX3 cX3_weighFrom 9 G) (hret : meth.sig.returnType = none) {r : XW} {l0 : Nat} {l1 : Nat} {l2 : Int32} {l3 : Int32} {Q : State → Prop} {rec : Int32 → Int32 → XW → Option (XW)} (hrec : ∀ {y4 : Int32} {y5 : Int32} {X : XW} {H : Heap} {locs : List Loc} {ls : Array Slot}, XD G X0 X s H locs → lv_has ls 9 [(0, .ref l0), (1, .ref l1), (2, .int l2), (3, .int l3), (4, .int y4), (5, .int y5)] → rec y4 y5 X = some r → W p l e { frames := 0, cells := 0, slots := 0, locals := 0 } s m args below meth c H locs 0 0 Q (F0 m 6 ls [])) (hK : ∀ {H : Heap} {locs : List Loc} {ls : Array Slot}, XD G X0 r s H locs → lv_has ls 9 [] → W p l e { frames := 0, cells := 0, slots := 0, locals := 0 } s m args below meth c H locs 0 0 Q (F0 m 122 ls []))  {l4 : Int32} {l5 : Int32} {l6 : Int32} {s0 : Int32} {X : XW} {H : Heap} {locs : List Loc} {ls : Array Slot} (W0 : XD G X0 X s H locs) (hl : lv_has ls 9 [(0, .ref l0), (1, .ref l1), (2, .int l2), (3, .int l3), (4, .int l4), (5, .int l5), (6, .int l6)]) (h : fX3_weighFrom_j57 rec l0 l1 l2 l3 l4 l5 l6 s0 X = some r) : W p l e { frames := 0, cells := 0, slots := 0, locals := 0 } s m args below meth c H locs 0 0 Q (F0 m 57 ls [.int s0]) := by
  have hx := C0.1
  have hb := C0.2.1
  unfold fX3_weighFrom_j57 at h
  refine lv_istore (lv' := [(7, .int s0), (0, .ref l0), (1, .ref l1), (2, .int l2), (3, .int l3), (4, .int l4), (5, .int l5), (6, .int l6)]) hx hb dX3_weighFrom_57 hl (by decide) rfl (fun ls hl => ?_)
  refine lv_iload hx hb dX3_weighFrom_59 (lv_at hl 7 rfl) ?_
  refine lv_iload hx hb dX3_weighFrom_61 (lv_at hl 7 rfl) ?_
  refine lv_imul hx hb dX3_weighFrom_63 ?_
  refine lv_iload hx hb dX3_weighFrom_64 (lv_at hl 0 rfl) ?_
  refine lv_iadd hx hb dX3_weighFrom_66 ?_
  refine lv_aload_n hx hb dX3_weighFrom_67 rfl (lv_at hl 1 rfl) ?_
  obtain ⟨q1, h2, h⟩ := ob h
  refine xr_getR C0 W0 cl_X3 5 (by decide) fl_X3_28 rfl h2 dX3_weighFrom_68 ?_
  refine lv_iload hx hb dX3_weighFrom_71 (lv_at hl 6 rfl) ?_
  refine lv_iconst (v := 1) hx hb dX3_weighFrom_73 (by decide) ?_
  refine lv_iadd hx hb dX3_weighFrom_74 ?_
  obtain ⟨v3, h4, h⟩ := ob h
  refine xr_iald C0 W0 h4 dX3_weighFrom_75 ?_
  refine lv_iadd hx hb dX3_weighFrom_76 ?_
  refine lv_istore (lv' := [(8, .int (((l6 * l6) + s0) + v3)), (7, .int s0), (0, .ref l0), (1, .ref l1), (2, .int l2), (3, .int l3), (4, .int l4), (5, .int l5), (6, .int l6)]) hx hb dX3_weighFrom_77 hl (by decide) rfl (fun ls hl => ?_)
  refine lv_iload hx hb dX3_weighFrom_79 (lv_at hl 7 rfl) ?_
  refine lv_iload_n hx hb dX3_weighFrom_81 rfl (lv_at hl 5 rfl) ?_
  refine lv_icmp_eq (tgt := 96) hx hb dX3_weighFrom_82 (by decide) (fun hcq => ?_) (fun hcq => ?_)
  · have h := it_t hcq h
    exact tX3_weighFrom_j96 C0 hret hrec hK W0 (lv_sub hl [2, 3, 4, 5, 6, 7, 0] rfl) h
  · have h := it_f hcq h
    refine lv_iload hx hb dX3_weighFrom_85 (lv_at hl 0 rfl) ?_
    refine lv_aload_n hx hb dX3_weighFrom_87 rfl (lv_at hl 2 rfl) ?_
    obtain ⟨q5, h6, h⟩ := ob h
    refine xr_getR C0 W0 cl_X3 5 (by decide) fl_X3_28 rfl h6 dX3_weighFrom_88 ?_
    refine lv_iload_n hx hb dX3_weighFrom_91 rfl (lv_at hl 5 rfl) ?_
    obtain ⟨v7, h8, h⟩ := ob h
    refine xr_iald C0 W0 h8 dX3_weighFrom_92 ?_
    refine lv_icmp_gt (tgt := 116) hx hb dX3_weighFrom_93 (by decide) (fun hcq => ?_) (fun hcq => ?_)
    · have h := it_t hcq h
      exact tX3_weighFrom_j116 C0 hret hrec hK W0 (lv_sub hl [2, 3, 4, 5, 6, 7] rfl) h
    · have h := it_f hcq h
      exact tX3_weighFrom_j96 C0 hret hrec hK W0 (lv_sub hl [2, 3, 4, 5, 6, 7, 0] rfl) h
theorem tX3_weighFrom_l6_b {p : Program} {l : Launch} {e : Env} {s : State} {m : MethodId} {args : Array Value} {below : List Frame} {meth : Method} {c : Code} {G : XG} {X0 : XW} (C0 : XC p s m args meth c RX3 cX3_weighFrom 9 G) (hret : meth.sig.returnType = none) {r : XW} {l0 : Nat} {l1 : Nat} {l2 : Int32} {l3 : Int32} {Q : State → Prop} {rec : Int32 → Int32 → XW → Option (XW)} (hrec : ∀ {y4 : Int32} {y5 : Int32} {X : XW} {H : Heap} {locs : List Loc} {ls : Array Slot}, XD G X0 X s H locs → lv_has ls 9 [(0, .ref l0), (1, .ref l1), (2, .int l2), (3, .int l3), (4, .int y4), (5, .int y5)] → rec y4 y5 X = some r → W p l e { frames := 0, cells := 0, slots := 0, locals := 0 } s m args below meth c H locs 0 0 Q (F0 m 6 ls [])) (hK : ∀ {H : Heap} {locs : List Loc} {ls : Array Slot}, XD G X0 r s H locs → lv_has ls 9 [] → W p l e { frames := 0, cells := 0, slots := 0, locals := 0 } s m args below meth c H locs 0 0 Q (F0 m 122 ls []))  {l4 : Int32} {l5 : Int32} {X : XW} {H : Heap} {locs : List Loc} {ls : Array Slot} (W0 : XD G X0 X s H locs) (hl : lv_has ls 9 [(0, .ref l0), (1, .ref l1), (2, .int l2), (3, .int l3), (4, .int l4), (5, .int l5)]) (h : fX3_weighFrom_l6_b rec l0 l1 l2 l3 l4 l5 X = some r) : W p l e { frames := 0, cells := 0, slots := 0, locals := 0 } s m args below meth c H locs 0 0 Q (F0 m 6 ls []) := by
  have hx := C0.1
  have hb := C0.2.1
  unfold fX3_weighFrom_l6_b at h
  refine lv_iload hx hb dX3_weighFrom_6 (lv_at hl 5 rfl) ?_
  refine lv_aload_n hx hb dX3_weighFrom_8 rfl (lv_at hl 1 rfl) ?_
  obtain ⟨v1, h2, h⟩ := ob h
  refine xr_getI C0 W0 cl_X4 6 (by decide) fl_X3_38 rfl h2 dX3_weighFrom_9 ?_
  refine lv_icmp_ge (tgt := 122) hx hb dX3_weighFrom_12 (by decide) (fun hcq => ?_) (fun hcq => ?_)
  · have h := it_t hcq h
    cases h
    exact hK W0 (lv_sub hl [] rfl)
  · have h := it_f hcq h
    refine lv_iload hx hb dX3_weighFrom_15 (lv_at hl 4 rfl) ?_
    refine lv_aload_n hx hb dX3_weighFrom_17 rfl (lv_at hl 1 rfl) ?_
    obtain ⟨q3, h4, h⟩ := ob h
    refine xr_getR C0 W0 cl_X4 0 (by decide) fl_X3_50 rfl h4 dX3_weighFrom_18 ?_
    refine lv_iload hx hb dX3_weighFrom_21 (lv_at hl 5 rfl) ?_
    obtain ⟨v5, h6, h⟩ := ob h
    refine xr_iald C0 W0 h6 dX3_weighFrom_23 ?_
    refine lv_iadd hx hb dX3_weighFrom_24 ?_
    refine lv_istore (lv' := [(4, .int (l4 + v5)), (0, .ref l0), (1, .ref l1), (2, .int l2), (3, .int l3), (5, .int l5)]) hx hb dX3_weighFrom_25 hl (by decide) rfl (fun ls hl => ?_)
    refine lv_iload hx hb dX3_weighFrom_27 (lv_at hl 0 rfl) ?_
    refine lv_iload_n hx hb dX3_weighFrom_29 rfl (lv_at hl 3 rfl) ?_
    refine lv_isub hx hb dX3_weighFrom_30 ?_
    refine lv_istore (lv' := [(6, .int ((l4 + v5) - l2)), (4, .int (l4 + v5)), (0, .ref l0), (1, .ref l1), (2, .int l2), (3, .int l3), (5, .int l5)]) hx hb dX3_weighFrom_31 hl (by decide) rfl (fun ls hl => ?_)
    refine lv_iload hx hb dX3_weighFrom_33 (lv_at hl 6 rfl) ?_
    refine lv_iconst (v := 1) hx hb dX3_weighFrom_35 (by decide) ?_
    refine lv_iadd hx hb dX3_weighFrom_36 ?_
    refine lv_aload_n hx hb dX3_weighFrom_37 rfl (lv_at hl 3 rfl) ?_
    obtain ⟨v7, h8, h⟩ := ob h
    refine xr_getI C0 W0 cl_X4 6 (by decide) fl_X3_38 rfl h8 dX3_weighFrom_38 ?_
    refine lv_icmp_ge (tgt := 56) hx hb dX3_weighFrom_41 (by decide) (fun hcq => ?_) (fun hcq => ?_)
    · have h := it_t hcq h
      refine lv_iconst (v := 0) hx hb dX3_weighFrom_56 (by decide) ?_
      exact tX3_weighFrom_j57 C0 hret hrec hK W0 (lv_sub hl [2, 3, 4, 5, 1, 6, 0] rfl) h
    · have h := it_f hcq h
      refine lv_iconst (v := 1) hx hb dX3_weighFrom_44 (by decide) ?_
      refine lv_aload_n hx hb dX3_weighFrom_45 rfl (lv_at hl 3 rfl) ?_
      obtain ⟨q9, h10, h⟩ := ob h
      refine xr_getR C0 W0 cl_X4 2 (by decide) fl_X3_53 rfl h10 dX3_weighFrom_46 ?_
      refine lv_iload hx hb dX3_weighFrom_49 (lv_at hl 6 rfl) ?_
      obtain ⟨v11, h12, h⟩ := ob h
      refine xr_iald C0 W0 h12 dX3_weighFrom_51 ?_
      refine lv_iadd hx hb dX3_weighFrom_52 ?_
      refine lv_goto (tgt := 57) hx hb dX3_weighFrom_53 (by decide) ?_
      exact tX3_weighFrom_j57 C0 hret hrec hK W0 (lv_sub hl [2, 3, 4, 5, 1, 6, 0] rfl) h
theorem tX3_weighFrom_l6 {p : Program} {l : Launch} {e : Env} {s : State} {m : MethodId} {args : Array Value} {below : List Frame} {meth : Method} {c : Code} {G : XG} {X0 : XW} (C0 : XC p s m args meth c RX3 cX3_weighFrom 9 G) (hret : meth.sig.returnType = none) {r : XW} {l0 : Nat} {l1 : Nat} {l2 : Int32} {l3 : Int32} {Q : State → Prop} (hK : ∀ {H : Heap} {locs : List Loc} {ls : Array Slot}, XD G X0 r s H locs → lv_has ls 9 [] → W p l e { frames := 0, cells := 0, slots := 0, locals := 0 } s m args below meth c H locs 0 0 Q (F0 m 122 ls [])) : ∀ (n : Nat) {y4 : Int32} {y5 : Int32} {X : XW} {H : Heap} {locs : List Loc} {ls : Array Slot}, XD G X0 X s H locs → lv_has ls 9 [(0, .ref l0), (1, .ref l1), (2, .int l2), (3, .int l3), (4, .int y4), (5, .int y5)] → fX3_weighFrom_l6 l0 l1 l2 l3 n y4 y5 X = some r → W p l e { frames := 0, cells := 0, slots := 0, locals := 0 } s m args below meth c H locs 0 0 Q (F0 m 6 ls []) := by
  intro n
  induction n with
  | zero =>
    intro y4 y5 X H locs ls W0 hl h
    cases h
  | succ n ih =>
    intro y4 y5 X H locs ls W0 hl h
    exact tX3_weighFrom_l6_b C0 hret (rec := fX3_weighFrom_l6 l0 l1 l2 l3 n) (fun W0 hl h => ih W0 hl h) hK W0 hl h
theorem ctX3_weighFrom (l : Launch) (G : XG) {l0 : Nat} {l1 : Nat} {l2 : Int32} {l3 : Int32} {X : XW} {r : XW}  (h : fX3_weighFrom l0 l1 l2 l3 X = some r) : XM l G yX3_weighFrom cX3_weighFrom 9 none 0 0 0 0 [.ref l0, .ref l1, .int l2, .int l3] X (none, r) := by
  refine xm_of (own := RX3) (by decide) rfl (Nat.le_of_ble_eq_true rfl) ?_
  intro p e s m below meth c ls C0 W0 hret hnm hl
  have hx := C0.1
  have hb := C0.2.1
  have hl : lv_has ls 9 [(0, .ref l0), (1, .ref l1), (2, .int l2), (3, .int l3)] := hl
  unfold fX3_weighFrom at h
  refine lv_iconst (v := 0) hx hb dX3_weighFrom_0 (by decide) ?_
  refine lv_istore (lv' := [(4, .int 0), (0, .ref l0), (1, .ref l1), (2, .int l2), (3, .int l3)]) hx hb dX3_weighFrom_1 hl (by decide) rfl (fun ls hl => ?_)
  refine lv_iload_n hx hb dX3_weighFrom_3 rfl (lv_at hl 4 rfl) ?_
  refine lv_istore (lv' := [(5, .int l3), (4, .int 0), (0, .ref l0), (1, .ref l1), (2, .int l2), (3, .int l3)]) hx hb dX3_weighFrom_4 hl (by decide) rfl (fun ls hl => ?_)
  obtain ⟨r1, h2, h⟩ := ob h
  refine tX3_weighFrom_l6 C0 hret (fun {H} {locs} {ls} W0 hl => ?_) FU W0 (lv_sub hl [2, 3, 4, 5, 1, 0] rfl) h2
  exact xr_vret C0 W0 hret (Option.some.inj h).symm dX3_weighFrom_122
def fX3_accentWords_j66 (rec : Int32 → Int32 → Int32 → XW → Option (Int32 × Int32 × XW)) (l0 : Nat) (l1 : Nat) (l3 : Int32) (l4 : Int32) (l6 : Int32) (s0 : Int32) (X : XW) : Option (Int32 × Int32 × XW) :=
  rec l4 s0 (l6 + 1) X
def fX3_accentWords_j46 (rec : Int32 → Int32 → Int32 → XW → Option (Int32 × Int32 × XW)) (l0 : Nat) (l1 : Nat) (l3 : Int32) (l5 : Int32) (l6 : Int32) (s0 : Int32) (s1 : Int32) (X : XW) : Option (Int32 × Int32 × XW) :=
  gR X l1 4 3 >>= fun q1 =>
  aI X q1 3 l6 >>= fun v3 =>
  if (v3 = 0 : Prop) then (fX3_accentWords_j66 rec l0 l1 l3 (s1 + s0) l6 l5 X)
  else (fX3_accentWords_j66 rec l0 l1 l3 (s1 + s0) l6 l6 X)
def fX3_accentWords_l9_b (rec : Int32 → Int32 → Int32 → XW → Option (Int32 × Int32 × XW)) (l0 : Nat) (l1 : Nat) (l3 : Int32) (l4 : Int32) (l5 : Int32) (l6 : Int32) (X : XW) : Option (Int32 × Int32 × XW) :=
  if (l3 ≤ l6 : Prop) then (some (l4, l5, X))
  else (gR X l0 3 4 >>= fun q1 =>
    gR X l1 4 4 >>= fun q3 =>
    aI X q3 3 l6 >>= fun v5 =>
    uZ X q1 l6 v5 >>= fun X7 =>
    gR X7 l1 4 4 >>= fun q9 =>
    aI X7 q9 3 l6 >>= fun v11 =>
    if (v11 = 0 : Prop) then (fX3_accentWords_j46 rec l0 l1 l3 l5 l6 0 l4 X7)
    else (fX3_accentWords_j46 rec l0 l1 l3 l5 l6 1 l4 X7))
def fX3_accentWords_l9 (l0 : Nat) (l1 : Nat) (l3 : Int32) (n : Nat) : Int32 → Int32 → Int32 → XW → Option (Int32 × Int32 × XW) := iter (fun rec => fX3_accentWords_l9_b rec l0 l1 l3) (fun _ _ _ _ => none) n
def fX3_accentWords_j100  (s0 : Int32) (s1 : Nat) (X : XW) : Option (Int32 × XW) :=
  uZ X s1 s0 1 >>= fun X1 =>
  some (1, X1)
def fX3_accentWords (l0 : Nat) (l1 : Nat) (l2 : Int32) (l3 : Int32) (X : XW) : Option (Int32 × XW) :=
  fX3_accentWords_l9 l0 l1 l3 FU 0 (-1) l2 X >>= fun r1 =>
  if (r1.1 ≤ 0 : Prop) then (gR r1.2.2 l0 3 4 >>= fun q3 =>
    if (r1.2.1 = (-1) : Prop) then (fX3_accentWords_j100 (l3 - 1) q3 r1.2.2)
    else (fX3_accentWords_j100 r1.2.1 q3 r1.2.2))
  else (some (r1.1, r1.2.2))
theorem tX3_accentWords_j66 {p : Program} {l : Launch} {e : Env} {s : State} {m : MethodId} {args : Array Value} {below : List Frame} {meth : Method} {c : Code} {G : XG} {X0 : XW} (C0 : XC p s m args meth c RX3 cX3_accentWords 7 G) (hret : meth.sig.returnType = (some .int)) {r : Int32 × Int32 × XW} {l0 : Nat} {l1 : Nat} {l3 : Int32} {Q : State → Prop} {rec : Int32 → Int32 → Int32 → XW → Option (Int32 × Int32 × XW)} (hrec : ∀ {y4 : Int32} {y5 : Int32} {y6 : Int32} {X : XW} {H : Heap} {locs : List Loc} {ls : Array Slot}, XD G X0 X s H locs → lv_has ls 7 [(0, .ref l0), (1, .ref l1), (3, .int l3), (4, .int y4), (5, .int y5), (6, .int y6)] → rec y4 y5 y6 X = some r → W p l e { frames := 0, cells := 0, slots := 0, locals := 0 } s m args below meth c H locs 0 0 Q (F0 m 9 ls [])) (hK : ∀ {H : Heap} {locs : List Loc} {ls : Array Slot}, XD G X0 r.2.2 s H locs → lv_has ls 7 [(0, .ref l0), (3, .int l3), (4, .int r.1), (5, .int r.2.1)] → W p l e { frames := 0, cells := 0, slots := 0, locals := 0 } s m args below meth c H locs 0 0 Q (F0 m 74 ls []))  {l4 : Int32} {l6 : Int32} {s0 : Int32} {X : XW} {H : Heap} {locs : List Loc} {ls : Array Slot} (W0 : XD G X0 X s H locs) (hl : lv_has ls 7 [(0, .ref l0), (1, .ref l1), (3, .int l3), (4, .int l4), (6, .int l6)]) (h : fX3_accentWords_j66 rec l0 l1 l3 l4 l6 s0 X = some r) : W p l e { frames := 0, cells := 0, slots := 0, locals := 0 } s m args below meth c H locs 0 0 Q (F0 m 66 ls [.int s0]) := by
  have hx := C0.1
  have hb := C0.2.1
  unfold fX3_accentWords_j66 at h
  refine lv_istore (lv' := [(5, .int s0), (0, .ref l0), (1, .ref l1), (3, .int l3), (4, .int l4), (6, .int l6)]) hx hb dX3_accentWords_66 hl (by decide) rfl (fun ls hl => ?_)
  refine lv_iinc (v := (l6 + 1)) (lv' := [(6, .int (l6 + 1)), (5, .int s0), (0, .ref l0), (1, .ref l1), (3, .int l3), (4, .int l4)]) hx hb dX3_accentWords_68 hl (k := 5) rfl (ii (by decide)) (by decide) rfl (fun ls hl => ?_)
  refine lv_goto (tgt := 9) hx hb dX3_accentWords_71 (by decide) ?_
  exact hrec W0 (lv_sub hl [2, 3, 4, 5, 1, 0] rfl) h
theorem tX3_accentWords_j46 {p : Program} {l : Launch} {e : Env} {s : State} {m : MethodId} {args : Array Value} {below : List Frame} {meth : Method} {c : Code} {G : XG} {X0 : XW} (C0 : XC p s m args meth c RX3 cX3_accentWords 7 G) (hret : meth.sig.returnType = (some .int)) {r : Int32 × Int32 × XW} {l0 : Nat} {l1 : Nat} {l3 : Int32} {Q : State → Prop} {rec : Int32 → Int32 → Int32 → XW → Option (Int32 × Int32 × XW)} (hrec : ∀ {y4 : Int32} {y5 : Int32} {y6 : Int32} {X : XW} {H : Heap} {locs : List Loc} {ls : Array Slot}, XD G X0 X s H locs → lv_has ls 7 [(0, .ref l0), (1, .ref l1), (3, .int l3), (4, .int y4), (5, .int y5), (6, .int y6)] → rec y4 y5 y6 X = some r → W p l e { frames := 0, cells := 0, slots := 0, locals := 0 } s m args below meth c H locs 0 0 Q (F0 m 9 ls [])) (hK : ∀ {H : Heap} {locs : List Loc} {ls : Array Slot}, XD G X0 r.2.2 s H locs → lv_has ls 7 [(0, .ref l0), (3, .int l3), (4, .int r.1), (5, .int r.2.1)] → W p l e { frames := 0, cells := 0, slots := 0, locals := 0 } s m args below meth c H locs 0 0 Q (F0 m 74 ls []))  {l5 : Int32} {l6 : Int32} {s0 : Int32} {s1 : Int32} {X : XW} {H : Heap} {locs : List Loc} {ls : Array Slot} (W0 : XD G X0 X s H locs) (hl : lv_has ls 7 [(0, .ref l0), (1, .ref l1), (3, .int l3), (5, .int l5), (6, .int l6)]) (h : fX3_accentWords_j46 rec l0 l1 l3 l5 l6 s0 s1 X = some r) : W p l e { frames := 0, cells := 0, slots := 0, locals := 0 } s m args below meth c H locs 0 0 Q (F0 m 46 ls [.int s0, .int s1]) := by
  have hx := C0.1
  have hb := C0.2.1
  unfold fX3_accentWords_j46 at h
  refine lv_iadd hx hb dX3_accentWords_46 ?_
  refine lv_istore (lv' := [(4, .int (s1 + s0)), (0, .ref l0), (1, .ref l1), (3, .int l3), (5, .int l5), (6, .int l6)]) hx hb dX3_accentWords_47 hl (by decide) rfl (fun ls hl => ?_)
  refine lv_aload_n hx hb dX3_accentWords_49 rfl (lv_at hl 2 rfl) ?_
  obtain ⟨q1, h2, h⟩ := ob h
  refine xr_getR C0 W0 cl_X4 3 (by decide) fl_X3_63 rfl h2 dX3_accentWords_50 ?_
  refine lv_iload hx hb dX3_accentWords_53 (lv_at hl 5 rfl) ?_
  obtain ⟨v3, h4, h⟩ := ob h
  refine xr_zald C0 W0 h4 dX3_accentWords_55 ?_
  refine lv_if_eq (tgt := 64) hx hb dX3_accentWords_56 (by decide) (fun hcq => ?_) (fun hcq => ?_)
  · have h := it_t hcq h
    refine lv_iload hx hb dX3_accentWords_64 (lv_at hl 4 rfl) ?_
    exact tX3_accentWords_j66 C0 hret hrec hK W0 (lv_sub hl [1, 2, 3, 0, 5] rfl) h
  · have h := it_f hcq h
    refine lv_iload hx hb dX3_accentWords_59 (lv_at hl 5 rfl) ?_
    refine lv_goto (tgt := 66) hx hb dX3_accentWords_61 (by decide) ?_
    exact tX3_accentWords_j66 C0 hret hrec hK W0 (lv_sub hl [1, 2, 3, 0, 5] rfl) h
theorem tX3_accentWords_l9_b {p : Program} {l : Launch} {e : Env} {s : State} {m : MethodId} {args : Array Value} {below : List Frame} {meth : Method} {c : Code} {G : XG} {X0 : XW} (C0 : XC p s m args meth c RX3 cX3_accentWords 7 G) (hret : meth.sig.returnType = (some .int)) {r : Int32 × Int32 × XW} {l0 : Nat} {l1 : Nat} {l3 : Int32} {Q : State → Prop} {rec : Int32 → Int32 → Int32 → XW → Option (Int32 × Int32 × XW)} (hrec : ∀ {y4 : Int32} {y5 : Int32} {y6 : Int32} {X : XW} {H : Heap} {locs : List Loc} {ls : Array Slot}, XD G X0 X s H locs → lv_has ls 7 [(0, .ref l0), (1, .ref l1), (3, .int l3), (4, .int y4), (5, .int y5), (6, .int y6)] → rec y4 y5 y6 X = some r → W p l e { frames := 0, cells := 0, slots := 0, locals := 0 } s m args below meth c H locs 0 0 Q (F0 m 9 ls [])) (hK : ∀ {H : Heap} {locs : List Loc} {ls : Array Slot}, XD G X0 r.2.2 s H locs → lv_has ls 7 [(0, .ref l0), (3, .int l3), (4, .int r.1), (5, .int r.2.1)] → W p l e { frames := 0, cells := 0, slots := 0, locals := 0 } s m args below meth c H locs 0 0 Q (F0 m 74 ls []))  {l4 : Int32} {l5 : Int32} {l6 : Int32} {X : XW} {H : Heap} {locs : List Loc} {ls : Array Slot} (W0 : XD G X0 X s H locs) (hl : lv_has ls 7 [(0, .ref l0), (1, .ref l1), (3, .int l3), (4, .int l4), (5, .int l5), (6, .int l6)]) (h : fX3_accentWords_l9_b rec l0 l1 l3 l4 l5 l6 X = some r) : W p l e { frames := 0, cells := 0, slots := 0, locals := 0 } s m args below meth c H locs 0 0 Q (F0 m 9 ls []) := by
  have hx := C0.1
  have hb := C0.2.1
  unfold fX3_accentWords_l9_b at h
  refine lv_iload hx hb dX3_accentWords_9 (lv_at hl 5 rfl) ?_
  refine lv_iload_n hx hb dX3_accentWords_11 rfl (lv_at hl 2 rfl) ?_
  refine lv_icmp_ge (tgt := 74) hx hb dX3_accentWords_12 (by decide) (fun hcq => ?_) (fun hcq => ?_)
  · have h := it_t hcq h
    cases h
    exact hK W0 (lv_sub hl [0, 2, 3, 4] rfl)
  · have h := it_f hcq h
    refine lv_aload_n hx hb dX3_accentWords_15 rfl (lv_at hl 0 rfl) ?_
    obtain ⟨q1, h2, h⟩ := ob h
    refine xr_getR C0 W0 cl_X3 4 (by decide) fl_X3_24 rfl h2 dX3_accentWords_16 ?_
    refine lv_iload hx hb dX3_accentWords_19 (lv_at hl 5 rfl) ?_
    refine lv_aload_n hx hb dX3_accentWords_21 rfl (lv_at hl 1 rfl) ?_
    obtain ⟨q3, h4, h⟩ := ob h
    refine xr_getR C0 W0 cl_X4 4 (by decide) fl_X3_60 rfl h4 dX3_accentWords_22 ?_
    refine lv_iload hx hb dX3_accentWords_25 (lv_at hl 5 rfl) ?_
    obtain ⟨v5, h6, h⟩ := ob h
    refine xr_zald C0 W0 h6 dX3_accentWords_27 ?_
    obtain ⟨X7, h8, h⟩ := ob h
    refine xr_zast C0 W0 h8 dX3_accentWords_28 (fun H locs W0 => ?_)
    refine lv_iload hx hb dX3_accentWords_29 (lv_at hl 3 rfl) ?_
    refine lv_aload_n hx hb dX3_accentWords_31 rfl (lv_at hl 1 rfl) ?_
    obtain ⟨q9, h10, h⟩ := ob h
    refine xr_getR C0 W0 cl_X4 4 (by decide) fl_X3_60 rfl h10 dX3_accentWords_32 ?_
    refine lv_iload hx hb dX3_accentWords_35 (lv_at hl 5 rfl) ?_
    obtain ⟨v11, h12, h⟩ := ob h
    refine xr_zald C0 W0 h12 dX3_accentWords_37 ?_
    refine lv_if_eq (tgt := 45) hx hb dX3_accentWords_38 (by decide) (fun hcq => ?_) (fun hcq => ?_)
    · have h := it_t hcq h
      refine lv_iconst (v := 0) hx hb dX3_accentWords_45 (by decide) ?_
      exact tX3_accentWords_j46 C0 hret hrec hK W0 (lv_sub hl [0, 1, 2, 4, 5] rfl) h
    · have h := it_f hcq h
      refine lv_iconst (v := 1) hx hb dX3_accentWords_41 (by decide) ?_
      refine lv_goto (tgt := 46) hx hb dX3_accentWords_42 (by decide) ?_
      exact tX3_accentWords_j46 C0 hret hrec hK W0 (lv_sub hl [0, 1, 2, 4, 5] rfl) h
theorem tX3_accentWords_l9 {p : Program} {l : Launch} {e : Env} {s : State} {m : MethodId} {args : Array Value} {below : List Frame} {meth : Method} {c : Code} {G : XG} {X0 : XW} (C0 : XC p s m args meth c RX3 cX3_accentWords 7 G) (hret : meth.sig.returnType = (some .int)) {r : Int32 × Int32 × XW} {l0 : Nat} {l1 : Nat} {l3 : Int32} {Q : State → Prop} (hK : ∀ {H : Heap} {locs : List Loc} {ls : Array Slot}, XD G X0 r.2.2 s H locs → lv_has ls 7 [(0, .ref l0), (3, .int l3), (4, .int r.1), (5, .int r.2.1)] → W p l e { frames := 0, cells := 0, slots := 0, locals := 0 } s m args below meth c H locs 0 0 Q (F0 m 74 ls [])) : ∀ (n : Nat) {y4 : Int32} {y5 : Int32} {y6 : Int32} {X : XW} {H : Heap} {locs : List Loc} {ls : Array Slot}, XD G X0 X s H locs → lv_has ls 7 [(0, .ref l0), (1, .ref l1), (3, .int l3), (4, .int y4), (5, .int y5), (6, .int y6)] → fX3_accentWords_l9 l0 l1 l3 n y4 y5 y6 X = some r → W p l e { frames := 0, cells := 0, slots := 0, locals := 0 } s m args below meth c H locs 0 0 Q (F0 m 9 ls []) := by
  intro n
  induction n with
  | zero =>
    intro y4 y5 y6 X H locs ls W0 hl h
    cases h
  | succ n ih =>
    intro y4 y5 y6 X H locs ls W0 hl h
    exact tX3_accentWords_l9_b C0 hret (rec := fX3_accentWords_l9 l0 l1 l3 n) (fun W0 hl h => ih W0 hl h) hK W0 hl h
theorem tX3_accentWords_j100 {p : Program} {l : Launch} {e : Env} {s : State} {m : MethodId} {args : Array Value} {below : List Frame} {meth : Method} {c : Code} {G : XG} {X0 : XW} (C0 : XC p s m args meth c RX3 cX3_accentWords 7 G) (hret : meth.sig.returnType = (some .int)) {r : Int32 × XW} {s0 : Int32} {s1 : Nat} {X : XW} {H : Heap} {locs : List Loc} {ls : Array Slot} (W0 : XD G X0 X s H locs) (hl : lv_has ls 7 []) (h : fX3_accentWords_j100 s0 s1 X = some r) : W p l e { frames := 0, cells := 0, slots := 0, locals := 0 } s m args below meth c H locs 0 0 (MQ below (XQ G X0 (some (.int r.1), r.2)) args s 0 0 (xAd X0)) (F0 m 100 ls [.int s0, .ref s1]) := by
  have hx := C0.1
  have hb := C0.2.1
  unfold fX3_accentWords_j100 at h
  refine lv_iconst (v := 1) hx hb dX3_accentWords_100 (by decide) ?_
  obtain ⟨X1, h2, h⟩ := ob h
  refine xr_zast C0 W0 h2 dX3_accentWords_101 (fun H locs W0 => ?_)
  refine lv_iconst (v := 1) hx hb dX3_accentWords_102 (by decide) ?_
  exact xr_iret C0 W0 hret (Option.some.inj h) dX3_accentWords_103
theorem ctX3_accentWords (l : Launch) (G : XG) {l0 : Nat} {l1 : Nat} {l2 : Int32} {l3 : Int32} {X : XW} {r : Int32 × XW}  (h : fX3_accentWords l0 l1 l2 l3 X = some r) : XM l G yX3_accentWords cX3_accentWords 7 (some .int) 0 0 0 0 [.ref l0, .ref l1, .int l2, .int l3] X (some (.int r.1), r.2) := by
  refine xm_of (own := RX3) (by decide) rfl (Nat.le_of_ble_eq_true rfl) ?_
  intro p e s m below meth c ls C0 W0 hret hnm hl
  have hx := C0.1
  have hb := C0.2.1
  have hl : lv_has ls 7 [(0, .ref l0), (1, .ref l1), (2, .int l2), (3, .int l3)] := hl
  unfold fX3_accentWords at h
  refine lv_iconst (v := 0) hx hb dX3_accentWords_0 (by decide) ?_
  refine lv_istore (lv' := [(4, .int 0), (0, .ref l0), (1, .ref l1), (2, .int l2), (3, .int l3)]) hx hb dX3_accentWords_1 hl (by decide) rfl (fun ls hl => ?_)
  refine lv_iconst (v := (-1)) hx hb dX3_accentWords_3 (by decide) ?_
  refine lv_istore (lv' := [(5, .int (-1)), (4, .int 0), (0, .ref l0), (1, .ref l1), (2, .int l2), (3, .int l3)]) hx hb dX3_accentWords_4 hl (by decide) rfl (fun ls hl => ?_)
  refine lv_iload_n hx hb dX3_accentWords_6 rfl (lv_at hl 4 rfl) ?_
  refine lv_istore (lv' := [(6, .int l2), (5, .int (-1)), (4, .int 0), (0, .ref l0), (1, .ref l1), (2, .int l2), (3, .int l3)]) hx hb dX3_accentWords_7 hl (by decide) rfl (fun ls hl => ?_)
  obtain ⟨r1, h2, h⟩ := ob h
  refine tX3_accentWords_l9 C0 hret (fun {H} {locs} {ls} W0 hl => ?_) FU W0 (lv_sub hl [3, 4, 6, 2, 1, 0] rfl) h2
  refine lv_iload hx hb dX3_accentWords_74 (lv_at hl 2 rfl) ?_
  refine lv_if_le (tgt := 82) hx hb dX3_accentWords_76 (by decide) (fun hcq => ?_) (fun hcq => ?_)
  · have h := it_t hcq h
    refine lv_aload_n hx hb dX3_accentWords_82 rfl (lv_at hl 0 rfl) ?_
    obtain ⟨q3, h4, h⟩ := ob h
    refine xr_getR C0 W0 cl_X3 4 (by decide) fl_X3_24 rfl h4 dX3_accentWords_83 ?_
    refine lv_iload hx hb dX3_accentWords_86 (lv_at hl 3 rfl) ?_
    refine lv_iconst (v := (-1)) hx hb dX3_accentWords_88 (by decide) ?_
    refine lv_icmp_ne (tgt := 98) hx hb dX3_accentWords_89 (by decide) (fun hcq => ?_) (fun hcq => ?_)
    · have h := it_f hcq h
      refine lv_iload hx hb dX3_accentWords_98 (lv_at hl 3 rfl) ?_
      exact tX3_accentWords_j100 C0 hret W0 (lv_sub hl [] rfl) h
    · have h := it_t hcq h
      refine lv_iload_n hx hb dX3_accentWords_92 rfl (lv_at hl 1 rfl) ?_
      refine lv_iconst (v := 1) hx hb dX3_accentWords_93 (by decide) ?_
      refine lv_isub hx hb dX3_accentWords_94 ?_
      refine lv_goto (tgt := 100) hx hb dX3_accentWords_95 (by decide) ?_
      exact tX3_accentWords_j100 C0 hret W0 (lv_sub hl [] rfl) h
  · have h := it_f hcq h
    refine lv_iload hx hb dX3_accentWords_79 (lv_at hl 2 rfl) ?_
    exact xr_iret C0 W0 hret (Option.some.inj h) dX3_accentWords_81
def fX3_addPhrase_l6_b (rec : Int32 → Int32 → XW → Option (Int32 × XW)) (l0 : Nat) (l1 : Nat) (l2 : Int32) (l3 : Int32) (l4 : Int32) (l5 : Int32) (X : XW) : Option (Int32 × XW) :=
  if (l3 ≤ l5 : Prop) then (some (l4, X))
  else (gR X l1 4 0 >>= fun q1 =>
    aI X q1 1 l5 >>= fun v3 =>
    rec (l4 + v3) (l5 + 1) X)
def fX3_addPhrase_l6 (l0 : Nat) (l1 : Nat) (l2 : Int32) (l3 : Int32) (n : Nat) : Int32 → Int32 → XW → Option (Int32 × XW) := iter (fun rec => fX3_addPhrase_l6_b rec l0 l1 l2 l3) (fun _ _ _ => none) n
def fX3_addPhrase (l0 : Nat) (l1 : Nat) (l2 : Int32) (l3 : Int32) (X : XW) : Option (XW) :=
  fX3_addPhrase_l6 l0 l1 l2 l3 FU 0 l2 X >>= fun r1 =>
  gR r1.2 l0 3 0 >>= fun q3 =>
  gI r1.2 l0 3 7 >>= fun v5 =>
  uI r1.2 q3 v5 l2 >>= fun X7 =>
  gR X7 l0 3 1 >>= fun q9 =>
  gI X7 l0 3 7 >>= fun v11 =>
  uI X7 q9 v11 (l3 - l2) >>= fun X13 =>
  gR X13 l0 3 2 >>= fun q15 =>
  gI X13 l0 3 7 >>= fun v17 =>
  uI X13 q15 v17 r1.1 >>= fun X19 =>
  gR X19 l0 3 3 >>= fun q21 =>
  gI X19 l0 3 7 >>= fun v23 =>
  gK X19 l0 3 >>= fun u25 =>
  fX3_accentWords l0 l1 l2 l3 X19 >>= fun r27 =>
  uI r27.2 q21 v23 r27.1 >>= fun X29 =>
  gI X29 l0 3 7 >>= fun v31 =>
  pI X29 l0 3 7 (v31 + 1) >>= fun X33 =>
  some X33
theorem tX3_addPhrase_l6_b {p : Program} {l : Launch} {e : Env} {s : State} {m : MethodId} {args : Array Value} {below : List Frame} {meth : Method} {c : Code} {G : XG} {X0 : XW} (C0 : XC p s m args meth c RX3 cX3_addPhrase 6 G) (hret : meth.sig.returnType = none) {r : Int32 × XW} {l0 : Nat} {l1 : Nat} {l2 : Int32} {l3 : Int32} {Q : State → Prop} {rec : Int32 → Int32 → XW → Option (Int32 × XW)} (hrec : ∀ {y4 : Int32} {y5 : Int32} {X : XW} {H : Heap} {locs : List Loc} {ls : Array Slot}, XD G X0 X s H locs → lv_has ls 6 [(0, .ref l0), (1, .ref l1), (2, .int l2), (3, .int l3), (4, .int y4), (5, .int y5)] → rec y4 y5 X = some r → W p l e { frames := 1, cells := 0, slots := 0, locals := 60 } s m args below meth c H locs 0 0 Q (F0 m 6 ls [])) (hK : ∀ {H : Heap} {locs : List Loc} {ls : Array Slot}, XD G X0 r.2 s H locs → lv_has ls 6 [(0, .ref l0), (1, .ref l1), (2, .int l2), (3, .int l3), (4, .int r.1)] → W p l e { frames := 1, cells := 0, slots := 0, locals := 60 } s m args below meth c H locs 0 0 Q (F0 m 30 ls []))  {l4 : Int32} {l5 : Int32} {X : XW} {H : Heap} {locs : List Loc} {ls : Array Slot} (W0 : XD G X0 X s H locs) (hl : lv_has ls 6 [(0, .ref l0), (1, .ref l1), (2, .int l2), (3, .int l3), (4, .int l4), (5, .int l5)]) (h : fX3_addPhrase_l6_b rec l0 l1 l2 l3 l4 l5 X = some r) : W p l e { frames := 1, cells := 0, slots := 0, locals := 60 } s m args below meth c H locs 0 0 Q (F0 m 6 ls []) := by
  have hx := C0.1
  have hb := C0.2.1
  unfold fX3_addPhrase_l6_b at h
  refine lv_iload hx hb dX3_addPhrase_6 (lv_at hl 5 rfl) ?_
  refine lv_iload_n hx hb dX3_addPhrase_8 rfl (lv_at hl 3 rfl) ?_
  refine lv_icmp_ge (tgt := 30) hx hb dX3_addPhrase_9 (by decide) (fun hcq => ?_) (fun hcq => ?_)
  · have h := it_t hcq h
    cases h
    exact hK W0 (lv_sub hl [0, 1, 2, 3, 4] rfl)
  · have h := it_f hcq h
    refine lv_iload hx hb dX3_addPhrase_12 (lv_at hl 4 rfl) ?_
    refine lv_aload_n hx hb dX3_addPhrase_14 rfl (lv_at hl 1 rfl) ?_
    obtain ⟨q1, h2, h⟩ := ob h
    refine xr_getR C0 W0 cl_X4 0 (by decide) fl_X3_50 rfl h2 dX3_addPhrase_15 ?_
    refine lv_iload hx hb dX3_addPhrase_18 (lv_at hl 5 rfl) ?_
    obtain ⟨v3, h4, h⟩ := ob h
    refine xr_iald C0 W0 h4 dX3_addPhrase_20 ?_
    refine lv_iadd hx hb dX3_addPhrase_21 ?_
    refine lv_istore (lv' := [(4, .int (l4 + v3)), (0, .ref l0), (1, .ref l1), (2, .int l2), (3, .int l3), (5, .int l5)]) hx hb dX3_addPhrase_22 hl (by decide) rfl (fun ls hl => ?_)
    refine lv_iinc (v := (l5 + 1)) (lv' := [(5, .int (l5 + 1)), (4, .int (l4 + v3)), (0, .ref l0), (1, .ref l1), (2, .int l2), (3, .int l3)]) hx hb dX3_addPhrase_24 hl (k := 5) rfl (ii (by decide)) (by decide) rfl (fun ls hl => ?_)
    refine lv_goto (tgt := 6) hx hb dX3_addPhrase_27 (by decide) ?_
    exact hrec W0 (lv_sub hl [2, 3, 4, 5, 1, 0] rfl) h
theorem tX3_addPhrase_l6 {p : Program} {l : Launch} {e : Env} {s : State} {m : MethodId} {args : Array Value} {below : List Frame} {meth : Method} {c : Code} {G : XG} {X0 : XW} (C0 : XC p s m args meth c RX3 cX3_addPhrase 6 G) (hret : meth.sig.returnType = none) {r : Int32 × XW} {l0 : Nat} {l1 : Nat} {l2 : Int32} {l3 : Int32} {Q : State → Prop} (hK : ∀ {H : Heap} {locs : List Loc} {ls : Array Slot}, XD G X0 r.2 s H locs → lv_has ls 6 [(0, .ref l0), (1, .ref l1), (2, .int l2), (3, .int l3), (4, .int r.1)] → W p l e { frames := 1, cells := 0, slots := 0, locals := 60 } s m args below meth c H locs 0 0 Q (F0 m 30 ls [])) : ∀ (n : Nat) {y4 : Int32} {y5 : Int32} {X : XW} {H : Heap} {locs : List Loc} {ls : Array Slot}, XD G X0 X s H locs → lv_has ls 6 [(0, .ref l0), (1, .ref l1), (2, .int l2), (3, .int l3), (4, .int y4), (5, .int y5)] → fX3_addPhrase_l6 l0 l1 l2 l3 n y4 y5 X = some r → W p l e { frames := 1, cells := 0, slots := 0, locals := 60 } s m args below meth c H locs 0 0 Q (F0 m 6 ls []) := by
  intro n
  induction n with
  | zero =>
    intro y4 y5 X H locs ls W0 hl h
    cases h
  | succ n ih =>
    intro y4 y5 X H locs ls W0 hl h
    exact tX3_addPhrase_l6_b C0 hret (rec := fX3_addPhrase_l6 l0 l1 l2 l3 n) (fun W0 hl h => ih W0 hl h) hK W0 hl h
theorem ctX3_addPhrase (l : Launch) (G : XG) {l0 : Nat} {l1 : Nat} {l2 : Int32} {l3 : Int32} {X : XW} {r : XW}  (h : fX3_addPhrase l0 l1 l2 l3 X = some r) : XM l G yX3_addPhrase cX3_addPhrase 6 none 1 60 0 0 [.ref l0, .ref l1, .int l2, .int l3] X (none, r) := by
  refine xm_of (own := RX3) (by decide) rfl (Nat.le_of_ble_eq_true rfl) ?_
  intro p e s m below meth c ls C0 W0 hret hnm hl
  have hx := C0.1
  have hb := C0.2.1
  have hl : lv_has ls 6 [(0, .ref l0), (1, .ref l1), (2, .int l2), (3, .int l3)] := hl
  unfold fX3_addPhrase at h
  refine lv_iconst (v := 0) hx hb dX3_addPhrase_0 (by decide) ?_
  refine lv_istore (lv' := [(4, .int 0), (0, .ref l0), (1, .ref l1), (2, .int l2), (3, .int l3)]) hx hb dX3_addPhrase_1 hl (by decide) rfl (fun ls hl => ?_)
  refine lv_iload_n hx hb dX3_addPhrase_3 rfl (lv_at hl 3 rfl) ?_
  refine lv_istore (lv' := [(5, .int l2), (4, .int 0), (0, .ref l0), (1, .ref l1), (2, .int l2), (3, .int l3)]) hx hb dX3_addPhrase_4 hl (by decide) rfl (fun ls hl => ?_)
  obtain ⟨r1, h2, h⟩ := ob h
  refine tX3_addPhrase_l6 C0 hret (fun {H} {locs} {ls} W0 hl => ?_) FU W0 (lv_sub hl [2, 3, 4, 5, 1, 0] rfl) h2
  refine lv_aload_n hx hb dX3_addPhrase_30 rfl (lv_at hl 0 rfl) ?_
  obtain ⟨q3, h4, h⟩ := ob h
  refine xr_getR C0 W0 cl_X3 0 (by decide) fl_X3_9 rfl h4 dX3_addPhrase_31 ?_
  refine lv_aload_n hx hb dX3_addPhrase_34 rfl (lv_at hl 0 rfl) ?_
  obtain ⟨v5, h6, h⟩ := ob h
  refine xr_getI C0 W0 cl_X3 7 (by decide) fl_X3_34 rfl h6 dX3_addPhrase_35 ?_
  refine lv_iload_n hx hb dX3_addPhrase_38 rfl (lv_at hl 2 rfl) ?_
  obtain ⟨X7, h8, h⟩ := ob h
  refine xr_iast C0 W0 h8 dX3_addPhrase_39 (fun H locs W0 => ?_)
  refine lv_aload_n hx hb dX3_addPhrase_40 rfl (lv_at hl 0 rfl) ?_
  obtain ⟨q9, h10, h⟩ := ob h
  refine xr_getR C0 W0 cl_X3 1 (by decide) fl_X3_15 rfl h10 dX3_addPhrase_41 ?_
  refine lv_aload_n hx hb dX3_addPhrase_44 rfl (lv_at hl 0 rfl) ?_
  obtain ⟨v11, h12, h⟩ := ob h
  refine xr_getI C0 W0 cl_X3 7 (by decide) fl_X3_34 rfl h12 dX3_addPhrase_45 ?_
  refine lv_iload_n hx hb dX3_addPhrase_48 rfl (lv_at hl 3 rfl) ?_
  refine lv_iload_n hx hb dX3_addPhrase_49 rfl (lv_at hl 2 rfl) ?_
  refine lv_isub hx hb dX3_addPhrase_50 ?_
  obtain ⟨X13, h14, h⟩ := ob h
  refine xr_iast C0 W0 h14 dX3_addPhrase_51 (fun H locs W0 => ?_)
  refine lv_aload_n hx hb dX3_addPhrase_52 rfl (lv_at hl 0 rfl) ?_
  obtain ⟨q15, h16, h⟩ := ob h
  refine xr_getR C0 W0 cl_X3 2 (by decide) fl_X3_18 rfl h16 dX3_addPhrase_53 ?_
  refine lv_aload_n hx hb dX3_addPhrase_56 rfl (lv_at hl 0 rfl) ?_
  obtain ⟨v17, h18, h⟩ := ob h
  refine xr_getI C0 W0 cl_X3 7 (by decide) fl_X3_34 rfl h18 dX3_addPhrase_57 ?_
  refine lv_iload hx hb dX3_addPhrase_60 (lv_at hl 4 rfl) ?_
  obtain ⟨X19, h20, h⟩ := ob h
  refine xr_iast C0 W0 h20 dX3_addPhrase_62 (fun H locs W0 => ?_)
  refine lv_aload_n hx hb dX3_addPhrase_63 rfl (lv_at hl 0 rfl) ?_
  obtain ⟨q21, h22, h⟩ := ob h
  refine xr_getR C0 W0 cl_X3 3 (by decide) fl_X3_21 rfl h22 dX3_addPhrase_64 ?_
  refine lv_aload_n hx hb dX3_addPhrase_67 rfl (lv_at hl 0 rfl) ?_
  obtain ⟨v23, h24, h⟩ := ob h
  refine xr_getI C0 W0 cl_X3 7 (by decide) fl_X3_34 rfl h24 dX3_addPhrase_68 ?_
  refine lv_aload_n hx hb dX3_addPhrase_71 rfl (lv_at hl 0 rfl) ?_
  refine lv_aload_n hx hb dX3_addPhrase_72 rfl (lv_at hl 1 rfl) ?_
  refine lv_iload_n hx hb dX3_addPhrase_73 rfl (lv_at hl 2 rfl) ?_
  refine lv_iload_n hx hb dX3_addPhrase_74 rfl (lv_at hl 3 rfl) ?_
  obtain ⟨u25, h26, h⟩ := ob h
  obtain ⟨r27, h28, h⟩ := ob h
  refine xr_V (As := [.ref l1, .int l2, .int l3]) (rest := [.int v23, .ref q21]) C0 W0 (ctX3_accentWords l G h28) (gK_of h26) (rr := (RX3, TX3, 8)) rfl rfl mc_X3_accentWords mv_X3_accentWords ml_X3_56 ⟨by decide, by decide⟩ rfl hl.1 rfl (Nat.le_of_ble_eq_true rfl) ⟨by decide, by decide⟩ dX3_addPhrase_75 (fun H locs W0 => ?_)
  refine W.cs (cells' := 0) (slots' := 0) rfl rfl ?_
  refine W.eq (g2 := F0 m 78 ls [.int r27.1, .int v23, .ref q21]) rfl ?_
  obtain ⟨X29, h30, h⟩ := ob h
  refine xr_iast C0 W0 h30 dX3_addPhrase_78 (fun H locs W0 => ?_)
  refine lv_aload_n hx hb dX3_addPhrase_79 rfl (lv_at hl 0 rfl) ?_
  refine lv_dup hx hb dX3_addPhrase_80 rfl ?_
  obtain ⟨v31, h32, h⟩ := ob h
  refine xr_getI C0 W0 cl_X3 7 (by decide) fl_X3_34 rfl h32 dX3_addPhrase_81 ?_
  refine lv_iconst (v := 1) hx hb dX3_addPhrase_84 (by decide) ?_
  refine lv_iadd hx hb dX3_addPhrase_85 ?_
  obtain ⟨X33, h34, h⟩ := ob h
  refine xr_putI C0 W0 cl_X3 7 (by decide) fl_X3_34 rfl rfl rfl (by decide) h34 dX3_addPhrase_86 (fun H locs W0 => ?_)
  exact xr_vret C0 W0 hret (Option.some.inj h).symm dX3_addPhrase_89
