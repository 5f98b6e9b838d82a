def fX10_told_l4_b (rec : Int32 → Int32 → XW → Option (Int32 × XW)) (l0 : Nat) (l1 : Int32) (l2 : Int32) (l3 : Int32) (X : XW) : Option (Int32 × XW) :=
  if (l1 ≤ l3 : Prop) then (some (l2, X))
  else (gR X l0 10 52 >>= fun q1 =>
    aI X q1 1 (3 * l3) >>= fun v3 =>
    rec (l2 + v3) (l3 + 1) X)
def fX10_told_l4 (l0 : Nat) (l1 : Int32) (n : Nat) : Int32 → Int32 → XW → Option (Int32 × XW) := iter (fun rec => fX10_told_l4_b rec l0 l1) (fun _ _ _ => none) n
def fX10_told (l0 : Nat) (l1 : Int32) (X : XW) : Option (Int32 × XW) :=
  fX10_told_l4 l0 l1 FU 0 0 X >>= fun r1 =>
  gR r1.2 l0 10 52 >>= fun q3 =>
  aI r1.2 q3 1 (3 * l1) >>= fun v5 =>
  gI r1.2 l0 10 39 >>= fun v7 =>
  gI r1.2 l0 10 40 >>= fun v9 =>
  iD ((r1.1 + v5) * v7) v9 >>= fun v11 =>
  gI r1.2 l0 10 39 >>= fun v13 =>
  gI r1.2 l0 10 40 >>= fun v15 =>
  iD (r1.1 * v13) v15 >>= fun v17 =>
  some ((v11 - v17), r1.2)
theorem tX10_told_l4_b {p : Program} {l : Launch} {e : Env} {s : State} {m : MethodId} {args : Array Value} {below : List Frame} {meth : Method} {c : Code} {G : XG} {X0 : XW} (C0 : XC p s m args meth c RX10 cX10_told 4 G) (hret : meth.sig.returnType = (some .int)) {r : Int32 × XW} {l0 : Nat} {l1 : Int32} {Q : State → Prop} {rec : Int32 → Int32 → XW → Option (Int32 × XW)} (hrec : ∀ {y2 : Int32} {y3 : Int32} {X : XW} {H : Heap} {locs : List Loc} {ls : Array Slot}, XD G X0 X s H locs → lv_has ls 4 [(0, .ref l0), (1, .int l1), (2, .int y2), (3, .int y3)] → rec y2 y3 X = some r → W p l e { frames := 0, cells := 0, slots := 0, locals := 0 } s m args below meth c H locs 0 0 Q (F0 m 4 ls [])) (hK : ∀ {H : Heap} {locs : List Loc} {ls : Array Slot}, XD G X0 r.2 s H locs → lv_has ls 4 [(0, .ref l0), (1, .int l1), (2, .int r.1)] → W p l e { frames := 0, cells := 0, slots := 0, locals := 0 } s m args below meth c H locs 0 0 Q (F0 m 26 ls []))  {l2 : Int32} {l3 : Int32} {X : XW} {H : Heap} {locs : List Loc} {ls : Array Slot} (W0 : XD G X0 X s H locs) (hl : lv_has ls 4 [(0, .ref l0), (1, .int l1), (2, .int l2), (3, .int l3)]) (h : fX10_told_l4_b rec l0 l1 l2 l3 X = some r) : W p l e { frames := 0, cells := 0, slots := 0, locals := 0 } s m args below meth c H locs 0 0 Q (F0 m 4 ls []) := by
  have hx := C0.1
  have hb := C0.2.1
  unfold fX10_told_l4_b at h
  refine lv_iload_n hx hb dX10_told_4 rfl (lv_at hl 3 rfl) ?_
  refine lv_iload_n hx hb dX10_told_5 rfl (lv_at hl 1 rfl) ?_
  refine lv_icmp_ge (tgt := 26) hx hb dX10_told_6 (by decide) (fun hcq => ?_) (fun hcq => ?_)
  · have h := it_t hcq h
    cases h
    exact hK W0 (lv_sub hl [0, 1, 2] rfl)
  · have h := it_f hcq h
    refine lv_iload_n hx hb dX10_told_9 rfl (lv_at hl 2 rfl) ?_
    refine lv_aload_n hx hb dX10_told_10 rfl (lv_at hl 0 rfl) ?_
    obtain ⟨q1, h2, h⟩ := ob h
    refine xr_getR C0 W0 cl_X10 52 (by decide) fl_X10_180 rfl h2 dX10_told_11 ?_
    refine lv_iconst (v := 3) hx hb dX10_told_14 (by decide) ?_
    refine lv_iload_n hx hb dX10_told_15 rfl (lv_at hl 3 rfl) ?_
    refine lv_imul hx hb dX10_told_16 ?_
    obtain ⟨v3, h4, h⟩ := ob h
    refine xr_iald C0 W0 h4 dX10_told_17 ?_
    refine lv_iadd hx hb dX10_told_18 ?_
    refine lv_istore_n (lv' := [(2, .int (l2 + v3)), (0, .ref l0), (1, .int l1), (3, .int l3)]) hx hb dX10_told_19 rfl hl (by decide) rfl (fun ls hl => ?_)
    refine lv_iinc (v := (l3 + 1)) (lv' := [(3, .int (l3 + 1)), (2, .int (l2 + v3)), (0, .ref l0), (1, .int l1)]) hx hb dX10_told_20 hl (k := 3) rfl (ii (by decide)) (by decide) rfl (fun ls hl => ?_)
    refine lv_goto (tgt := 4) hx hb dX10_told_23 (by decide) ?_
    exact hrec W0 (lv_sub hl [2, 3, 1, 0] rfl) h
theorem tX10_told_l4 {p : Program} {l : Launch} {e : Env} {s : State} {m : MethodId} {args : Array Value} {below : List Frame} {meth : Method} {c : Code} {G : XG} {X0 : XW} (C0 : XC p s m args meth c RX10 cX10_told 4 G) (hret : meth.sig.returnType = (some .int)) {r : Int32 × XW} {l0 : Nat} {l1 : Int32} {Q : State → Prop} (hK : ∀ {H : Heap} {locs : List Loc} {ls : Array Slot}, XD G X0 r.2 s H locs → lv_has ls 4 [(0, .ref l0), (1, .int l1), (2, .int r.1)] → W p l e { frames := 0, cells := 0, slots := 0, locals := 0 } s m args below meth c H locs 0 0 Q (F0 m 26 ls [])) : ∀ (n : Nat) {y2 : Int32} {y3 : Int32} {X : XW} {H : Heap} {locs : List Loc} {ls : Array Slot}, XD G X0 X s H locs → lv_has ls 4 [(0, .ref l0), (1, .int l1), (2, .int y2), (3, .int y3)] → fX10_told_l4 l0 l1 n y2 y3 X = some r → W p l e { frames := 0, cells := 0, slots := 0, locals := 0 } s m args below meth c H locs 0 0 Q (F0 m 4 ls []) := by
  intro n
  induction n with
  | zero =>
    intro y2 y3 X H locs ls W0 hl h
    cases h
  | succ n ih =>
    intro y2 y3 X H locs ls W0 hl h
    exact tX10_told_l4_b C0 hret (rec := fX10_told_l4 l0 l1 n) (fun W0 hl h => ih W0 hl h) hK W0 hl h
theorem ctX10_told (l : Launch) (G : XG) {l0 : Nat} {l1 : Int32} {X : XW} {r : Int32 × XW}  (h : fX10_told l0 l1 X = some r) : XM l G yX10_told cX10_told 4 (some .int) 0 0 0 0 [.ref l0, .int l1] X (some (.int r.1), r.2) := by
  refine xm_of (own := RX10) (by decide) rfl (Nat.le_of_ble_eq_true rfl) ?_
  intro p e s m below meth c ls C0 W0 hret hnm hl
  have hx := C0.1
  have hb := C0.2.1
  have hl : lv_has ls 4 [(0, .ref l0), (1, .int l1)] := hl
  unfold fX10_told at h
  refine lv_iconst (v := 0) hx hb dX10_told_0 (by decide) ?_
  refine lv_istore_n (lv' := [(2, .int 0), (0, .ref l0), (1, .int l1)]) hx hb dX10_told_1 rfl hl (by decide) rfl (fun ls hl => ?_)
  refine lv_iconst (v := 0) hx hb dX10_told_2 (by decide) ?_
  refine lv_istore_n (lv' := [(3, .int 0), (2, .int 0), (0, .ref l0), (1, .int l1)]) hx hb dX10_told_3 rfl hl (by decide) rfl (fun ls hl => ?_)
  obtain ⟨r1, h2, h⟩ := ob h
  refine tX10_told_l4 C0 hret (fun {H} {locs} {ls} W0 hl => ?_) FU W0 (lv_sub hl [2, 3, 1, 0] rfl) h2
  refine lv_iload_n hx hb dX10_told_26 rfl (lv_at hl 2 rfl) ?_
  refine lv_aload_n hx hb dX10_told_27 rfl (lv_at hl 0 rfl) ?_
  obtain ⟨q3, h4, h⟩ := ob h
  refine xr_getR C0 W0 cl_X10 52 (by decide) fl_X10_180 rfl h4 dX10_told_28 ?_
  refine lv_iconst (v := 3) hx hb dX10_told_31 (by decide) ?_
  refine lv_iload_n hx hb dX10_told_32 rfl (lv_at hl 1 rfl) ?_
  refine lv_imul hx hb dX10_told_33 ?_
  obtain ⟨v5, h6, h⟩ := ob h
  refine xr_iald C0 W0 h6 dX10_told_34 ?_
  refine lv_iadd hx hb dX10_told_35 ?_
  refine lv_aload_n hx hb dX10_told_36 rfl (lv_at hl 0 rfl) ?_
  obtain ⟨v7, h8, h⟩ := ob h
  refine xr_getI C0 W0 cl_X10 39 (by decide) fl_X10_147 rfl h8 dX10_told_37 ?_
  refine lv_imul hx hb dX10_told_40 ?_
  refine lv_aload_n hx hb dX10_told_41 rfl (lv_at hl 0 rfl) ?_
  obtain ⟨v9, h10, h⟩ := ob h
  refine xr_getI C0 W0 cl_X10 40 (by decide) fl_X10_150 rfl h10 dX10_told_42 ?_
  obtain ⟨v11, h12, h⟩ := ob h
  refine xr_idiv C0 h12 dX10_told_45 ?_
  refine lv_iload_n hx hb dX10_told_46 rfl (lv_at hl 2 rfl) ?_
  refine lv_aload_n hx hb dX10_told_47 rfl (lv_at hl 0 rfl) ?_
  obtain ⟨v13, h14, h⟩ := ob h
  refine xr_getI C0 W0 cl_X10 39 (by decide) fl_X10_147 rfl h14 dX10_told_48 ?_
  refine lv_imul hx hb dX10_told_51 ?_
  refine lv_aload_n hx hb dX10_told_52 rfl (lv_at hl 0 rfl) ?_
  obtain ⟨v15, h16, h⟩ := ob h
  refine xr_getI C0 W0 cl_X10 40 (by decide) fl_X10_150 rfl h16 dX10_told_53 ?_
  obtain ⟨v17, h18, h⟩ := ob h
  refine xr_idiv C0 h18 dX10_told_56 ?_
  refine lv_isub hx hb dX10_told_57 ?_
  exact xr_iret C0 W0 hret (Option.some.inj h) dX10_told_58
def fX10_shape_j31  (l0 : Nat) (l1 : Int32) (l2 : Int32) (s0 : Int32) (s1 : Nat) (X : XW) : Option (Int32 × XW) :=
  pI X s1 10 0 s0 >>= fun X1 =>
  gI X1 l0 10 0 >>= fun v3 =>
  if (v3 ≤ 0 : Prop) then (gI X1 l0 10 29 >>= fun v5 =>
    gK X1 l0 10 >>= fun u7 =>
    fX10_shapes l0 v5 X1 >>= fun X9 =>
    if (l2 = 0 : Prop) then (gK X9 l0 10 >>= fun u31 =>
      fX10_told l0 l1 X9 >>= fun r33 =>
      some (r33.1, r33.2))
    else (if (l2 = 1 : Prop) then (gR X9 l0 10 52 >>= fun q27 =>
        aI X9 q27 1 ((3 * l1) + 1) >>= fun v29 =>
        some (v29, X9))
      else (if (l2 = 2 : Prop) then (gR X9 l0 10 52 >>= fun q23 =>
          aI X9 q23 1 ((3 * l1) + 2) >>= fun v25 =>
          some (v25, X9))
        else (if (l2 = 3 : Prop) then (gR X9 l0 10 48 >>= fun q19 =>
            aI X9 q19 1 l1 >>= fun v21 =>
            some (v21, X9))
          else (if (l2 = 4 : Prop) then (gR X9 l0 10 49 >>= fun q15 =>
              aI X9 q15 1 l1 >>= fun v17 =>
              some (v17, X9))
            else (gR X9 l0 10 52 >>= fun q11 =>
              aI X9 q11 1 (3 * l1) >>= fun v13 =>
              some (v13, X9)))))))
  else (some (0, X1))
def fX10_shape_j30  (l0 : Nat) (l1 : Int32) (l2 : Int32) (s0 : Nat) (X : XW) : Option (Int32 × XW) :=
  fX10_shape_j31 l0 l1 l2 1 s0 X
def fX10_shape (l0 : Nat) (l1 : Int32) (l2 : Int32) (X : XW) : Option (Int32 × XW) :=
  if (l1 < 0 : Prop) then (fX10_shape_j30 l0 l1 l2 l0 X)
  else (gI X l0 10 29 >>= fun v1 =>
    gK X l0 10 >>= fun u3 =>
    fX10_soundsOf l0 v1 X >>= fun r5 =>
    if (r5.1 ≤ l1 : Prop) then (fX10_shape_j30 l0 l1 l2 l0 r5.2)
    else (if (l2 < 0 : Prop) then (fX10_shape_j30 l0 l1 l2 l0 r5.2)
      else (if (5 < l2 : Prop) then (fX10_shape_j30 l0 l1 l2 l0 r5.2)
        else (fX10_shape_j31 l0 l1 l2 0 l0 r5.2))))
theorem tX10_shape_j31 {p : Program} {l : Launch} {e : Env} {s : State} {m : MethodId} {args : Array Value} {below : List Frame} {meth : Method} {c : Code} {G : XG} {X0 : XW} (C0 : XC p s m args meth c RX10 cX10_shape 3 G) (hret : meth.sig.returnType = (some .int)) {r : Int32 × XW} {l0 : Nat} {l1 : Int32} {l2 : Int32} {s0 : Int32} {s1 : Nat} {X : XW} {H : Heap} {locs : List Loc} {ls : Array Slot} (W0 : XD G X0 X s H locs) (hl : lv_has ls 3 [(0, .ref l0), (1, .int l1), (2, .int l2)]) (h : fX10_shape_j31 l0 l1 l2 s0 s1 X = some r) : W p l e { frames := 4, cells := 0, slots := 0, locals := 240 } s m args below meth c H locs 0 0 (MQ below (XQ G X0 (some (.int r.1), r.2)) args s 0 0 (xAd X0)) (F0 m 31 ls [.int s0, .ref s1]) := by
  have hx := C0.1
  have hb := C0.2.1
  unfold fX10_shape_j31 at h
  obtain ⟨X1, h2, h⟩ := ob h
  refine xr_putI C0 W0 cl_X10 0 (by decide) fl_X10_1 rfl rfl rfl (by decide) h2 dX10_shape_31 (fun H locs W0 => ?_)
  refine lv_aload_n hx hb dX10_shape_34 rfl (lv_at hl 0 rfl) ?_
  obtain ⟨v3, h4, h⟩ := ob h
  refine xr_getI C0 W0 cl_X10 0 (by decide) fl_X10_1 rfl h4 dX10_shape_35 ?_
  refine lv_if_le (tgt := 43) hx hb dX10_shape_38 (by decide) (fun hcq => ?_) (fun hcq => ?_)
  · have h := it_t hcq h
    refine lv_aload_n hx hb dX10_shape_43 rfl (lv_at hl 0 rfl) ?_
    refine lv_aload_n hx hb dX10_shape_44 rfl (lv_at hl 0 rfl) ?_
    obtain ⟨v5, h6, h⟩ := ob h
    refine xr_getI C0 W0 cl_X10 29 (by decide) fl_X10_283 rfl h6 dX10_shape_45 ?_
    obtain ⟨u7, h8, h⟩ := ob h
    obtain ⟨X9, h10, h⟩ := ob h
    refine xr_V (As := [.int v5]) (rest := []) C0 W0 (ctX10_shapes l G h10) (gK_of h8) (rr := (RX10, TX10, 57)) rfl rfl mc_X10_shapes mv_X10_shapes ml_X10_335 ⟨by decide, by decide⟩ rfl hl.1 rfl (Nat.le_of_ble_eq_true rfl) ⟨by decide, by decide⟩ dX10_shape_48 (fun H locs W0 => ?_)
    refine W.cs (cells' := 0) (slots' := 0) rfl rfl ?_
    refine W.eq (g2 := F0 m 51 ls []) rfl ?_
    refine lv_iload_n hx hb dX10_shape_51 rfl (lv_at hl 2 rfl) ?_
    refine lv_if_ne (tgt := 63) hx hb dX10_shape_52 (by decide) (fun hcq => ?_) (fun hcq => ?_)
    · have h := it_f hcq h
      refine lv_iload_n hx hb dX10_shape_63 rfl (lv_at hl 2 rfl) ?_
      refine lv_iconst (v := 1) hx hb dX10_shape_64 (by decide) ?_
      refine lv_icmp_ne (tgt := 81) hx hb dX10_shape_65 (by decide) (fun hcq => ?_) (fun hcq => ?_)
      · have h := it_f hcq h
        refine lv_iload_n hx hb dX10_shape_81 rfl (lv_at hl 2 rfl) ?_
        refine lv_iconst (v := 2) hx hb dX10_shape_82 (by decide) ?_
        refine lv_icmp_ne (tgt := 99) hx hb dX10_shape_83 (by decide) (fun hcq => ?_) (fun hcq => ?_)
        · have h := it_f hcq h
          refine lv_iload_n hx hb dX10_shape_99 rfl (lv_at hl 2 rfl) ?_
          refine lv_iconst (v := 3) hx hb dX10_shape_100 (by decide) ?_
          refine lv_icmp_ne (tgt := 113) hx hb dX10_shape_101 (by decide) (fun hcq => ?_) (fun hcq => ?_)
          · have h := it_f hcq h
            refine lv_iload_n hx hb dX10_shape_113 rfl (lv_at hl 2 rfl) ?_
            refine lv_iconst (v := 4) hx hb dX10_shape_114 (by decide) ?_
            refine lv_icmp_ne (tgt := 127) hx hb dX10_shape_115 (by decide) (fun hcq => ?_) (fun hcq => ?_)
            · have h := it_f hcq h
              refine lv_aload_n hx hb dX10_shape_127 rfl (lv_at hl 0 rfl) ?_
              obtain ⟨q11, h12, h⟩ := ob h
              refine xr_getR C0 W0 cl_X10 52 (by decide) fl_X10_180 rfl h12 dX10_shape_128 ?_
              refine lv_iconst (v := 3) hx hb dX10_shape_131 (by decide) ?_
              refine lv_iload_n hx hb dX10_shape_132 rfl (lv_at hl 1 rfl) ?_
              refine lv_imul hx hb dX10_shape_133 ?_
              obtain ⟨v13, h14, h⟩ := ob h
              refine xr_iald C0 W0 h14 dX10_shape_134 ?_
              exact xr_iret C0 W0 hret (Option.some.inj h) dX10_shape_135
            · have h := it_t hcq h
              refine lv_aload_n hx hb dX10_shape_118 rfl (lv_at hl 0 rfl) ?_
              obtain ⟨q15, h16, h⟩ := ob h
              refine xr_getR C0 W0 cl_X10 49 (by decide) fl_X10_171 rfl h16 dX10_shape_119 ?_
              refine lv_iload_n hx hb dX10_shape_122 rfl (lv_at hl 1 rfl) ?_
              obtain ⟨v17, h18, h⟩ := ob h
              refine xr_iald C0 W0 h18 dX10_shape_123 ?_
              refine lv_goto (tgt := 135) hx hb dX10_shape_124 (by decide) ?_
              exact xr_iret C0 W0 hret (Option.some.inj h) dX10_shape_135
          · have h := it_t hcq h
            refine lv_aload_n hx hb dX10_shape_104 rfl (lv_at hl 0 rfl) ?_
            obtain ⟨q19, h20, h⟩ := ob h
            refine xr_getR C0 W0 cl_X10 48 (by decide) fl_X10_168 rfl h20 dX10_shape_105 ?_
            refine lv_iload_n hx hb dX10_shape_108 rfl (lv_at hl 1 rfl) ?_
            obtain ⟨v21, h22, h⟩ := ob h
            refine xr_iald C0 W0 h22 dX10_shape_109 ?_
            refine lv_goto (tgt := 135) hx hb dX10_shape_110 (by decide) ?_
            exact xr_iret C0 W0 hret (Option.some.inj h) dX10_shape_135
        · have h := it_t hcq h
          refine lv_aload_n hx hb dX10_shape_86 rfl (lv_at hl 0 rfl) ?_
          obtain ⟨q23, h24, h⟩ := ob h
          refine xr_getR C0 W0 cl_X10 52 (by decide) fl_X10_180 rfl h24 dX10_shape_87 ?_
          refine lv_iconst (v := 3) hx hb dX10_shape_90 (by decide) ?_
          refine lv_iload_n hx hb dX10_shape_91 rfl (lv_at hl 1 rfl) ?_
          refine lv_imul hx hb dX10_shape_92 ?_
          refine lv_iconst (v := 2) hx hb dX10_shape_93 (by decide) ?_
          refine lv_iadd hx hb dX10_shape_94 ?_
          obtain ⟨v25, h26, h⟩ := ob h
          refine xr_iald C0 W0 h26 dX10_shape_95 ?_
          refine lv_goto (tgt := 135) hx hb dX10_shape_96 (by decide) ?_
          exact xr_iret C0 W0 hret (Option.some.inj h) dX10_shape_135
      · have h := it_t hcq h
        refine lv_aload_n hx hb dX10_shape_68 rfl (lv_at hl 0 rfl) ?_
        obtain ⟨q27, h28, h⟩ := ob h
        refine xr_getR C0 W0 cl_X10 52 (by decide) fl_X10_180 rfl h28 dX10_shape_69 ?_
        refine lv_iconst (v := 3) hx hb dX10_shape_72 (by decide) ?_
        refine lv_iload_n hx hb dX10_shape_73 rfl (lv_at hl 1 rfl) ?_
        refine lv_imul hx hb dX10_shape_74 ?_
        refine lv_iconst (v := 1) hx hb dX10_shape_75 (by decide) ?_
        refine lv_iadd hx hb dX10_shape_76 ?_
        obtain ⟨v29, h30, h⟩ := ob h
        refine xr_iald C0 W0 h30 dX10_shape_77 ?_
        refine lv_goto (tgt := 135) hx hb dX10_shape_78 (by decide) ?_
        exact xr_iret C0 W0 hret (Option.some.inj h) dX10_shape_135
    · have h := it_t hcq h
      refine lv_aload_n hx hb dX10_shape_55 rfl (lv_at hl 0 rfl) ?_
      refine lv_iload_n hx hb dX10_shape_56 rfl (lv_at hl 1 rfl) ?_
      obtain ⟨u31, h32, h⟩ := ob h
      obtain ⟨r33, h34, h⟩ := ob h
      refine xr_V (As := [.int l1]) (rest := []) C0 W0 (ctX10_told l G h34) (gK_of h32) (rr := (RX10, TX10, 57)) rfl rfl mc_X10_told mv_X10_told ml_X10_338 ⟨by decide, by decide⟩ rfl hl.1 rfl (Nat.le_of_ble_eq_true rfl) ⟨by decide, by decide⟩ dX10_shape_57 (fun H locs W0 => ?_)
      refine W.cs (cells' := 0) (slots' := 0) rfl rfl ?_
      refine W.eq (g2 := F0 m 60 ls [.int r33.1]) rfl ?_
      refine lv_goto (tgt := 135) hx hb dX10_shape_60 (by decide) ?_
      exact xr_iret C0 W0 hret (Option.some.inj h) dX10_shape_135
  · have h := it_f hcq h
    refine lv_iconst (v := 0) hx hb dX10_shape_41 (by decide) ?_
    exact xr_iret C0 W0 hret (Option.some.inj h) dX10_shape_42
theorem tX10_shape_j30 {p : Program} {l : Launch} {e : Env} {s : State} {m : MethodId} {args : Array Value} {below : List Frame} {meth : Method} {c : Code} {G : XG} {X0 : XW} (C0 : XC p s m args meth c RX10 cX10_shape 3 G) (hret : meth.sig.returnType = (some .int)) {r : Int32 × XW} {l0 : Nat} {l1 : Int32} {l2 : Int32} {s0 : Nat} {X : XW} {H : Heap} {locs : List Loc} {ls : Array Slot} (W0 : XD G X0 X s H locs) (hl : lv_has ls 3 [(0, .ref l0), (1, .int l1), (2, .int l2)]) (h : fX10_shape_j30 l0 l1 l2 s0 X = some r) : W p l e { frames := 4, cells := 0, slots := 0, locals := 240 } s m args below meth c H locs 0 0 (MQ below (XQ G X0 (some (.int r.1), r.2)) args s 0 0 (xAd X0)) (F0 m 30 ls [.ref s0]) := by
  have hx := C0.1
  have hb := C0.2.1
  unfold fX10_shape_j30 at h
  refine lv_iconst (v := 1) hx hb dX10_shape_30 (by decide) ?_
  exact tX10_shape_j31 C0 hret W0 (lv_sub hl [0, 1, 2] rfl) h
theorem ctX10_shape (l : Launch) (G : XG) {l0 : Nat} {l1 : Int32} {l2 : Int32} {X : XW} {r : Int32 × XW}  (h : fX10_shape l0 l1 l2 X = some r) : XM l G yX10_shape cX10_shape 3 (some .int) 4 240 0 0 [.ref l0, .int l1, .int l2] X (some (.int r.1), r.2) := by
  refine xm_of (own := RX10) (by decide) rfl (Nat.le_of_ble_eq_true rfl) ?_
  intro p e s m below meth c ls C0 W0 hret hnm hl
  have hx := C0.1
  have hb := C0.2.1
  have hl : lv_has ls 3 [(0, .ref l0), (1, .int l1), (2, .int l2)] := hl
  unfold fX10_shape at h
  refine lv_aload_n hx hb dX10_shape_0 rfl (lv_at hl 0 rfl) ?_
  refine lv_iload_n hx hb dX10_shape_1 rfl (lv_at hl 1 rfl) ?_
  refine lv_if_lt (tgt := 30) hx hb dX10_shape_2 (by decide) (fun hcq => ?_) (fun hcq => ?_)
  · have h := it_t hcq h
    exact tX10_shape_j30 C0 hret W0 (lv_sub hl [0, 1, 2] rfl) h
  · have h := it_f hcq h
    refine lv_iload_n hx hb dX10_shape_5 rfl (lv_at hl 1 rfl) ?_
    refine lv_aload_n hx hb dX10_shape_6 rfl (lv_at hl 0 rfl) ?_
    refine lv_aload_n hx hb dX10_shape_7 rfl (lv_at hl 0 rfl) ?_
    obtain ⟨v1, h2, h⟩ := ob h
    refine xr_getI C0 W0 cl_X10 29 (by decide) fl_X10_283 rfl h2 dX10_shape_8 ?_
    obtain ⟨u3, h4, h⟩ := ob h
    obtain ⟨r5, h6, h⟩ := ob h
    refine xr_V (As := [.int v1]) (rest := [.int l1, .ref l0]) C0 W0 (ctX10_soundsOf l G h6) (gK_of h4) (rr := (RX10, TX10, 57)) rfl rfl mc_X10_soundsOf mv_X10_soundsOf ml_X10_293 ⟨by decide, by decide⟩ rfl hl.1 rfl (Nat.le_of_ble_eq_true rfl) ⟨by decide, by decide⟩ dX10_shape_11 (fun H locs W0 => ?_)
    refine W.cs (cells' := 0) (slots' := 0) rfl rfl ?_
    refine W.eq (g2 := F0 m 14 ls [.int r5.1, .int l1, .ref l0]) rfl ?_
    refine lv_icmp_ge (tgt := 30) hx hb dX10_shape_14 (by decide) (fun hcq => ?_) (fun hcq => ?_)
    · have h := it_t hcq h
      exact tX10_shape_j30 C0 hret W0 (lv_sub hl [0, 1, 2] rfl) h
    · have h := it_f hcq h
      refine lv_iload_n hx hb dX10_shape_17 rfl (lv_at hl 2 rfl) ?_
      refine lv_if_lt (tgt := 30) hx hb dX10_shape_18 (by decide) (fun hcq => ?_) (fun hcq => ?_)
      · have h := it_t hcq h
        exact tX10_shape_j30 C0 hret W0 (lv_sub hl [0, 1, 2] rfl) h
      · have h := it_f hcq h
        refine lv_iload_n hx hb dX10_shape_21 rfl (lv_at hl 2 rfl) ?_
        refine lv_iconst (v := 5) hx hb dX10_shape_22 (by decide) ?_
        refine lv_icmp_gt (tgt := 30) hx hb dX10_shape_23 (by decide) (fun hcq => ?_) (fun hcq => ?_)
        · have h := it_t hcq h
          exact tX10_shape_j30 C0 hret W0 (lv_sub hl [0, 1, 2] rfl) h
        · have h := it_f hcq h
          refine lv_iconst (v := 0) hx hb dX10_shape_26 (by decide) ?_
          refine lv_goto (tgt := 31) hx hb dX10_shape_27 (by decide) ?_
          exact tX10_shape_j31 C0 hret W0 (lv_sub hl [0, 1, 2] rfl) h
def fX10_fit_j83 (rec : Int32 → Int32 → XW → Option (Int32 × XW)) (l0 : Nat) (l2 : Int32) (s0 : Int32) (X : XW) : Option (Int32 × XW) :=
  rec s0 (l2 + 1) X
def fX10_fit_j82 (rec : Int32 → Int32 → XW → Option (Int32 × XW)) (l0 : Nat) (l2 : Int32) (X : XW) : Option (Int32 × XW) :=
  fX10_fit_j83 rec l0 l2 0 X
def fX10_fit_l17_b (rec : Int32 → Int32 → XW → Option (Int32 × XW)) (l0 : Nat) (l1 : Int32) (l2 : Int32) (X : XW) : Option (Int32 × XW) :=
  gI X l0 10 47 >>= fun v1 =>
  if (v1 ≤ l2 : Prop) then (some (l1, X))
  else (gR X l0 10 52 >>= fun q3 =>
    aI X q3 1 ((3 * l2) + 1) >>= fun v5 =>
    gR X l0 10 52 >>= fun q7 =>
    aI X q7 1 ((3 * l2) - 2) >>= fun v9 =>
    if (l1 = 0 : Prop) then (fX10_fit_j82 rec l0 l2 X)
    else (gR X l0 10 13 >>= fun q11 =>
      gI X l0 10 10 >>= fun v13 =>
      aI X q11 1 v13 >>= fun v15 =>
      if (v15 < (v5 - v9) : Prop) then (fX10_fit_j82 rec l0 l2 X)
      else (gR X l0 10 13 >>= fun q17 =>
        gI X l0 10 10 >>= fun v19 =>
        aI X q17 1 v19 >>= fun v21 =>
        if ((v5 - v9) < (-v21) : Prop) then (fX10_fit_j82 rec l0 l2 X)
        else (fX10_fit_j83 rec l0 l2 1 X))))
def fX10_fit_l17 (l0 : Nat) (n : Nat) : Int32 → Int32 → XW → Option (Int32 × XW) := iter (fun rec => fX10_fit_l17_b rec l0) (fun _ _ _ => none) n
def fX10_fit (l0 : Nat) (X : XW) : Option (Int32 × XW) :=
  pI X l0 10 0 0 >>= fun X1 =>
  gI X1 l0 10 29 >>= fun v3 =>
  gK X1 l0 10 >>= fun u5 =>
  fX10_shapes l0 v3 X1 >>= fun X7 =>
  fX10_fit_l17 l0 FU 1 1 X7 >>= fun r9 =>
  if (r9.1 = 0 : Prop) then (some (0, r9.2))
  else (some (1, r9.2))
theorem tX10_fit_j83 {p : Program} {l : Launch} {e : Env} {s : State} {m : MethodId} {args : Array Value} {below : List Frame} {meth : Method} {c : Code} {G : XG} {X0 : XW} (C0 : XC p s m args meth c RX10 cX10_fit 4 G) (hret : meth.sig.returnType = (some .int)) {r : Int32 × XW} {l0 : Nat} {Q : State → Prop} {rec : Int32 → Int32 → XW → Option (Int32 × XW)} (hrec : ∀ {y1 : Int32} {y2 : Int32} {X : XW} {H : Heap} {locs : List Loc} {ls : Array Slot}, XD G X0 X s H locs → lv_has ls 4 [(0, .ref l0), (1, .int y1), (2, .int y2)] → rec y1 y2 X = some r → W p l e { frames := 4, cells := 0, slots := 0, locals := 240 } s m args below meth c H locs 0 0 Q (F0 m 17 ls [])) (hK : ∀ {H : Heap} {locs : List Loc} {ls : Array Slot}, XD G X0 r.2 s H locs → lv_has ls 4 [(1, .int r.1)] → W p l e { frames := 4, cells := 0, slots := 0, locals := 240 } s m args below meth c H locs 0 0 Q (F0 m 90 ls []))  {l2 : Int32} {s0 : Int32} {X : XW} {H : Heap} {locs : List Loc} {ls : Array Slot} (W0 : XD G X0 X s H locs) (hl : lv_has ls 4 [(0, .ref l0), (2, .int l2)]) (h : fX10_fit_j83 rec l0 l2 s0 X = some r) : W p l e { frames := 4, cells := 0, slots := 0, locals := 240 } s m args below meth c H locs 0 0 Q (F0 m 83 ls [.int s0]) := by
  have hx := C0.1
  have hb := C0.2.1
  unfold fX10_fit_j83 at h
  refine lv_istore_n (lv' := [(1, .int s0), (0, .ref l0), (2, .int l2)]) hx hb dX10_fit_83 rfl hl (by decide) rfl (fun ls hl => ?_)
  refine lv_iinc (v := (l2 + 1)) (lv' := [(2, .int (l2 + 1)), (1, .int s0), (0, .ref l0)]) hx hb dX10_fit_84 hl (k := 2) rfl (ii (by decide)) (by decide) rfl (fun ls hl => ?_)
  refine lv_goto (tgt := 17) hx hb dX10_fit_87 (by decide) ?_
  exact hrec W0 (lv_sub hl [2, 1, 0] rfl) h
theorem tX10_fit_j82 {p : Program} {l : Launch} {e : Env} {s : State} {m : MethodId} {args : Array Value} {below : List Frame} {meth : Method} {c : Code} {G : XG} {X0 : XW} (C0 : XC p s m args meth c RX10 cX10_fit 4 G) (hret : meth.sig.returnType = (some .int)) {r : Int32 × XW} {l0 : Nat} {Q : State → Prop} {rec : Int32 → Int32 → XW → Option (Int32 × XW)} (hrec : ∀ {y1 : Int32} {y2 : Int32} {X : XW} {H : Heap} {locs : List Loc} {ls : Array Slot}, XD G X0 X s H locs → lv_has ls 4 [(0, .ref l0), (1, .int y1), (2, .int y2)] → rec y1 y2 X = some r → W p l e { frames := 4, cells := 0, slots := 0, locals := 240 } s m args below meth c H locs 0 0 Q (F0 m 17 ls [])) (hK : ∀ {H : Heap} {locs : List Loc} {ls : Array Slot}, XD G X0 r.2 s H locs → lv_has ls 4 [(1, .int r.1)] → W p l e { frames := 4, cells := 0, slots := 0, locals := 240 } s m args below meth c H locs 0 0 Q (F0 m 90 ls []))  {l2 : Int32} {X : XW} {H : Heap} {locs : List Loc} {ls : Array Slot} (W0 : XD G X0 X s H locs) (hl : lv_has ls 4 [(0, .ref l0), (2, .int l2)]) (h : fX10_fit_j82 rec l0 l2 X = some r) : W p l e { frames := 4, cells := 0, slots := 0, locals := 240 } s m args below meth c H locs 0 0 Q (F0 m 82 ls []) := by
  have hx := C0.1
  have hb := C0.2.1
  unfold fX10_fit_j82 at h
  refine lv_iconst (v := 0) hx hb dX10_fit_82 (by decide) ?_
  exact tX10_fit_j83 C0 hret hrec hK W0 (lv_sub hl [0, 1] rfl) h
theorem tX10_fit_l17_b {p : Program} {l : Launch} {e : Env} {s : State} {m : MethodId} {args : Array Value} {below : List Frame} {meth : Method} {c : Code} {G : XG} {X0 : XW} (C0 : XC p s m args meth c RX10 cX10_fit 4 G) (hret : meth.sig.returnType = (some .int)) {r : Int32 × XW} {l0 : Nat} {Q : State → Prop} {rec : Int32 → Int32 → XW → Option (Int32 × XW)} (hrec : ∀ {y1 : Int32} {y2 : Int32} {X : XW} {H : Heap} {locs : List Loc} {ls : Array Slot}, XD G X0 X s H locs → lv_has ls 4 [(0, .ref l0), (1, .int y1), (2, .int y2)] → rec y1 y2 X = some r → W p l e { frames := 4, cells := 0, slots := 0, locals := 240 } s m args below meth c H locs 0 0 Q (F0 m 17 ls [])) (hK : ∀ {H : Heap} {locs : List Loc} {ls : Array Slot}, XD G X0 r.2 s H locs → lv_has ls 4 [(1, .int r.1)] → W p l e { frames := 4, cells := 0, slots := 0, locals := 240 } s m args below meth c H locs 0 0 Q (F0 m 90 ls []))  {l1 : Int32} {l2 : Int32} {X : XW} {H : Heap} {locs : List Loc} {ls : Array Slot} (W0 : XD G X0 X s H locs) (hl : lv_has ls 4 [(0, .ref l0), (1, .int l1), (2, .int l2)]) (h : fX10_fit_l17_b rec l0 l1 l2 X = some r) : W p l e { frames := 4, cells := 0, slots := 0, locals := 240 } s m args below meth c H locs 0 0 Q (F0 m 17 ls []) := by
  have hx := C0.1
  have hb := C0.2.1
  unfold fX10_fit_l17_b at h
  refine lv_iload_n hx hb dX10_fit_17 rfl (lv_at hl 2 rfl) ?_
  refine lv_aload_n hx hb dX10_fit_18 rfl (lv_at hl 0 rfl) ?_
  obtain ⟨v1, h2, h⟩ := ob h
  refine xr_getI C0 W0 cl_X10 47 (by decide) fl_X10_310 rfl h2 dX10_fit_19 ?_
  refine lv_icmp_ge (tgt := 90) hx hb dX10_fit_22 (by decide) (fun hcq => ?_) (fun hcq => ?_)
  · have h := it_t hcq h
    cases h
    exact hK W0 (lv_sub hl [1] rfl)
  · have h := it_f hcq h
    refine lv_aload_n hx hb dX10_fit_25 rfl (lv_at hl 0 rfl) ?_
    obtain ⟨q3, h4, h⟩ := ob h
    refine xr_getR C0 W0 cl_X10 52 (by decide) fl_X10_180 rfl h4 dX10_fit_26 ?_
    refine lv_iconst (v := 3) hx hb dX10_fit_29 (by decide) ?_
    refine lv_iload_n hx hb dX10_fit_30 rfl (lv_at hl 2 rfl) ?_
    refine lv_imul hx hb dX10_fit_31 ?_
    refine lv_iconst (v := 1) hx hb dX10_fit_32 (by decide) ?_
    refine lv_iadd hx hb dX10_fit_33 ?_
    obtain ⟨v5, h6, h⟩ := ob h
    refine xr_iald C0 W0 h6 dX10_fit_34 ?_
    refine lv_aload_n hx hb dX10_fit_35 rfl (lv_at hl 0 rfl) ?_
    obtain ⟨q7, h8, h⟩ := ob h
    refine xr_getR C0 W0 cl_X10 52 (by decide) fl_X10_180 rfl h8 dX10_fit_36 ?_
    refine lv_iconst (v := 3) hx hb dX10_fit_39 (by decide) ?_
    refine lv_iload_n hx hb dX10_fit_40 rfl (lv_at hl 2 rfl) ?_
    refine lv_imul hx hb dX10_fit_41 ?_
    refine lv_iconst (v := 2) hx hb dX10_fit_42 (by decide) ?_
    refine lv_isub hx hb dX10_fit_43 ?_
    obtain ⟨v9, h10, h⟩ := ob h
    refine xr_iald C0 W0 h10 dX10_fit_44 ?_
    refine lv_isub hx hb dX10_fit_45 ?_
    refine lv_istore_n (lv' := [(3, .int (v5 - v9)), (0, .ref l0), (1, .int l1), (2, .int l2)]) hx hb dX10_fit_46 rfl hl (by decide) rfl (fun ls hl => ?_)
    refine lv_iload_n hx hb dX10_fit_47 rfl (lv_at hl 2 rfl) ?_
    refine lv_if_eq (tgt := 82) hx hb dX10_fit_48 (by decide) (fun hcq => ?_) (fun hcq => ?_)
    · have h := it_t hcq h
      exact tX10_fit_j82 C0 hret hrec hK W0 (lv_sub hl [1, 3] rfl) h
    · have h := it_f hcq h
      refine lv_iload_n hx hb dX10_fit_51 rfl (lv_at hl 0 rfl) ?_
      refine lv_aload_n hx hb dX10_fit_52 rfl (lv_at hl 1 rfl) ?_
      obtain ⟨q11, h12, h⟩ := ob h
      refine xr_getR C0 W0 cl_X10 13 (by decide) fl_X10_77 rfl h12 dX10_fit_53 ?_
      refine lv_aload_n hx hb dX10_fit_56 rfl (lv_at hl 1 rfl) ?_
      obtain ⟨v13, h14, h⟩ := ob h
      refine xr_getI C0 W0 cl_X10 10 (by decide) fl_X10_246 rfl h14 dX10_fit_57 ?_
      obtain ⟨v15, h16, h⟩ := ob h
      refine xr_iald C0 W0 h16 dX10_fit_60 ?_
      refine lv_icmp_gt (tgt := 82) hx hb dX10_fit_61 (by decide) (fun hcq => ?_) (fun hcq => ?_)
      · have h := it_t hcq h
        exact tX10_fit_j82 C0 hret hrec hK W0 (lv_sub hl [1, 3] rfl) h
      · have h := it_f hcq h
        refine lv_iload_n hx hb dX10_fit_64 rfl (lv_at hl 0 rfl) ?_
        refine lv_aload_n hx hb dX10_fit_65 rfl (lv_at hl 1 rfl) ?_
        obtain ⟨q17, h18, h⟩ := ob h
        refine xr_getR C0 W0 cl_X10 13 (by decide) fl_X10_77 rfl h18 dX10_fit_66 ?_
        refine lv_aload_n hx hb dX10_fit_69 rfl (lv_at hl 1 rfl) ?_
        obtain ⟨v19, h20, h⟩ := ob h
        refine xr_getI C0 W0 cl_X10 10 (by decide) fl_X10_246 rfl h20 dX10_fit_70 ?_
        obtain ⟨v21, h22, h⟩ := ob h
        refine xr_iald C0 W0 h22 dX10_fit_73 ?_
        refine lv_ineg hx hb dX10_fit_74 ?_
        refine lv_icmp_lt (tgt := 82) hx hb dX10_fit_75 (by decide) (fun hcq => ?_) (fun hcq => ?_)
        · have h := it_t hcq h
          exact tX10_fit_j82 C0 hret hrec hK W0 (lv_sub hl [1, 3] rfl) h
        · have h := it_f hcq h
          refine lv_iconst (v := 1) hx hb dX10_fit_78 (by decide) ?_
          refine lv_goto (tgt := 83) hx hb dX10_fit_79 (by decide) ?_
          exact tX10_fit_j83 C0 hret hrec hK W0 (lv_sub hl [1, 3] rfl) h
theorem tX10_fit_l17 {p : Program} {l : Launch} {e : Env} {s : State} {m : MethodId} {args : Array Value} {below : List Frame} {meth : Method} {c : Code} {G : XG} {X0 : XW} (C0 : XC p s m args meth c RX10 cX10_fit 4 G) (hret : meth.sig.returnType = (some .int)) {r : Int32 × XW} {l0 : Nat} {Q : State → Prop} (hK : ∀ {H : Heap} {locs : List Loc} {ls : Array Slot}, XD G X0 r.2 s H locs → lv_has ls 4 [(1, .int r.1)] → W p l e { frames := 4, cells := 0, slots := 0, locals := 240 } s m args below meth c H locs 0 0 Q (F0 m 90 ls [])) : ∀ (n : Nat) {y1 : Int32} {y2 : Int32} {X : XW} {H : Heap} {locs : List Loc} {ls : Array Slot}, XD G X0 X s H locs → lv_has ls 4 [(0, .ref l0), (1, .int y1), (2, .int y2)] → fX10_fit_l17 l0 n y1 y2 X = some r → W p l e { frames := 4, cells := 0, slots := 0, locals := 240 } s m args below meth c H locs 0 0 Q (F0 m 17 ls []) := by
  intro n
  induction n with
  | zero =>
    intro y1 y2 X H locs ls W0 hl h
    cases h
  | succ n ih =>
    intro y1 y2 X H locs ls W0 hl h
    exact tX10_fit_l17_b C0 hret (rec := fX10_fit_l17 l0 n) (fun W0 hl h => ih W0 hl h) hK W0 hl h
theorem ctX10_fit (l : Launch) (G : XG) {l0 : Nat} {X : XW} {r : Int32 × XW}  (h : fX10_fit l0 X = some r) : XM l G yX10_fit cX10_fit 4 (some .int) 4 240 0 0 [.ref l0] X (some (.int r.1), r.2) := by
  refine xm_of (own := RX10) (by decide) rfl (Nat.le_of_ble_eq_true rfl) ?_
  intro p e s m below meth c ls C0 W0 hret hnm hl
  have hx := C0.1
  have hb := C0.2.1
  have hl : lv_has ls 4 [(0, .ref l0)] := hl
  unfold fX10_fit at h
  refine lv_aload_n hx hb dX10_fit_0 rfl (lv_at hl 0 rfl) ?_
  refine lv_iconst (v := 0) hx hb dX10_fit_1 (by decide) ?_
  obtain ⟨X1, h2, h⟩ := ob h
  refine xr_putI C0 W0 cl_X10 0 (by decide) fl_X10_1 rfl rfl rfl (by decide) h2 dX10_fit_2 (fun H locs W0 => ?_)
  refine lv_aload_n hx hb dX10_fit_5 rfl (lv_at hl 0 rfl) ?_
  refine lv_aload_n hx hb dX10_fit_6 rfl (lv_at hl 0 rfl) ?_
  obtain ⟨v3, h4, h⟩ := ob h
  refine xr_getI C0 W0 cl_X10 29 (by decide) fl_X10_283 rfl h4 dX10_fit_7 ?_
  obtain ⟨u5, h6, h⟩ := ob h
  obtain ⟨X7, h8, h⟩ := ob h
  refine xr_V (As := [.int v3]) (rest := []) C0 W0 (ctX10_shapes l G h8) (gK_of h6) (rr := (RX10, TX10, 57)) rfl rfl mc_X10_shapes mv_X10_shapes ml_X10_335 ⟨by decide, by decide⟩ rfl hl.1 rfl (Nat.le_of_ble_eq_true rfl) ⟨by decide, by decide⟩ dX10_fit_10 (fun H locs W0 => ?_)
  refine W.cs (cells' := 0) (slots' := 0) rfl rfl ?_
  refine W.eq (g2 := F0 m 13 ls []) rfl ?_
  refine lv_iconst (v := 1) hx hb dX10_fit_13 (by decide) ?_
  refine lv_istore_n (lv' := [(1, .int 1), (0, .ref l0)]) hx hb dX10_fit_14 rfl hl (by decide) rfl (fun ls hl => ?_)
  refine lv_iconst (v := 1) hx hb dX10_fit_15 (by decide) ?_
  refine lv_istore_n (lv' := [(2, .int 1), (1, .int 1), (0, .ref l0)]) hx hb dX10_fit_16 rfl hl (by decide) rfl (fun ls hl => ?_)
  obtain ⟨r9, h10, h⟩ := ob h
  refine tX10_fit_l17 C0 hret (fun {H} {locs} {ls} W0 hl => ?_) FU W0 (lv_sub hl [2, 1, 0] rfl) h10
  refine lv_iload_n hx hb dX10_fit_90 rfl (lv_at hl 0 rfl) ?_
  refine lv_if_eq (tgt := 98) hx hb dX10_fit_91 (by decide) (fun hcq => ?_) (fun hcq => ?_)
  · have h := it_t hcq h
    refine lv_iconst (v := 0) hx hb dX10_fit_98 (by decide) ?_
    exact xr_iret C0 W0 hret (Option.some.inj h) dX10_fit_99
  · have h := it_f hcq h
    refine lv_iconst (v := 1) hx hb dX10_fit_94 (by decide) ?_
    refine lv_goto (tgt := 99) hx hb dX10_fit_95 (by decide) ?_
    exact xr_iret C0 W0 hret (Option.some.inj h) dX10_fit_99
def fX10_pause_l45_b (rec : Int32 → Int32 → XW → Option (Int32 × XW)) (l0 : Nat) (l1 : Int32) (l2 : Int32) (l3 : Int32) (l4 : Int32) (X : XW) : Option (Int32 × XW) :=
  gI X l0 10 42 >>= fun v1 =>
  if ((v1 - 1) ≤ l4 : Prop) then (some (l3, X))
  else (gR X l0 10 45 >>= fun q3 =>
    aI X q3 1 l4 >>= fun v5 =>
    rec (l3 + v5) (l4 + 1) X)
def fX10_pause_l45 (l0 : Nat) (l1 : Int32) (l2 : Int32) (n : Nat) : Int32 → Int32 → XW → Option (Int32 × XW) := iter (fun rec => fX10_pause_l45_b rec l0 l1 l2) (fun _ _ _ => none) n
def fX10_pause_l78_b (rec : Int32 → Int32 → XW → Option (Int32 × XW)) (l0 : Nat) (l1 : Int32) (l2 : Int32) (l3 : Int32) (l4 : Int32) (l5 : Int32) (X : XW) : Option (Int32 × XW) :=
  gI X l0 10 42 >>= fun v1 =>
  if ((v1 - 1) ≤ l5 : Prop) then (some (l4, X))
  else (gR X l0 10 53 >>= fun q3 =>
    gR X l0 10 45 >>= fun q5 =>
    aI X q5 1 l5 >>= fun v7 =>
    iD (l2 * v7) l3 >>= fun v9 =>
    uI X q3 l5 v9 >>= fun X11 =>
    gR X11 l0 10 54 >>= fun q13 =>
    gR X11 l0 10 45 >>= fun q15 =>
    aI X11 q15 1 l5 >>= fun v17 =>
    iM (l2 * v17) l3 >>= fun v19 =>
    uI X11 q13 l5 v19 >>= fun X21 =>
    gR X21 l0 10 53 >>= fun q23 =>
    aI X21 q23 1 l5 >>= fun v25 =>
    rec (l4 - v25) (l5 + 1) X21)
def fX10_pause_l78 (l0 : Nat) (l1 : Int32) (l2 : Int32) (l3 : Int32) (n : Nat) : Int32 → Int32 → XW → Option (Int32 × XW) := iter (fun rec => fX10_pause_l78_b rec l0 l1 l2 l3) (fun _ _ _ => none) n
def fX10_pause_j189 (rec : Int32 → Int32 → XW → Option (Int32 × XW)) (l0 : Nat) (l1 : Int32) (l4 : Int32) (l6 : Int32) (s0 : Int32) (X : XW) : Option (Int32 × XW) :=
  rec s0 (l6 + 1) X
def fX10_pause_l154_b (rec : Int32 → Int32 → XW → Option (Int32 × XW)) (l0 : Nat) (l1 : Int32) (l4 : Int32) (l5 : Int32) (l6 : Int32) (X : XW) : Option (Int32 × XW) :=
  gI X l0 10 42 >>= fun v1 =>
  if ((v1 - 1) ≤ l6 : Prop) then (some (l5, X))
  else (gR X l0 10 54 >>= fun q3 =>
    aI X q3 1 l6 >>= fun v5 =>
    gR X l0 10 54 >>= fun q7 =>
    aI X q7 1 l5 >>= fun v9 =>
    if (v5 ≤ v9 : Prop) then (fX10_pause_j189 rec l0 l1 l4 l6 l5 X)
    else (fX10_pause_j189 rec l0 l1 l4 l6 l6 X))
def fX10_pause_l154 (l0 : Nat) (l1 : Int32) (l4 : Int32) (n : Nat) : Int32 → Int32 → XW → Option (Int32 × XW) := iter (fun rec => fX10_pause_l154_b rec l0 l1 l4) (fun _ _ _ => none) n
def fX10_pause_l143_b (rec : Int32 → XW → Option (XW)) (l0 : Nat) (l1 : Int32) (l4 : Int32) (X : XW) : Option (XW) :=
  if (l4 ≤ 0 : Prop) then (some (X))
  else (fX10_pause_l154 l0 l1 l4 FU 0 1 X >>= fun r1 =>
    gR r1.2 l0 10 53 >>= fun q3 =>
    aI r1.2 q3 1 r1.1 >>= fun v5 =>
    uI r1.2 q3 r1.1 (v5 + 1) >>= fun X7 =>
    gR X7 l0 10 54 >>= fun q9 =>
    uI X7 q9 r1.1 (-1) >>= fun X11 =>
    rec (l4 + (-1)) X11)
def fX10_pause_l143 (l0 : Nat) (l1 : Int32) (n : Nat) : Int32 → XW → Option (XW) := iter (fun rec => fX10_pause_l143_b rec l0 l1) (fun _ _ => none) n
def fX10_pause (l0 : Nat) (l1 : Int32) (l2 : Int32) (X : XW) : Option (Int32 × XW) :=
  pI X l0 10 0 0 >>= fun X1 =>
  gI X1 l0 10 29 >>= fun v3 =>
  gK X1 l0 10 >>= fun u5 =>
  fX10_findPhrases l0 v3 X1 >>= fun X7 =>
  if (l1 < 0 : Prop) then (some ((-1), X7))
  else (gI X7 l0 10 42 >>= fun v9 =>
    if ((v9 - 1) ≤ l1 : Prop) then (some ((-1), X7))
    else (if (l2 < 0 : Prop) then (some ((-1), X7))
      else (if (l2 ≤ 1000 : Prop) then (fX10_pause_l45 l0 l1 l2 FU 0 0 X7 >>= fun r11 =>
          fX10_pause_l78 l0 l1 l2 r11.1 FU l2 0 r11.2 >>= fun r13 =>
          fX10_pause_l143 l0 l1 FU r13.1 r13.2 >>= fun r15 =>
          gR r15 l0 10 53 >>= fun q17 =>
          aI r15 q17 1 l1 >>= fun v19 =>
          some (v19, r15))
        else (some ((-1), X7)))))
theorem tX10_pause_l45_b {p : Program} {l : Launch} {e : Env} {s : State} {m : MethodId} {args : Array Value} {below : List Frame} {meth : Method} {c : Code} {G : XG} {X0 : XW} (C0 : XC p s m args meth c RX10 cX10_pause 7 G) (hret : meth.sig.returnType = (some .int)) {r : Int32 × XW} {l0 : Nat} {l1 : Int32} {l2 : Int32} {Q : State → Prop} {rec : Int32 → Int32 → XW → Option (Int32 × XW)} (hrec : ∀ {y3 : Int32} {y4 : Int32} {X : XW} {H : Heap} {locs : List Loc} {ls : Array Slot}, XD G X0 X s H locs → lv_has ls 7 [(0, .ref l0), (1, .int l1), (2, .int l2), (3, .int y3), (4, .int y4)] → rec y3 y4 X = some r → W p l e { frames := 2, cells := 0, slots := 0, locals := 120 } s m args below meth c H locs 0 0 Q (F0 m 45 ls [])) (hK : ∀ {H : Heap} {locs : List Loc} {ls : Array Slot}, XD G X0 r.2 s H locs → lv_has ls 7 [(0, .ref l0), (1, .int l1), (2, .int l2), (3, .int r.1)] → W p l e { frames := 2, cells := 0, slots := 0, locals := 120 } s m args below meth c H locs 0 0 Q (F0 m 72 ls []))  {l3 : Int32} {l4 : Int32} {X : XW} {H : Heap} {locs : List Loc} {ls : Array Slot} (W0 : XD G X0 X s H locs) (hl : lv_has ls 7 [(0, .ref l0), (1, .int l1), (2, .int l2), (3, .int l3), (4, .int l4)]) (h : fX10_pause_l45_b rec l0 l1 l2 l3 l4 X = some r) : W p l e { frames := 2, cells := 0, slots := 0, locals := 120 } s m args below meth c H locs 0 0 Q (F0 m 45 ls []) := by
  have hx := C0.1
  have hb := C0.2.1
  unfold fX10_pause_l45_b at h
  refine lv_iload hx hb dX10_pause_45 (lv_at hl 4 rfl) ?_
  refine lv_aload_n hx hb dX10_pause_47 rfl (lv_at hl 0 rfl) ?_
  obtain ⟨v1, h2, h⟩ := ob h
  refine xr_getI C0 W0 cl_X10 42 (by decide) fl_X10_300 rfl h2 dX10_pause_48 ?_
  refine lv_iconst (v := 1) hx hb dX10_pause_51 (by decide) ?_
  refine lv_isub hx hb dX10_pause_52 ?_
  refine lv_icmp_ge (tgt := 72) hx hb dX10_pause_53 (by decide) (fun hcq => ?_) (fun hcq => ?_)
  · have h := it_t hcq h
    cases h
    exact hK W0 (lv_sub hl [0, 1, 2, 3] rfl)
  · have h := it_f hcq h
    refine lv_iload_n hx hb dX10_pause_56 rfl (lv_at hl 3 rfl) ?_
    refine lv_aload_n hx hb dX10_pause_57 rfl (lv_at hl 0 rfl) ?_
    obtain ⟨q3, h4, h⟩ := ob h
    refine xr_getR C0 W0 cl_X10 45 (by decide) fl_X10_162 rfl h4 dX10_pause_58 ?_
    refine lv_iload hx hb dX10_pause_61 (lv_at hl 4 rfl) ?_
    obtain ⟨v5, h6, h⟩ := ob h
    refine xr_iald C0 W0 h6 dX10_pause_63 ?_
    refine lv_iadd hx hb dX10_pause_64 ?_
    refine lv_istore_n (lv' := [(3, .int (l3 + v5)), (0, .ref l0), (1, .int l1), (2, .int l2), (4, .int l4)]) hx hb dX10_pause_65 rfl hl (by decide) rfl (fun ls hl => ?_)
    refine lv_iinc (v := (l4 + 1)) (lv' := [(4, .int (l4 + 1)), (3, .int (l3 + v5)), (0, .ref l0), (1, .int l1), (2, .int l2)]) hx hb dX10_pause_66 hl (k := 4) rfl (ii (by decide)) (by decide) rfl (fun ls hl => ?_)
    refine lv_goto (tgt := 45) hx hb dX10_pause_69 (by decide) ?_
    exact hrec W0 (lv_sub hl [2, 3, 4, 1, 0] rfl) h
theorem tX10_pause_l45 {p : Program} {l : Launch} {e : Env} {s : State} {m : MethodId} {args : Array Value} {below : List Frame} {meth : Method} {c : Code} {G : XG} {X0 : XW} (C0 : XC p s m args meth c RX10 cX10_pause 7 G) (hret : meth.sig.returnType = (some .int)) {r : Int32 × XW} {l0 : Nat} {l1 : Int32} {l2 : Int32} {Q : State → Prop} (hK : ∀ {H : Heap} {locs : List Loc} {ls : Array Slot}, XD G X0 r.2 s H locs → lv_has ls 7 [(0, .ref l0), (1, .int l1), (2, .int l2), (3, .int r.1)] → W p l e { frames := 2, cells := 0, slots := 0, locals := 120 } s m args below meth c H locs 0 0 Q (F0 m 72 ls [])) : ∀ (n : Nat) {y3 : Int32} {y4 : Int32} {X : XW} {H : Heap} {locs : List Loc} {ls : Array Slot}, XD G X0 X s H locs → lv_has ls 7 [(0, .ref l0), (1, .int l1), (2, .int l2), (3, .int y3), (4, .int y4)] → fX10_pause_l45 l0 l1 l2 n y3 y4 X = some r → W p l e { frames := 2, cells := 0, slots := 0, locals := 120 } s m args below meth c H locs 0 0 Q (F0 m 45 ls []) := by
  intro n
  induction n with
  | zero =>
    intro y3 y4 X H locs ls W0 hl h
    cases h
  | succ n ih =>
    intro y3 y4 X H locs ls W0 hl h
    exact tX10_pause_l45_b C0 hret (rec := fX10_pause_l45 l0 l1 l2 n) (fun W0 hl h => ih W0 hl h) hK W0 hl h
theorem tX10_pause_l78_b {p : Program} {l : Launch} {e : Env} {s : State} {m : MethodId} {args : Array Value} {below : List Frame} {meth : Method} {c : Code} {G : XG} {X0 : XW} (C0 : XC p s m args meth c RX10 cX10_pause 7 G) (hret : meth.sig.returnType = (some .int)) {r : Int32 × XW} {l0 : Nat} {l1 : Int32} {l2 : Int32} {l3 : Int32} {Q : State → Prop} {rec : Int32 → Int32 → XW → Option (Int32 × XW)} (hrec : ∀ {y4 : Int32} {y5 : Int32} {X : XW} {H : Heap} {locs : List Loc} {ls : Array Slot}, XD G X0 X s H locs → lv_has ls 7 [(0, .ref l0), (1, .int l1), (2, .int l2), (3, .int l3), (4, .int y4), (5, .int y5)] → rec y4 y5 X = some r → W p l e { frames := 2, cells := 0, slots := 0, locals := 120 } s m args below meth c H locs 0 0 Q (F0 m 78 ls [])) (hK : ∀ {H : Heap} {locs : List Loc} {ls : Array Slot}, XD G X0 r.2 s H locs → lv_has ls 7 [(0, .ref l0), (1, .int l1), (4, .int r.1)] → W p l e { frames := 2, cells := 0, slots := 0, locals := 120 } s m args below meth c H locs 0 0 Q (F0 m 143 ls []))  {l4 : Int32} {l5 : Int32} {X : XW} {H : Heap} {locs : List Loc} {ls : Array Slot} (W0 : XD G X0 X s H locs) (hl : lv_has ls 7 [(0, .ref l0), (1, .int l1), (2, .int l2), (3, .int l3), (4, .int l4), (5, .int l5)]) (h : fX10_pause_l78_b rec l0 l1 l2 l3 l4 l5 X = some r) : W p l e { frames := 2, cells := 0, slots := 0, locals := 120 } s m args below meth c H locs 0 0 Q (F0 m 78 ls []) := by
  have hx := C0.1
  have hb := C0.2.1
  unfold fX10_pause_l78_b at h
  refine lv_iload hx hb dX10_pause_78 (lv_at hl 5 rfl) ?_
  refine lv_aload_n hx hb dX10_pause_80 rfl (lv_at hl 0 rfl) ?_
  obtain ⟨v1, h2, h⟩ := ob h
  refine xr_getI C0 W0 cl_X10 42 (by decide) fl_X10_300 rfl h2 dX10_pause_81 ?_
  refine lv_iconst (v := 1) hx hb dX10_pause_84 (by decide) ?_
  refine lv_isub hx hb dX10_pause_85 ?_
  refine lv_icmp_ge (tgt := 143) hx hb dX10_pause_86 (by decide) (fun hcq => ?_) (fun hcq => ?_)
  · have h := it_t hcq h
    cases h
    exact hK W0 (lv_sub hl [0, 1, 4] rfl)
  · have h := it_f hcq h
    refine lv_aload_n hx hb dX10_pause_89 rfl (lv_at hl 0 rfl) ?_
    obtain ⟨q3, h4, h⟩ := ob h
    refine xr_getR C0 W0 cl_X10 53 (by decide) fl_X10_183 rfl h4 dX10_pause_90 ?_
    refine lv_iload hx hb dX10_pause_93 (lv_at hl 5 rfl) ?_
    refine lv_iload_n hx hb dX10_pause_95 rfl (lv_at hl 2 rfl) ?_
    refine lv_aload_n hx hb dX10_pause_96 rfl (lv_at hl 0 rfl) ?_
    obtain ⟨q5, h6, h⟩ := ob h
    refine xr_getR C0 W0 cl_X10 45 (by decide) fl_X10_162 rfl h6 dX10_pause_97 ?_
    refine lv_iload hx hb dX10_pause_100 (lv_at hl 5 rfl) ?_
    obtain ⟨v7, h8, h⟩ := ob h
    refine xr_iald C0 W0 h8 dX10_pause_102 ?_
    refine lv_imul hx hb dX10_pause_103 ?_
    refine lv_iload_n hx hb dX10_pause_104 rfl (lv_at hl 3 rfl) ?_
    obtain ⟨v9, h10, h⟩ := ob h
    refine xr_idiv C0 h10 dX10_pause_105 ?_
    obtain ⟨X11, h12, h⟩ := ob h
    refine xr_iast C0 W0 h12 dX10_pause_106 (fun H locs W0 => ?_)
    refine lv_aload_n hx hb dX10_pause_107 rfl (lv_at hl 0 rfl) ?_
    obtain ⟨q13, h14, h⟩ := ob h
    refine xr_getR C0 W0 cl_X10 54 (by decide) fl_X10_186 rfl h14 dX10_pause_108 ?_
    refine lv_iload hx hb dX10_pause_111 (lv_at hl 5 rfl) ?_
    refine lv_iload_n hx hb dX10_pause_113 rfl (lv_at hl 2 rfl) ?_
    refine lv_aload_n hx hb dX10_pause_114 rfl (lv_at hl 0 rfl) ?_
    obtain ⟨q15, h16, h⟩ := ob h
    refine xr_getR C0 W0 cl_X10 45 (by decide) fl_X10_162 rfl h16 dX10_pause_115 ?_
    refine lv_iload hx hb dX10_pause_118 (lv_at hl 5 rfl) ?_
    obtain ⟨v17, h18, h⟩ := ob h
    refine xr_iald C0 W0 h18 dX10_pause_120 ?_
    refine lv_imul hx hb dX10_pause_121 ?_
    refine lv_iload_n hx hb dX10_pause_122 rfl (lv_at hl 3 rfl) ?_
    obtain ⟨v19, h20, h⟩ := ob h
    refine xr_irem C0 h20 dX10_pause_123 ?_
    obtain ⟨X21, h22, h⟩ := ob h
    refine xr_iast C0 W0 h22 dX10_pause_124 (fun H locs W0 => ?_)
    refine lv_iload hx hb dX10_pause_125 (lv_at hl 4 rfl) ?_
    refine lv_aload_n hx hb dX10_pause_127 rfl (lv_at hl 0 rfl) ?_
    obtain ⟨q23, h24, h⟩ := ob h
    refine xr_getR C0 W0 cl_X10 53 (by decide) fl_X10_183 rfl h24 dX10_pause_128 ?_
    refine lv_iload hx hb dX10_pause_131 (lv_at hl 5 rfl) ?_
    obtain ⟨v25, h26, h⟩ := ob h
    refine xr_iald C0 W0 h26 dX10_pause_133 ?_
    refine lv_isub hx hb dX10_pause_134 ?_
    refine lv_istore (lv' := [(4, .int (l4 - v25)), (0, .ref l0), (1, .int l1), (2, .int l2), (3, .int l3), (5, .int l5)]) hx hb dX10_pause_135 hl (by decide) rfl (fun ls hl => ?_)
    refine lv_iinc (v := (l5 + 1)) (lv' := [(5, .int (l5 + 1)), (4, .int (l4 - v25)), (0, .ref l0), (1, .int l1), (2, .int l2), (3, .int l3)]) hx hb dX10_pause_137 hl (k := 5) rfl (ii (by decide)) (by decide) rfl (fun ls hl => ?_)
    refine lv_goto (tgt := 78) hx hb dX10_pause_140 (by decide) ?_
    exact hrec W0 (lv_sub hl [2, 3, 4, 5, 1, 0] rfl) h
theorem tX10_pause_l78 {p : Program} {l : Launch} {e : Env} {s : State} {m : MethodId} {args : Array Value} {below : List Frame} {meth : Method} {c : Code} {G : XG} {X0 : XW} (C0 : XC p s m args meth c RX10 cX10_pause 7 G) (hret : meth.sig.returnType = (some .int)) {r : Int32 × XW} {l0 : Nat} {l1 : Int32} {l2 : Int32} {l3 : Int32} {Q : State → Prop} (hK : ∀ {H : Heap} {locs : List Loc} {ls : Array Slot}, XD G X0 r.2 s H locs → lv_has ls 7 [(0, .ref l0), (1, .int l1), (4, .int r.1)] → W p l e { frames := 2, cells := 0, slots := 0, locals := 120 } s m args below meth c H locs 0 0 Q (F0 m 143 ls [])) : ∀ (n : Nat) {y4 : Int32} {y5 : Int32} {X : XW} {H : Heap} {locs : List Loc} {ls : Array Slot}, XD G X0 X s H locs → lv_has ls 7 [(0, .ref l0), (1, .int l1), (2, .int l2), (3, .int l3), (4, .int y4), (5, .int y5)] → fX10_pause_l78 l0 l1 l2 l3 n y4 y5 X = some r → W p l e { frames := 2, cells := 0, slots := 0, locals := 120 } s m args below meth c H locs 0 0 Q (F0 m 78 ls []) := by
  intro n
  induction n with
  | zero =>
    intro y4 y5 X H locs ls W0 hl h
    cases h
  | succ n ih =>
    intro y4 y5 X H locs ls W0 hl h
    exact tX10_pause_l78_b C0 hret (rec := fX10_pause_l78 l0 l1 l2 l3 n) (fun W0 hl h => ih W0 hl h) hK W0 hl h
theorem tX10_pause_j189 {p : Program} {l : Launch} {e : Env} {s : State} {m : MethodId} {args : Array Value} {below : List Frame} {meth : Method} {c : Code} {G : XG} {X0 : XW} (C0 : XC p s m args meth c RX10 cX10_pause 7 G) (hret : meth.sig.returnType = (some .int)) {r : Int32 × XW} {l0 : Nat} {l1 : Int32} {l4 : Int32} {Q : State → Prop} {rec : Int32 → Int32 → XW → Option (Int32 × XW)} (hrec : ∀ {y5 : Int32} {y6 : Int32} {X : XW} {H : Heap} {locs : List Loc} {ls : Array Slot}, XD G X0 X s H locs → lv_has ls 7 [(0, .ref l0), (1, .int l1), (4, .int l4), (5, .int y5), (6, .int y6)] → rec y5 y6 X = some r → W p l e { frames := 2, cells := 0, slots := 0, locals := 120 } s m args below meth c H locs 0 0 Q (F0 m 154 ls [])) (hK : ∀ {H : Heap} {locs : List Loc} {ls : Array Slot}, XD G X0 r.2 s H locs → lv_has ls 7 [(0, .ref l0), (1, .int l1), (4, .int l4), (5, .int r.1)] → W p l e { frames := 2, cells := 0, slots := 0, locals := 120 } s m args below meth c H locs 0 0 Q (F0 m 197 ls []))  {l6 : Int32} {s0 : Int32} {X : XW} {H : Heap} {locs : List Loc} {ls : Array Slot} (W0 : XD G X0 X s H locs) (hl : lv_has ls 7 [(0, .ref l0), (1, .int l1), (4, .int l4), (6, .int l6)]) (h : fX10_pause_j189 rec l0 l1 l4 l6 s0 X = some r) : W p l e { frames := 2, cells := 0, slots := 0, locals := 120 } s m args below meth c H locs 0 0 Q (F0 m 189 ls [.int s0]) := by
  have hx := C0.1
  have hb := C0.2.1
  unfold fX10_pause_j189 at h
  refine lv_istore (lv' := [(5, .int s0), (0, .ref l0), (1, .int l1), (4, .int l4), (6, .int l6)]) hx hb dX10_pause_189 hl (by decide) rfl (fun ls hl => ?_)
  refine lv_iinc (v := (l6 + 1)) (lv' := [(6, .int (l6 + 1)), (5, .int s0), (0, .ref l0), (1, .int l1), (4, .int l4)]) hx hb dX10_pause_191 hl (k := 4) rfl (ii (by decide)) (by decide) rfl (fun ls hl => ?_)
  refine lv_goto (tgt := 154) hx hb dX10_pause_194 (by decide) ?_
  exact hrec W0 (lv_sub hl [2, 3, 4, 1, 0] rfl) h
theorem tX10_pause_l154_b {p : Program} {l : Launch} {e : Env} {s : State} {m : MethodId} {args : Array Value} {below : List Frame} {meth : Method} {c : Code} {G : XG} {X0 : XW} (C0 : XC p s m args meth c RX10 cX10_pause 7 G) (hret : meth.sig.returnType = (some .int)) {r : Int32 × XW} {l0 : Nat} {l1 : Int32} {l4 : Int32} {Q : State → Prop} {rec : Int32 → Int32 → XW → Option (Int32 × XW)} (hrec : ∀ {y5 : Int32} {y6 : Int32} {X : XW} {H : Heap} {locs : List Loc} {ls : Array Slot}, XD G X0 X s H locs → lv_has ls 7 [(0, .ref l0), (1, .int l1), (4, .int l4), (5, .int y5), (6, .int y6)] → rec y5 y6 X = some r → W p l e { frames := 2, cells := 0, slots := 0, locals := 120 } s m args below meth c H locs 0 0 Q (F0 m 154 ls [])) (hK : ∀ {H : Heap} {locs : List Loc} {ls : Array Slot}, XD G X0 r.2 s H locs → lv_has ls 7 [(0, .ref l0), (1, .int l1), (4, .int l4), (5, .int r.1)] → W p l e { frames := 2, cells := 0, slots := 0, locals := 120 } s m args below meth c H locs 0 0 Q (F0 m 197 ls []))  {l5 : Int32} {l6 : Int32} {X : XW} {H : Heap} {locs : List Loc} {ls : Array Slot} (W0 : XD G X0 X s H locs) (hl : lv_has ls 7 [(0, .ref l0), (1, .int l1), (4, .int l4), (5, .int l5), (6, .int l6)]) (h : fX10_pause_l154_b rec l0 l1 l4 l5 l6 X = some r) : W p l e { frames := 2, cells := 0, slots := 0, locals := 120 } s m args below meth c H locs 0 0 Q (F0 m 154 ls []) := by
  have hx := C0.1
  have hb := C0.2.1
  unfold fX10_pause_l154_b at h
  refine lv_iload hx hb dX10_pause_154 (lv_at hl 4 rfl) ?_
  refine lv_aload_n hx hb dX10_pause_156 rfl (lv_at hl 0 rfl) ?_
  obtain ⟨v1, h2, h⟩ := ob h
  refine xr_getI C0 W0 cl_X10 42 (by decide) fl_X10_300 rfl h2 dX10_pause_157 ?_
  refine lv_iconst (v := 1) hx hb dX10_pause_160 (by decide) ?_
  refine lv_isub hx hb dX10_pause_161 ?_
  refine lv_icmp_ge (tgt := 197) hx hb dX10_pause_162 (by decide) (fun hcq => ?_) (fun hcq => ?_)
  · have h := it_t hcq h
    cases h
    exact hK W0 (lv_sub hl [0, 1, 2, 3] rfl)
  · have h := it_f hcq h
    refine lv_aload_n hx hb dX10_pause_165 rfl (lv_at hl 0 rfl) ?_
    obtain ⟨q3, h4, h⟩ := ob h
    refine xr_getR C0 W0 cl_X10 54 (by decide) fl_X10_186 rfl h4 dX10_pause_166 ?_
    refine lv_iload hx hb dX10_pause_169 (lv_at hl 4 rfl) ?_
    obtain ⟨v5, h6, h⟩ := ob h
    refine xr_iald C0 W0 h6 dX10_pause_171 ?_
    refine lv_aload_n hx hb dX10_pause_172 rfl (lv_at hl 0 rfl) ?_
    obtain ⟨q7, h8, h⟩ := ob h
    refine xr_getR C0 W0 cl_X10 54 (by decide) fl_X10_186 rfl h8 dX10_pause_173 ?_
    refine lv_iload hx hb dX10_pause_176 (lv_at hl 3 rfl) ?_
    obtain ⟨v9, h10, h⟩ := ob h
    refine xr_iald C0 W0 h10 dX10_pause_178 ?_
    refine lv_icmp_le (tgt := 187) hx hb dX10_pause_179 (by decide) (fun hcq => ?_) (fun hcq => ?_)
    · have h := it_t hcq h
      refine lv_iload hx hb dX10_pause_187 (lv_at hl 3 rfl) ?_
      exact tX10_pause_j189 C0 hret hrec hK W0 (lv_sub hl [0, 1, 2, 4] rfl) h
    · have h := it_f hcq h
      refine lv_iload hx hb dX10_pause_182 (lv_at hl 4 rfl) ?_
      refine lv_goto (tgt := 189) hx hb dX10_pause_184 (by decide) ?_
      exact tX10_pause_j189 C0 hret hrec hK W0 (lv_sub hl [0, 1, 2, 4] rfl) h
theorem tX10_pause_l154 {p : Program} {l : Launch} {e : Env} {s : State} {m : MethodId} {args : Array Value} {below : List Frame} {meth : Method} {c : Code} {G : XG} {X0 : XW} (C0 : XC p s m args meth c RX10 cX10_pause 7 G) (hret : meth.sig.returnType = (some .int)) {r : Int32 × XW} {l0 : Nat} {l1 : Int32} {l4 : Int32} {Q : State → Prop} (hK : ∀ {H : Heap} {locs : List Loc} {ls : Array Slot}, XD G X0 r.2 s H locs → lv_has ls 7 [(0, .ref l0), (1, .int l1), (4, .int l4), (5, .int r.1)] → W p l e { frames := 2, cells := 0, slots := 0, locals := 120 } s m args below meth c H locs 0 0 Q (F0 m 197 ls [])) : ∀ (n : Nat) {y5 : Int32} {y6 : Int32} {X : XW} {H : Heap} {locs : List Loc} {ls : Array Slot}, XD G X0 X s H locs → lv_has ls 7 [(0, .ref l0), (1, .int l1), (4, .int l4), (5, .int y5), (6, .int y6)] → fX10_pause_l154 l0 l1 l4 n y5 y6 X = some r → W p l e { frames := 2, cells := 0, slots := 0, locals := 120 } s m args below meth c H locs 0 0 Q (F0 m 154 ls []) := by
  intro n
  induction n with
  | zero =>
    intro y5 y6 X H locs ls W0 hl h
    cases h
  | succ n ih =>
    intro y5 y6 X H locs ls W0 hl h
    exact tX10_pause_l154_b C0 hret (rec := fX10_pause_l154 l0 l1 l4 n) (fun W0 hl h => ih W0 hl h) hK W0 hl h
theorem tX10_pause_l143_b {p : Program} {l : Launch} {e : Env} {s : State} {m : MethodId} {args : Array Value} {below : List Frame} {meth : Method} {c : Code} {G : XG} {X0 : XW} (C0 : XC p s m args meth c RX10 cX10_pause 7 G) (hret : meth.sig.returnType = (some .int)) {r : XW} {l0 : Nat} {l1 : Int32} {Q : State → Prop} {rec : Int32 → XW → Option (XW)} (hrec : ∀ {y4 : Int32} {X : XW} {H : Heap} {locs : List Loc} {ls : Array Slot}, XD G X0 X s H locs → lv_has ls 7 [(0, .ref l0), (1, .int l1), (4, .int y4)] → rec y4 X = some r → W p l e { frames := 2, cells := 0, slots := 0, locals := 120 } s m args below meth c H locs 0 0 Q (F0 m 143 ls [])) (hK : ∀ {H : Heap} {locs : List Loc} {ls : Array Slot}, XD G X0 r s H locs → lv_has ls 7 [(0, .ref l0), (1, .int l1)] → W p l e { frames := 2, cells := 0, slots := 0, locals := 120 } s m args below meth c H locs 0 0 Q (F0 m 222 ls []))  {l4 : Int32} {X : XW} {H : Heap} {locs : List Loc} {ls : Array Slot} (W0 : XD G X0 X s H locs) (hl : lv_has ls 7 [(0, .ref l0), (1, .int l1), (4, .int l4)]) (h : fX10_pause_l143_b rec l0 l1 l4 X = some r) : W p l e { frames := 2, cells := 0, slots := 0, locals := 120 } s m args below meth c H locs 0 0 Q (F0 m 143 ls []) := by
  have hx := C0.1
  have hb := C0.2.1
  unfold fX10_pause_l143_b at h
  refine lv_iload hx hb dX10_pause_143 (lv_at hl 2 rfl) ?_
  refine lv_if_le (tgt := 222) hx hb dX10_pause_145 (by decide) (fun hcq => ?_) (fun hcq => ?_)
  · have h := it_t hcq h
    cases h
    exact hK W0 (lv_sub hl [0, 1] rfl)
  · have h := it_f hcq h
    refine lv_iconst (v := 0) hx hb dX10_pause_148 (by decide) ?_
    refine lv_istore (lv' := [(5, .int 0), (0, .ref l0), (1, .int l1), (4, .int l4)]) hx hb dX10_pause_149 hl (by decide) rfl (fun ls hl => ?_)
    refine lv_iconst (v := 1) hx hb dX10_pause_151 (by decide) ?_
    refine lv_istore (lv' := [(6, .int 1), (5, .int 0), (0, .ref l0), (1, .int l1), (4, .int l4)]) hx hb dX10_pause_152 hl (by decide) rfl (fun ls hl => ?_)
    obtain ⟨r1, h2, h⟩ := ob h
    refine tX10_pause_l154 C0 hret (fun {H} {locs} {ls} W0 hl => ?_) FU W0 (lv_sub hl [2, 3, 4, 1, 0] rfl) h2
    refine lv_aload_n hx hb dX10_pause_197 rfl (lv_at hl 0 rfl) ?_
    obtain ⟨q3, h4, h⟩ := ob h
    refine xr_getR C0 W0 cl_X10 53 (by decide) fl_X10_183 rfl h4 dX10_pause_198 ?_
    refine lv_iload hx hb dX10_pause_201 (lv_at hl 3 rfl) ?_
    refine lv_dup2_11 hx hb dX10_pause_203 rfl rfl ?_
    obtain ⟨v5, h6, h⟩ := ob h
    refine xr_iald C0 W0 h6 dX10_pause_204 ?_
    refine lv_iconst (v := 1) hx hb dX10_pause_205 (by decide) ?_
    refine lv_iadd hx hb dX10_pause_206 ?_
    obtain ⟨X7, h8, h⟩ := ob h
    refine xr_iast C0 W0 h8 dX10_pause_207 (fun H locs W0 => ?_)
    refine lv_aload_n hx hb dX10_pause_208 rfl (lv_at hl 0 rfl) ?_
    obtain ⟨q9, h10, h⟩ := ob h
    refine xr_getR C0 W0 cl_X10 54 (by decide) fl_X10_186 rfl h10 dX10_pause_209 ?_
    refine lv_iload hx hb dX10_pause_212 (lv_at hl 3 rfl) ?_
    refine lv_iconst (v := (-1)) hx hb dX10_pause_214 (by decide) ?_
    obtain ⟨X11, h12, h⟩ := ob h
    refine xr_iast C0 W0 h12 dX10_pause_215 (fun H locs W0 => ?_)
    refine lv_iinc (v := (l4 + (-1))) (lv' := [(4, .int (l4 + (-1))), (0, .ref l0), (1, .int l1), (5, .int r1.1)]) hx hb dX10_pause_216 hl (k := 2) rfl (ii (by decide)) (by decide) rfl (fun ls hl => ?_)
    refine lv_goto (tgt := 143) hx hb dX10_pause_219 (by decide) ?_
    exact hrec W0 (lv_sub hl [1, 2, 0] rfl) h
theorem tX10_pause_l143 {p : Program} {l : Launch} {e : Env} {s : State} {m : MethodId} {args : Array Value} {below : List Frame} {meth : Method} {c : Code} {G : XG} {X0 : XW} (C0 : XC p s m args meth c RX10 cX10_pause 7 G) (hret : meth.sig.returnType = (some .int)) {r : XW} {l0 : Nat} {l1 : Int32} {Q : State → Prop} (hK : ∀ {H : Heap} {locs : List Loc} {ls : Array Slot}, XD G X0 r s H locs → lv_has ls 7 [(0, .ref l0), (1, .int l1)] → W p l e { frames := 2, cells := 0, slots := 0, locals := 120 } s m args below meth c H locs 0 0 Q (F0 m 222 ls [])) : ∀ (n : Nat) {y4 : Int32} {X : XW} {H : Heap} {locs : List Loc} {ls : Array Slot}, XD G X0 X s H locs → lv_has ls 7 [(0, .ref l0), (1, .int l1), (4, .int y4)] → fX10_pause_l143 l0 l1 n y4 X = some r → W p l e { frames := 2, cells := 0, slots := 0, locals := 120 } s m args below meth c H locs 0 0 Q (F0 m 143 ls []) := by
  intro n
  induction n with
  | zero =>
    intro y4 X H locs ls W0 hl h
    cases h
  | succ n ih =>
    intro y4 X H locs ls W0 hl h
    exact tX10_pause_l143_b C0 hret (rec := fX10_pause_l143 l0 l1 n) (fun W0 hl h => ih W0 hl h) hK W0 hl h
theorem ctX10_pause (l : Launch) (G : XG) {l0 : Nat} {l1 : Int32} {l2 : Int32} {X : XW} {r : Int32 × XW}  (h : fX10_pause l0 l1 l2 X = some r) : XM l G yX10_pause cX10_pause 7 (some .int) 2 120 0 0 [.ref l0, .int l1, .int l2] X (some (.int r.1), r.2) := by
  refine xm_of (own := RX10) (by decide) rfl (Nat.le_of_ble_eq_true rfl) ?_
  intro p e s m below meth c ls C0 W0 hret hnm hl
  have hx := C0.1
  have hb := C0.2.1
  have hl : lv_has ls 7 [(0, .ref l0), (1, .int l1), (2, .int l2)] := hl
  unfold fX10_pause at h
  refine lv_aload_n hx hb dX10_pause_0 rfl (lv_at hl 0 rfl) ?_
  refine lv_iconst (v := 0) hx hb dX10_pause_1 (by decide) ?_
  obtain ⟨X1, h2, h⟩ := ob h
  refine xr_putI C0 W0 cl_X10 0 (by decide) fl_X10_1 rfl rfl rfl (by decide) h2 dX10_pause_2 (fun H locs W0 => ?_)
  refine lv_aload_n hx hb dX10_pause_5 rfl (lv_at hl 0 rfl) ?_
  refine lv_aload_n hx hb dX10_pause_6 rfl (lv_at hl 0 rfl) ?_
  obtain ⟨v3, h4, h⟩ := ob h
  refine xr_getI C0 W0 cl_X10 29 (by decide) fl_X10_283 rfl h4 dX10_pause_7 ?_
  obtain ⟨u5, h6, h⟩ := ob h
  obtain ⟨X7, h8, h⟩ := ob h
  refine xr_V (As := [.int v3]) (rest := []) C0 W0 (ctX10_findPhrases l G h8) (gK_of h6) (rr := (RX10, TX10, 57)) rfl rfl mc_X10_findPhrases mv_X10_findPhrases ml_X10_303 ⟨by decide, by decide⟩ rfl hl.1 rfl (Nat.le_of_ble_eq_true rfl) ⟨by decide, by decide⟩ dX10_pause_10 (fun H locs W0 => ?_)
  refine W.cs (cells' := 0) (slots' := 0) rfl rfl ?_
  refine W.eq (g2 := F0 m 13 ls []) rfl ?_
  refine lv_iload_n hx hb dX10_pause_13 rfl (lv_at hl 1 rfl) ?_
  refine lv_if_lt (tgt := 38) hx hb dX10_pause_14 (by decide) (fun hcq => ?_) (fun hcq => ?_)
  · have h := it_t hcq h
    refine lv_iconst (v := (-1)) hx hb dX10_pause_38 (by decide) ?_
    exact xr_iret C0 W0 hret (Option.some.inj h) dX10_pause_39
  · have h := it_f hcq h
    refine lv_iload_n hx hb dX10_pause_17 rfl (lv_at hl 1 rfl) ?_
    refine lv_aload_n hx hb dX10_pause_18 rfl (lv_at hl 0 rfl) ?_
    obtain ⟨v9, h10, h⟩ := ob h
    refine xr_getI C0 W0 cl_X10 42 (by decide) fl_X10_300 rfl h10 dX10_pause_19 ?_
    refine lv_iconst (v := 1) hx hb dX10_pause_22 (by decide) ?_
    refine lv_isub hx hb dX10_pause_23 ?_
    refine lv_icmp_ge (tgt := 38) hx hb dX10_pause_24 (by decide) (fun hcq => ?_) (fun hcq => ?_)
    · have h := it_t hcq h
      refine lv_iconst (v := (-1)) hx hb dX10_pause_38 (by decide) ?_
      exact xr_iret C0 W0 hret (Option.some.inj h) dX10_pause_39
    · have h := it_f hcq h
      refine lv_iload_n hx hb dX10_pause_27 rfl (lv_at hl 2 rfl) ?_
      refine lv_if_lt (tgt := 38) hx hb dX10_pause_28 (by decide) (fun hcq => ?_) (fun hcq => ?_)
      · have h := it_t hcq h
        refine lv_iconst (v := (-1)) hx hb dX10_pause_38 (by decide) ?_
        exact xr_iret C0 W0 hret (Option.some.inj h) dX10_pause_39
      · have h := it_f hcq h
        refine lv_iload_n hx hb dX10_pause_31 rfl (lv_at hl 2 rfl) ?_
        refine lv_sipush (v := 1000) hx hb dX10_pause_32 (by decide) ?_
        refine lv_icmp_le (tgt := 40) hx hb dX10_pause_35 (by decide) (fun hcq => ?_) (fun hcq => ?_)
        · have h := it_t hcq h
          refine lv_iconst (v := 0) hx hb dX10_pause_40 (by decide) ?_
          refine lv_istore_n (lv' := [(3, .int 0), (0, .ref l0), (1, .int l1), (2, .int l2)]) hx hb dX10_pause_41 rfl hl (by decide) rfl (fun ls hl => ?_)
          refine lv_iconst (v := 0) hx hb dX10_pause_42 (by decide) ?_
          refine lv_istore (lv' := [(4, .int 0), (3, .int 0), (0, .ref l0), (1, .int l1), (2, .int l2)]) hx hb dX10_pause_43 hl (by decide) rfl (fun ls hl => ?_)
          obtain ⟨r11, h12, h⟩ := ob h
          refine tX10_pause_l45 C0 hret (fun {H} {locs} {ls} W0 hl => ?_) FU W0 (lv_sub hl [2, 3, 4, 1, 0] rfl) h12
          refine lv_iload_n hx hb dX10_pause_72 rfl (lv_at hl 2 rfl) ?_
          refine lv_istore (lv' := [(4, .int l2), (0, .ref l0), (1, .int l1), (2, .int l2), (3, .int r11.1)]) hx hb dX10_pause_73 hl (by decide) rfl (fun ls hl => ?_)
          refine lv_iconst (v := 0) hx hb dX10_pause_75 (by decide) ?_
          refine lv_istore (lv' := [(5, .int 0), (4, .int l2), (0, .ref l0), (1, .int l1), (2, .int l2), (3, .int r11.1)]) hx hb dX10_pause_76 hl (by decide) rfl (fun ls hl => ?_)
          obtain ⟨r13, h14, h⟩ := ob h
          refine tX10_pause_l78 C0 hret (fun {H} {locs} {ls} W0 hl => ?_) FU W0 (lv_sub hl [2, 3, 4, 5, 1, 0] rfl) h14
          obtain ⟨r15, h16, h⟩ := ob h
          refine tX10_pause_l143 C0 hret (fun {H} {locs} {ls} W0 hl => ?_) FU W0 (lv_sub hl [0, 1, 2] rfl) h16
          refine lv_aload_n hx hb dX10_pause_222 rfl (lv_at hl 0 rfl) ?_
          obtain ⟨q17, h18, h⟩ := ob h
          refine xr_getR C0 W0 cl_X10 53 (by decide) fl_X10_183 rfl h18 dX10_pause_223 ?_
          refine lv_iload_n hx hb dX10_pause_226 rfl (lv_at hl 1 rfl) ?_
          obtain ⟨v19, h20, h⟩ := ob h
          refine xr_iald C0 W0 h20 dX10_pause_227 ?_
          exact xr_iret C0 W0 hret (Option.some.inj h) dX10_pause_228
        · have h := it_f hcq h
          refine lv_iconst (v := (-1)) hx hb dX10_pause_38 (by decide) ?_
          exact xr_iret C0 W0 hret (Option.some.inj h) dX10_pause_39
def fX10_isAlike_j86  (s0 : Int32) (s1 : Int32) (X : XW) : Option (Int32 × XW) :=
  if (s1 = s0 : Prop) then (some (1, X))
  else (some (0, X))
def fX10_isAlike (l0 : Nat) (l1 : Int32) (X : XW) : Option (Int32 × XW) :=
  gR X l0 10 56 >>= fun q1 =>
  aI X q1 1 (4 * l1) >>= fun v3 =>
  gK X l0 10 >>= fun u5 =>
  fX10_told l0 l1 X >>= fun r7 =>
  if (v3 = r7.1 : Prop) then (gR r7.2 l0 10 56 >>= fun q9 =>
    aI r7.2 q9 1 ((4 * l1) + 1) >>= fun v11 =>
    gR r7.2 l0 10 52 >>= fun q13 =>
    aI r7.2 q13 1 ((3 * l1) + 1) >>= fun v15 =>
    if (v11 = v15 : Prop) then (gR r7.2 l0 10 56 >>= fun q17 =>
      aI r7.2 q17 1 ((4 * l1) + 2) >>= fun v19 =>
      gR r7.2 l0 10 52 >>= fun q21 =>
      aI r7.2 q21 1 ((3 * l1) + 2) >>= fun v23 =>
      if (v19 = v23 : Prop) then (gR r7.2 l0 10 56 >>= fun q25 =>
        aI r7.2 q25 1 ((4 * l1) + 3) >>= fun v27 =>
        gR r7.2 l0 10 51 >>= fun q29 =>
        aI r7.2 q29 3 l1 >>= fun v31 =>
        if (v31 = 0 : Prop) then (fX10_isAlike_j86 0 v27 r7.2)
        else (fX10_isAlike_j86 1 v27 r7.2))
      else (some (0, r7.2)))
    else (some (0, r7.2)))
  else (some (0, r7.2))
theorem tX10_isAlike_j86 {p : Program} {l : Launch} {e : Env} {s : State} {m : MethodId} {args : Array Value} {below : List Frame} {meth : Method} {c : Code} {G : XG} {X0 : XW} (C0 : XC p s m args meth c RX10 cX10_isAlike 2 G) (hret : meth.sig.returnType = (some .boolean)) {r : Int32 × XW} {s0 : Int32} {s1 : Int32} {X : XW} {H : Heap} {locs : List Loc} {ls : Array Slot} (W0 : XD G X0 X s H locs) (hl : lv_has ls 2 []) (h : fX10_isAlike_j86 s0 s1 X = some r) : W p l e { frames := 1, cells := 0, slots := 0, locals := 60 } s m args below meth c H locs 0 0 (MQ below (XQ G X0 (some (.int r.1), r.2)) args s 0 0 (xAd X0)) (F0 m 86 ls [.int s0, .int s1]) := by
  have hx := C0.1
  have hb := C0.2.1
  unfold fX10_isAlike_j86 at h
  refine lv_icmp_ne (tgt := 93) hx hb dX10_isAlike_86 (by decide) (fun hcq => ?_) (fun hcq => ?_)
  · have h := it_f hcq h
    refine lv_iconst (v := 0) hx hb dX10_isAlike_93 (by decide) ?_
    exact xr_zret C0 W0 hret (by decide) (Option.some.inj h) dX10_isAlike_94
  · have h := it_t hcq h
    refine lv_iconst (v := 1) hx hb dX10_isAlike_89 (by decide) ?_
    refine lv_goto (tgt := 94) hx hb dX10_isAlike_90 (by decide) ?_
    exact xr_zret C0 W0 hret (by decide) (Option.some.inj h) dX10_isAlike_94
theorem ctX10_isAlike (l : Launch) (G : XG) {l0 : Nat} {l1 : Int32} {X : XW} {r : Int32 × XW}  (h : fX10_isAlike l0 l1 X = some r) : XM l G yX10_isAlike cX10_isAlike 2 (some .boolean) 1 60 0 0 [.ref l0, .int l1] X (some (.int r.1), r.2) := by
  refine xm_of (own := RX10) (by decide) rfl (Nat.le_of_ble_eq_true rfl) ?_
  intro p e s m below meth c ls C0 W0 hret hnm hl
  have hx := C0.1
  have hb := C0.2.1
  have hl : lv_has ls 2 [(0, .ref l0), (1, .int l1)] := hl
  unfold fX10_isAlike at h
  refine lv_aload_n hx hb dX10_isAlike_0 rfl (lv_at hl 0 rfl) ?_
  obtain ⟨q1, h2, h⟩ := ob h
  refine xr_getR C0 W0 cl_X10 56 (by decide) fl_X10_189 rfl h2 dX10_isAlike_1 ?_
  refine lv_iconst (v := 4) hx hb dX10_isAlike_4 (by decide) ?_
  refine lv_iload_n hx hb dX10_isAlike_5 rfl (lv_at hl 1 rfl) ?_
  refine lv_imul hx hb dX10_isAlike_6 ?_
  obtain ⟨v3, h4, h⟩ := ob h
  refine xr_iald C0 W0 h4 dX10_isAlike_7 ?_
  refine lv_aload_n hx hb dX10_isAlike_8 rfl (lv_at hl 0 rfl) ?_
  refine lv_iload_n hx hb dX10_isAlike_9 rfl (lv_at hl 1 rfl) ?_
  obtain ⟨u5, h6, h⟩ := ob h
  obtain ⟨r7, h8, h⟩ := ob h
  refine xr_V (As := [.int l1]) (rest := [.int v3]) C0 W0 (ctX10_told l G h8) (gK_of h6) (rr := (RX10, TX10, 57)) rfl rfl mc_X10_told mv_X10_told ml_X10_338 ⟨by decide, by decide⟩ rfl hl.1 rfl (Nat.le_of_ble_eq_true rfl) ⟨by decide, by decide⟩ dX10_isAlike_10 (fun H locs W0 => ?_)
  refine W.cs (cells' := 0) (slots' := 0) rfl rfl ?_
  refine W.eq (g2 := F0 m 13 ls [.int r7.1, .int v3]) rfl ?_
  refine lv_icmp_ne (tgt := 93) hx hb dX10_isAlike_13 (by decide) (fun hcq => ?_) (fun hcq => ?_)
  · have h := it_f hcq h
    refine lv_iconst (v := 0) hx hb dX10_isAlike_93 (by decide) ?_
    exact xr_zret C0 W0 hret (by decide) (Option.some.inj h) dX10_isAlike_94
  · have h := it_t hcq h
    refine lv_aload_n hx hb dX10_isAlike_16 rfl (lv_at hl 0 rfl) ?_
    obtain ⟨q9, h10, h⟩ := ob h
    refine xr_getR C0 W0 cl_X10 56 (by decide) fl_X10_189 rfl h10 dX10_isAlike_17 ?_
    refine lv_iconst (v := 4) hx hb dX10_isAlike_20 (by decide) ?_
    refine lv_iload_n hx hb dX10_isAlike_21 rfl (lv_at hl 1 rfl) ?_
    refine lv_imul hx hb dX10_isAlike_22 ?_
    refine lv_iconst (v := 1) hx hb dX10_isAlike_23 (by decide) ?_
    refine lv_iadd hx hb dX10_isAlike_24 ?_
    obtain ⟨v11, h12, h⟩ := ob h
    refine xr_iald C0 W0 h12 dX10_isAlike_25 ?_
    refine lv_aload_n hx hb dX10_isAlike_26 rfl (lv_at hl 0 rfl) ?_
    obtain ⟨q13, h14, h⟩ := ob h
    refine xr_getR C0 W0 cl_X10 52 (by decide) fl_X10_180 rfl h14 dX10_isAlike_27 ?_
    refine lv_iconst (v := 3) hx hb dX10_isAlike_30 (by decide) ?_
    refine lv_iload_n hx hb dX10_isAlike_31 rfl (lv_at hl 1 rfl) ?_
    refine lv_imul hx hb dX10_isAlike_32 ?_
    refine lv_iconst (v := 1) hx hb dX10_isAlike_33 (by decide) ?_
    refine lv_iadd hx hb dX10_isAlike_34 ?_
    obtain ⟨v15, h16, h⟩ := ob h
    refine xr_iald C0 W0 h16 dX10_isAlike_35 ?_
    refine lv_icmp_ne (tgt := 93) hx hb dX10_isAlike_36 (by decide) (fun hcq => ?_) (fun hcq => ?_)
    · have h := it_f hcq h
      refine lv_iconst (v := 0) hx hb dX10_isAlike_93 (by decide) ?_
      exact xr_zret C0 W0 hret (by decide) (Option.some.inj h) dX10_isAlike_94
    · have h := it_t hcq h
      refine lv_aload_n hx hb dX10_isAlike_39 rfl (lv_at hl 0 rfl) ?_
      obtain ⟨q17, h18, h⟩ := ob h
      refine xr_getR C0 W0 cl_X10 56 (by decide) fl_X10_189 rfl h18 dX10_isAlike_40 ?_
      refine lv_iconst (v := 4) hx hb dX10_isAlike_43 (by decide) ?_
      refine lv_iload_n hx hb dX10_isAlike_44 rfl (lv_at hl 1 rfl) ?_
      refine lv_imul hx hb dX10_isAlike_45 ?_
      refine lv_iconst (v := 2) hx hb dX10_isAlike_46 (by decide) ?_
      refine lv_iadd hx hb dX10_isAlike_47 ?_
      obtain ⟨v19, h20, h⟩ := ob h
      refine xr_iald C0 W0 h20 dX10_isAlike_48 ?_
      refine lv_aload_n hx hb dX10_isAlike_49 rfl (lv_at hl 0 rfl) ?_
      obtain ⟨q21, h22, h⟩ := ob h
      refine xr_getR C0 W0 cl_X10 52 (by decide) fl_X10_180 rfl h22 dX10_isAlike_50 ?_
      refine lv_iconst (v := 3) hx hb dX10_isAlike_53 (by decide) ?_
      refine lv_iload_n hx hb dX10_isAlike_54 rfl (lv_at hl 1 rfl) ?_
      refine lv_imul hx hb dX10_isAlike_55 ?_
      refine lv_iconst (v := 2) hx hb dX10_isAlike_56 (by decide) ?_
      refine lv_iadd hx hb dX10_isAlike_57 ?_
      obtain ⟨v23, h24, h⟩ := ob h
      refine xr_iald C0 W0 h24 dX10_isAlike_58 ?_
      refine lv_icmp_ne (tgt := 93) hx hb dX10_isAlike_59 (by decide) (fun hcq => ?_) (fun hcq => ?_)
      · have h := it_f hcq h
        refine lv_iconst (v := 0) hx hb dX10_isAlike_93 (by decide) ?_
        exact xr_zret C0 W0 hret (by decide) (Option.some.inj h) dX10_isAlike_94
      · have h := it_t hcq h
        refine lv_aload_n hx hb dX10_isAlike_62 rfl (lv_at hl 0 rfl) ?_
        obtain ⟨q25, h26, h⟩ := ob h
        refine xr_getR C0 W0 cl_X10 56 (by decide) fl_X10_189 rfl h26 dX10_isAlike_63 ?_
        refine lv_iconst (v := 4) hx hb dX10_isAlike_66 (by decide) ?_
        refine lv_iload_n hx hb dX10_isAlike_67 rfl (lv_at hl 1 rfl) ?_
        refine lv_imul hx hb dX10_isAlike_68 ?_
        refine lv_iconst (v := 3) hx hb dX10_isAlike_69 (by decide) ?_
        refine lv_iadd hx hb dX10_isAlike_70 ?_
        obtain ⟨v27, h28, h⟩ := ob h
        refine xr_iald C0 W0 h28 dX10_isAlike_71 ?_
        refine lv_aload_n hx hb dX10_isAlike_72 rfl (lv_at hl 0 rfl) ?_
        obtain ⟨q29, h30, h⟩ := ob h
        refine xr_getR C0 W0 cl_X10 51 (by decide) fl_X10_177 rfl h30 dX10_isAlike_73 ?_
        refine lv_iload_n hx hb dX10_isAlike_76 rfl (lv_at hl 1 rfl) ?_
        obtain ⟨v31, h32, h⟩ := ob h
        refine xr_zald C0 W0 h32 dX10_isAlike_77 ?_
        refine lv_if_eq (tgt := 85) hx hb dX10_isAlike_78 (by decide) (fun hcq => ?_) (fun hcq => ?_)
        · have h := it_t hcq h
          refine lv_iconst (v := 0) hx hb dX10_isAlike_85 (by decide) ?_
          exact tX10_isAlike_j86 C0 hret W0 (lv_sub hl [] rfl) h
        · have h := it_f hcq h
          refine lv_iconst (v := 1) hx hb dX10_isAlike_81 (by decide) ?_
          refine lv_goto (tgt := 86) hx hb dX10_isAlike_82 (by decide) ?_
          exact tX10_isAlike_j86 C0 hret W0 (lv_sub hl [] rfl) h
