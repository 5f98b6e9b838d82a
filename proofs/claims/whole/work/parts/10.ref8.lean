def fX10_apart_j123 (rec : Int32 → XW → Option (XW)) (l0 : Nat) (l2 : Int32) (l3 : Int32) (s0 : Int32) (s1 : Int32) (s2 : Nat) (X : XW) : Option (XW) :=
  uI X s2 s1 s0 >>= fun X1 =>
  rec (l3 + 1) X1
def fX10_apart_l39_b (rec : Int32 → XW → Option (XW)) (l0 : Nat) (l2 : Int32) (l3 : Int32) (X : XW) : Option (XW) :=
  gI X l0 10 47 >>= fun v1 =>
  if (v1 ≤ l3 : Prop) then (some (X))
  else (gR X l0 10 56 >>= fun q3 =>
    gK X l0 10 >>= fun u5 =>
    fX10_told l0 l3 X >>= fun r7 =>
    uI r7.2 q3 (4 * l3) r7.1 >>= fun X9 =>
    gR X9 l0 10 56 >>= fun q11 =>
    gR X9 l0 10 52 >>= fun q13 =>
    aI X9 q13 1 ((3 * l3) + 1) >>= fun v15 =>
    uI X9 q11 ((4 * l3) + 1) v15 >>= fun X17 =>
    gR X17 l0 10 56 >>= fun q19 =>
    gR X17 l0 10 52 >>= fun q21 =>
    aI X17 q21 1 ((3 * l3) + 2) >>= fun v23 =>
    uI X17 q19 ((4 * l3) + 2) v23 >>= fun X25 =>
    gR X25 l0 10 56 >>= fun q27 =>
    gR X25 l0 10 51 >>= fun q29 =>
    aI X25 q29 3 l3 >>= fun v31 =>
    if (v31 = 0 : Prop) then (fX10_apart_j123 rec l0 l2 l3 0 ((4 * l3) + 3) q27 X25)
    else (fX10_apart_j123 rec l0 l2 l3 1 ((4 * l3) + 3) q27 X25))
def fX10_apart_l39 (l0 : Nat) (l2 : Int32) (n : Nat) : Int32 → XW → Option (XW) := iter (fun rec => fX10_apart_l39_b rec l0 l2) (fun _ _ => none) n
def fX10_apart_l137_b (rec : Int32 → XW → Option (Int32 × XW)) (l0 : Nat) (l3 : Int32) (X : XW) : Option (Int32 × XW) :=
  gI X l0 10 47 >>= fun v1 =>
  if (v1 ≤ l3 : Prop) then (some (l3, X))
  else (gI X l0 10 55 >>= fun v3 =>
    if (v3 ≤ l3 : Prop) then (some (l3, X))
    else (gK X l0 10 >>= fun u5 =>
      fX10_isAlike l0 l3 X >>= fun r7 =>
      if (r7.1 = 0 : Prop) then (some (l3, r7.2))
      else (rec (l3 + 1) r7.2)))
def fX10_apart_l137 (l0 : Nat) (n : Nat) : Int32 → XW → Option (Int32 × XW) := iter (fun rec => fX10_apart_l137_b rec l0) (fun _ _ => none) n
def fX10_apart (l0 : Nat) (l1 : Int32) (l2 : Int32) (X : XW) : Option (Int32 × XW) :=
  pI X l0 10 0 0 >>= fun X1 =>
  gK X1 l0 10 >>= fun u3 =>
  fX10_isReading l0 l1 X1 >>= fun r5 =>
  if (r5.1 = 0 : Prop) then (some ((-2), r5.2))
  else (gK r5.2 l0 10 >>= fun u7 =>
    fX10_isReading l0 l2 r5.2 >>= fun r9 =>
    if (r9.1 = 0 : Prop) then (some ((-2), r9.2))
    else (gK r9.2 l0 10 >>= fun u11 =>
      fX10_shapes l0 l1 r9.2 >>= fun X13 =>
      gI X13 l0 10 47 >>= fun v15 =>
      pI X13 l0 10 55 v15 >>= fun X17 =>
      fX10_apart_l39 l0 l2 FU 0 X17 >>= fun r19 =>
      gK r19 l0 10 >>= fun u21 =>
      fX10_shapes l0 l2 r19 >>= fun X23 =>
      fX10_apart_l137 l0 FU 0 X23 >>= fun r25 =>
      gI r25.2 l0 10 47 >>= fun v27 =>
      if (r25.1 = v27 : Prop) then (gI r25.2 l0 10 55 >>= fun v29 =>
        if (r25.1 = v29 : Prop) then (some ((-1), r25.2))
        else (some (r25.1, r25.2)))
      else (some (r25.1, r25.2))))
theorem tX10_apart_j123 {p : Program} {l : Launch} {e : Env} {s : State} {m : MethodId} {args : Array Value} {below : List Frame} {meth : Method} {c : Code} {G : XG} {X0 : XW} (C0 : XC p s m args meth c RX10 cX10_apart 4 G) (hret : meth.sig.returnType = (some .int)) {r : XW} {l0 : Nat} {l2 : Int32} {Q : State → Prop} {rec : Int32 → XW → Option (XW)} (hrec : ∀ {y3 : Int32} {X : XW} {H : Heap} {locs : List Loc} {ls : Array Slot}, XD G X0 X s H locs → lv_has ls 4 [(0, .ref l0), (2, .int l2), (3, .int y3)] → rec y3 X = some r → W p l e { frames := 4, cells := 0, slots := 0, locals := 240 } s m args below meth c H locs 0 0 Q (F0 m 39 ls [])) (hK : ∀ {H : Heap} {locs : List Loc} {ls : Array Slot}, XD G X0 r s H locs → lv_has ls 4 [(0, .ref l0), (2, .int l2)] → W p l e { frames := 4, cells := 0, slots := 0, locals := 240 } s m args below meth c H locs 0 0 Q (F0 m 130 ls []))  {l3 : Int32} {s0 : Int32} {s1 : Int32} {s2 : Nat} {X : XW} {H : Heap} {locs : List Loc} {ls : Array Slot} (W0 : XD G X0 X s H locs) (hl : lv_has ls 4 [(0, .ref l0), (2, .int l2), (3, .int l3)]) (h : fX10_apart_j123 rec l0 l2 l3 s0 s1 s2 X = some r) : W p l e { frames := 4, cells := 0, slots := 0, locals := 240 } s m args below meth c H locs 0 0 Q (F0 m 123 ls [.int s0, .int s1, .ref s2]) := by
  have hx := C0.1
  have hb := C0.2.1
  unfold fX10_apart_j123 at h
  obtain ⟨X1, h2, h⟩ := ob h
  refine xr_iast C0 W0 h2 dX10_apart_123 (fun H locs W0 => ?_)
  refine lv_iinc (v := (l3 + 1)) (lv' := [(3, .int (l3 + 1)), (0, .ref l0), (2, .int l2)]) hx hb dX10_apart_124 hl (k := 2) rfl (ii (by decide)) (by decide) rfl (fun ls hl => ?_)
  refine lv_goto (tgt := 39) hx hb dX10_apart_127 (by decide) ?_
  exact hrec W0 (lv_sub hl [1, 2, 0] rfl) h
theorem tX10_apart_l39_b {p : Program} {l : Launch} {e : Env} {s : State} {m : MethodId} {args : Array Value} {below : List Frame} {meth : Method} {c : Code} {G : XG} {X0 : XW} (C0 : XC p s m args meth c RX10 cX10_apart 4 G) (hret : meth.sig.returnType = (some .int)) {r : XW} {l0 : Nat} {l2 : Int32} {Q : State → Prop} {rec : Int32 → XW → Option (XW)} (hrec : ∀ {y3 : Int32} {X : XW} {H : Heap} {locs : List Loc} {ls : Array Slot}, XD G X0 X s H locs → lv_has ls 4 [(0, .ref l0), (2, .int l2), (3, .int y3)] → rec y3 X = some r → W p l e { frames := 4, cells := 0, slots := 0, locals := 240 } s m args below meth c H locs 0 0 Q (F0 m 39 ls [])) (hK : ∀ {H : Heap} {locs : List Loc} {ls : Array Slot}, XD G X0 r s H locs → lv_has ls 4 [(0, .ref l0), (2, .int l2)] → W p l e { frames := 4, cells := 0, slots := 0, locals := 240 } s m args below meth c H locs 0 0 Q (F0 m 130 ls []))  {l3 : Int32} {X : XW} {H : Heap} {locs : List Loc} {ls : Array Slot} (W0 : XD G X0 X s H locs) (hl : lv_has ls 4 [(0, .ref l0), (2, .int l2), (3, .int l3)]) (h : fX10_apart_l39_b rec l0 l2 l3 X = some r) : W p l e { frames := 4, cells := 0, slots := 0, locals := 240 } s m args below meth c H locs 0 0 Q (F0 m 39 ls []) := by
  have hx := C0.1
  have hb := C0.2.1
  unfold fX10_apart_l39_b at h
  refine lv_iload_n hx hb dX10_apart_39 rfl (lv_at hl 2 rfl) ?_
  refine lv_aload_n hx hb dX10_apart_40 rfl (lv_at hl 0 rfl) ?_
  obtain ⟨v1, h2, h⟩ := ob h
  refine xr_getI C0 W0 cl_X10 47 (by decide) fl_X10_310 rfl h2 dX10_apart_41 ?_
  refine lv_icmp_ge (tgt := 130) hx hb dX10_apart_44 (by decide) (fun hcq => ?_) (fun hcq => ?_)
  · have h := it_t hcq h
    cases h
    exact hK W0 (lv_sub hl [0, 1] rfl)
  · have h := it_f hcq h
    refine lv_aload_n hx hb dX10_apart_47 rfl (lv_at hl 0 rfl) ?_
    obtain ⟨q3, h4, h⟩ := ob h
    refine xr_getR C0 W0 cl_X10 56 (by decide) fl_X10_189 rfl h4 dX10_apart_48 ?_
    refine lv_iconst (v := 4) hx hb dX10_apart_51 (by decide) ?_
    refine lv_iload_n hx hb dX10_apart_52 rfl (lv_at hl 2 rfl) ?_
    refine lv_imul hx hb dX10_apart_53 ?_
    refine lv_aload_n hx hb dX10_apart_54 rfl (lv_at hl 0 rfl) ?_
    refine lv_iload_n hx hb dX10_apart_55 rfl (lv_at hl 2 rfl) ?_
    obtain ⟨u5, h6, h⟩ := ob h
    obtain ⟨r7, h8, h⟩ := ob h
    refine xr_V (As := [.int l3]) (rest := [.int (4 * l3), .ref q3]) C0 W0 (ctX10_told l G h8) (gK_of h6) (rr := (RX10, TX10, 57)) rfl rfl mc_X10_told mv_X10_told ml_X10_338 ⟨by decide, by decide⟩ rfl hl.1 rfl (Nat.le_of_ble_eq_true rfl) ⟨by decide, by decide⟩ dX10_apart_56 (fun H locs W0 => ?_)
    refine W.cs (cells' := 0) (slots' := 0) rfl rfl ?_
    refine W.eq (g2 := F0 m 59 ls [.int r7.1, .int (4 * l3), .ref q3]) rfl ?_
    obtain ⟨X9, h10, h⟩ := ob h
    refine xr_iast C0 W0 h10 dX10_apart_59 (fun H locs W0 => ?_)
    refine lv_aload_n hx hb dX10_apart_60 rfl (lv_at hl 0 rfl) ?_
    obtain ⟨q11, h12, h⟩ := ob h
    refine xr_getR C0 W0 cl_X10 56 (by decide) fl_X10_189 rfl h12 dX10_apart_61 ?_
    refine lv_iconst (v := 4) hx hb dX10_apart_64 (by decide) ?_
    refine lv_iload_n hx hb dX10_apart_65 rfl (lv_at hl 2 rfl) ?_
    refine lv_imul hx hb dX10_apart_66 ?_
    refine lv_iconst (v := 1) hx hb dX10_apart_67 (by decide) ?_
    refine lv_iadd hx hb dX10_apart_68 ?_
    refine lv_aload_n hx hb dX10_apart_69 rfl (lv_at hl 0 rfl) ?_
    obtain ⟨q13, h14, h⟩ := ob h
    refine xr_getR C0 W0 cl_X10 52 (by decide) fl_X10_180 rfl h14 dX10_apart_70 ?_
    refine lv_iconst (v := 3) hx hb dX10_apart_73 (by decide) ?_
    refine lv_iload_n hx hb dX10_apart_74 rfl (lv_at hl 2 rfl) ?_
    refine lv_imul hx hb dX10_apart_75 ?_
    refine lv_iconst (v := 1) hx hb dX10_apart_76 (by decide) ?_
    refine lv_iadd hx hb dX10_apart_77 ?_
    obtain ⟨v15, h16, h⟩ := ob h
    refine xr_iald C0 W0 h16 dX10_apart_78 ?_
    obtain ⟨X17, h18, h⟩ := ob h
    refine xr_iast C0 W0 h18 dX10_apart_79 (fun H locs W0 => ?_)
    refine lv_aload_n hx hb dX10_apart_80 rfl (lv_at hl 0 rfl) ?_
    obtain ⟨q19, h20, h⟩ := ob h
    refine xr_getR C0 W0 cl_X10 56 (by decide) fl_X10_189 rfl h20 dX10_apart_81 ?_
    refine lv_iconst (v := 4) hx hb dX10_apart_84 (by decide) ?_
    refine lv_iload_n hx hb dX10_apart_85 rfl (lv_at hl 2 rfl) ?_
    refine lv_imul hx hb dX10_apart_86 ?_
    refine lv_iconst (v := 2) hx hb dX10_apart_87 (by decide) ?_
    refine lv_iadd hx hb dX10_apart_88 ?_
    refine lv_aload_n hx hb dX10_apart_89 rfl (lv_at hl 0 rfl) ?_
    obtain ⟨q21, h22, h⟩ := ob h
    refine xr_getR C0 W0 cl_X10 52 (by decide) fl_X10_180 rfl h22 dX10_apart_90 ?_
    refine lv_iconst (v := 3) hx hb dX10_apart_93 (by decide) ?_
    refine lv_iload_n hx hb dX10_apart_94 rfl (lv_at hl 2 rfl) ?_
    refine lv_imul hx hb dX10_apart_95 ?_
    refine lv_iconst (v := 2) hx hb dX10_apart_96 (by decide) ?_
    refine lv_iadd hx hb dX10_apart_97 ?_
    obtain ⟨v23, h24, h⟩ := ob h
    refine xr_iald C0 W0 h24 dX10_apart_98 ?_
    obtain ⟨X25, h26, h⟩ := ob h
    refine xr_iast C0 W0 h26 dX10_apart_99 (fun H locs W0 => ?_)
    refine lv_aload_n hx hb dX10_apart_100 rfl (lv_at hl 0 rfl) ?_
    obtain ⟨q27, h28, h⟩ := ob h
    refine xr_getR C0 W0 cl_X10 56 (by decide) fl_X10_189 rfl h28 dX10_apart_101 ?_
    refine lv_iconst (v := 4) hx hb dX10_apart_104 (by decide) ?_
    refine lv_iload_n hx hb dX10_apart_105 rfl (lv_at hl 2 rfl) ?_
    refine lv_imul hx hb dX10_apart_106 ?_
    refine lv_iconst (v := 3) hx hb dX10_apart_107 (by decide) ?_
    refine lv_iadd hx hb dX10_apart_108 ?_
    refine lv_aload_n hx hb dX10_apart_109 rfl (lv_at hl 0 rfl) ?_
    obtain ⟨q29, h30, h⟩ := ob h
    refine xr_getR C0 W0 cl_X10 51 (by decide) fl_X10_177 rfl h30 dX10_apart_110 ?_
    refine lv_iload_n hx hb dX10_apart_113 rfl (lv_at hl 2 rfl) ?_
    obtain ⟨v31, h32, h⟩ := ob h
    refine xr_zald C0 W0 h32 dX10_apart_114 ?_
    refine lv_if_eq (tgt := 122) hx hb dX10_apart_115 (by decide) (fun hcq => ?_) (fun hcq => ?_)
    · have h := it_t hcq h
      refine lv_iconst (v := 0) hx hb dX10_apart_122 (by decide) ?_
      exact tX10_apart_j123 C0 hret hrec hK W0 (lv_sub hl [0, 1, 2] rfl) h
    · have h := it_f hcq h
      refine lv_iconst (v := 1) hx hb dX10_apart_118 (by decide) ?_
      refine lv_goto (tgt := 123) hx hb dX10_apart_119 (by decide) ?_
      exact tX10_apart_j123 C0 hret hrec hK W0 (lv_sub hl [0, 1, 2] rfl) h
theorem tX10_apart_l39 {p : Program} {l : Launch} {e : Env} {s : State} {m : MethodId} {args : Array Value} {below : List Frame} {meth : Method} {c : Code} {G : XG} {X0 : XW} (C0 : XC p s m args meth c RX10 cX10_apart 4 G) (hret : meth.sig.returnType = (some .int)) {r : XW} {l0 : Nat} {l2 : Int32} {Q : State → Prop} (hK : ∀ {H : Heap} {locs : List Loc} {ls : Array Slot}, XD G X0 r s H locs → lv_has ls 4 [(0, .ref l0), (2, .int l2)] → W p l e { frames := 4, cells := 0, slots := 0, locals := 240 } s m args below meth c H locs 0 0 Q (F0 m 130 ls [])) : ∀ (n : Nat) {y3 : Int32} {X : XW} {H : Heap} {locs : List Loc} {ls : Array Slot}, XD G X0 X s H locs → lv_has ls 4 [(0, .ref l0), (2, .int l2), (3, .int y3)] → fX10_apart_l39 l0 l2 n y3 X = some r → W p l e { frames := 4, cells := 0, slots := 0, locals := 240 } s m args below meth c H locs 0 0 Q (F0 m 39 ls []) := by
  intro n
  induction n with
  | zero =>
    intro y3 X H locs ls W0 hl h
    cases h
  | succ n ih =>
    intro y3 X H locs ls W0 hl h
    exact tX10_apart_l39_b C0 hret (rec := fX10_apart_l39 l0 l2 n) (fun W0 hl h => ih W0 hl h) hK W0 hl h
theorem tX10_apart_l137_b {p : Program} {l : Launch} {e : Env} {s : State} {m : MethodId} {args : Array Value} {below : List Frame} {meth : Method} {c : Code} {G : XG} {X0 : XW} (C0 : XC p s m args meth c RX10 cX10_apart 4 G) (hret : meth.sig.returnType = (some .int)) {r : Int32 × XW} {l0 : Nat} {Q : State → Prop} {rec : Int32 → XW → Option (Int32 × XW)} (hrec : ∀ {y3 : Int32} {X : XW} {H : Heap} {locs : List Loc} {ls : Array Slot}, XD G X0 X s H locs → lv_has ls 4 [(0, .ref l0), (3, .int y3)] → rec y3 X = some r → W p l e { frames := 4, cells := 0, slots := 0, locals := 240 } s m args below meth c H locs 0 0 Q (F0 m 137 ls [])) (hK : ∀ {H : Heap} {locs : List Loc} {ls : Array Slot}, XD G X0 r.2 s H locs → lv_has ls 4 [(0, .ref l0), (3, .int r.1)] → W p l e { frames := 4, cells := 0, slots := 0, locals := 240 } s m args below meth c H locs 0 0 Q (F0 m 167 ls []))  {l3 : Int32} {X : XW} {H : Heap} {locs : List Loc} {ls : Array Slot} (W0 : XD G X0 X s H locs) (hl : lv_has ls 4 [(0, .ref l0), (3, .int l3)]) (h : fX10_apart_l137_b rec l0 l3 X = some r) : W p l e { frames := 4, cells := 0, slots := 0, locals := 240 } s m args below meth c H locs 0 0 Q (F0 m 137 ls []) := by
  have hx := C0.1
  have hb := C0.2.1
  unfold fX10_apart_l137_b at h
  refine lv_iload_n hx hb dX10_apart_137 rfl (lv_at hl 1 rfl) ?_
  refine lv_aload_n hx hb dX10_apart_138 rfl (lv_at hl 0 rfl) ?_
  obtain ⟨v1, h2, h⟩ := ob h
  refine xr_getI C0 W0 cl_X10 47 (by decide) fl_X10_310 rfl h2 dX10_apart_139 ?_
  refine lv_icmp_ge (tgt := 167) hx hb dX10_apart_142 (by decide) (fun hcq => ?_) (fun hcq => ?_)
  · have h := it_t hcq h
    cases h
    exact hK W0 (lv_sub hl [0, 1] rfl)
  · have h := it_f hcq h
    refine lv_iload_n hx hb dX10_apart_145 rfl (lv_at hl 1 rfl) ?_
    refine lv_aload_n hx hb dX10_apart_146 rfl (lv_at hl 0 rfl) ?_
    obtain ⟨v3, h4, h⟩ := ob h
    refine xr_getI C0 W0 cl_X10 55 (by decide) fl_X10_341 rfl h4 dX10_apart_147 ?_
    refine lv_icmp_ge (tgt := 167) hx hb dX10_apart_150 (by decide) (fun hcq => ?_) (fun hcq => ?_)
    · have h := it_t hcq h
      cases h
      exact hK W0 (lv_sub hl [0, 1] rfl)
    · have h := it_f hcq h
      refine lv_aload_n hx hb dX10_apart_153 rfl (lv_at hl 0 rfl) ?_
      refine lv_iload_n hx hb dX10_apart_154 rfl (lv_at hl 1 rfl) ?_
      obtain ⟨u5, h6, h⟩ := ob h
      obtain ⟨r7, h8, h⟩ := ob h
      refine xr_V (As := [.int l3]) (rest := []) C0 W0 (ctX10_isAlike l G h8) (gK_of h6) (rr := (RX10, TX10, 57)) rfl rfl mc_X10_isAlike mv_X10_isAlike ml_X10_344 ⟨by decide, by decide⟩ rfl hl.1 rfl (Nat.le_of_ble_eq_true rfl) ⟨by decide, by decide⟩ dX10_apart_155 (fun H locs W0 => ?_)
      refine W.cs (cells' := 0) (slots' := 0) rfl rfl ?_
      refine W.eq (g2 := F0 m 158 ls [.int r7.1]) rfl ?_
      refine lv_if_eq (tgt := 167) hx hb dX10_apart_158 (by decide) (fun hcq => ?_) (fun hcq => ?_)
      · have h := it_t hcq h
        cases h
        exact hK W0 (lv_sub hl [0, 1] rfl)
      · have h := it_f hcq h
        refine lv_iinc (v := (l3 + 1)) (lv' := [(3, .int (l3 + 1)), (0, .ref l0)]) hx hb dX10_apart_161 hl (k := 1) rfl (ii (by decide)) (by decide) rfl (fun ls hl => ?_)
        refine lv_goto (tgt := 137) hx hb dX10_apart_164 (by decide) ?_
        exact hrec W0 (lv_sub hl [1, 0] rfl) h
theorem tX10_apart_l137 {p : Program} {l : Launch} {e : Env} {s : State} {m : MethodId} {args : Array Value} {below : List Frame} {meth : Method} {c : Code} {G : XG} {X0 : XW} (C0 : XC p s m args meth c RX10 cX10_apart 4 G) (hret : meth.sig.returnType = (some .int)) {r : Int32 × XW} {l0 : Nat} {Q : State → Prop} (hK : ∀ {H : Heap} {locs : List Loc} {ls : Array Slot}, XD G X0 r.2 s H locs → lv_has ls 4 [(0, .ref l0), (3, .int r.1)] → W p l e { frames := 4, cells := 0, slots := 0, locals := 240 } s m args below meth c H locs 0 0 Q (F0 m 167 ls [])) : ∀ (n : Nat) {y3 : Int32} {X : XW} {H : Heap} {locs : List Loc} {ls : Array Slot}, XD G X0 X s H locs → lv_has ls 4 [(0, .ref l0), (3, .int y3)] → fX10_apart_l137 l0 n y3 X = some r → W p l e { frames := 4, cells := 0, slots := 0, locals := 240 } s m args below meth c H locs 0 0 Q (F0 m 137 ls []) := by
  intro n
  induction n with
  | zero =>
    intro y3 X H locs ls W0 hl h
    cases h
  | succ n ih =>
    intro y3 X H locs ls W0 hl h
    exact tX10_apart_l137_b C0 hret (rec := fX10_apart_l137 l0 n) (fun W0 hl h => ih W0 hl h) hK W0 hl h
theorem ctX10_apart (l : Launch) (G : XG) {l0 : Nat} {l1 : Int32} {l2 : Int32} {X : XW} {r : Int32 × XW}  (h : fX10_apart l0 l1 l2 X = some r) : XM l G yX10_apart cX10_apart 4 (some .int) 4 240 0 0 [.ref l0, .int l1, .int l2] X (some (.int r.1), r.2) := by
  refine xm_of (own := RX10) (by decide) rfl (Nat.le_of_ble_eq_true rfl) ?_
  intro p e s m below meth c ls C0 W0 hret hnm hl
  have hx := C0.1
  have hb := C0.2.1
  have hl : lv_has ls 4 [(0, .ref l0), (1, .int l1), (2, .int l2)] := hl
  unfold fX10_apart at h
  refine lv_aload_n hx hb dX10_apart_0 rfl (lv_at hl 0 rfl) ?_
  refine lv_iconst (v := 0) hx hb dX10_apart_1 (by decide) ?_
  obtain ⟨X1, h2, h⟩ := ob h
  refine xr_putI C0 W0 cl_X10 0 (by decide) fl_X10_1 rfl rfl rfl (by decide) h2 dX10_apart_2 (fun H locs W0 => ?_)
  refine lv_aload_n hx hb dX10_apart_5 rfl (lv_at hl 0 rfl) ?_
  refine lv_iload_n hx hb dX10_apart_6 rfl (lv_at hl 1 rfl) ?_
  obtain ⟨u3, h4, h⟩ := ob h
  obtain ⟨r5, h6, h⟩ := ob h
  refine xr_V (As := [.int l1]) (rest := []) C0 W0 (ctX10_isReading l G h6) (gK_of h4) (rr := (RX10, TX10, 57)) rfl rfl mc_X10_isReading mv_X10_isReading ml_X10_290 ⟨by decide, by decide⟩ rfl hl.1 rfl (Nat.le_of_ble_eq_true rfl) ⟨by decide, by decide⟩ dX10_apart_7 (fun H locs W0 => ?_)
  refine W.cs (cells' := 0) (slots' := 0) rfl rfl ?_
  refine W.eq (g2 := F0 m 10 ls [.int r5.1]) rfl ?_
  refine lv_if_eq (tgt := 21) hx hb dX10_apart_10 (by decide) (fun hcq => ?_) (fun hcq => ?_)
  · have h := it_t hcq h
    refine lv_bipush (v := (-2)) hx hb dX10_apart_21 (by decide) ?_
    exact xr_iret C0 W0 hret (Option.some.inj h) dX10_apart_23
  · have h := it_f hcq h
    refine lv_aload_n hx hb dX10_apart_13 rfl (lv_at hl 0 rfl) ?_
    refine lv_iload_n hx hb dX10_apart_14 rfl (lv_at hl 2 rfl) ?_
    obtain ⟨u7, h8, h⟩ := ob h
    obtain ⟨r9, h10, h⟩ := ob h
    refine xr_V (As := [.int l2]) (rest := []) C0 W0 (ctX10_isReading l G h10) (gK_of h8) (rr := (RX10, TX10, 57)) rfl rfl mc_X10_isReading mv_X10_isReading ml_X10_290 ⟨by decide, by decide⟩ rfl hl.1 rfl (Nat.le_of_ble_eq_true rfl) ⟨by decide, by decide⟩ dX10_apart_15 (fun H locs W0 => ?_)
    refine W.cs (cells' := 0) (slots' := 0) rfl rfl ?_
    refine W.eq (g2 := F0 m 18 ls [.int r9.1]) rfl ?_
    refine lv_if_ne (tgt := 24) hx hb dX10_apart_18 (by decide) (fun hcq => ?_) (fun hcq => ?_)
    · have h := it_f hcq h
      refine lv_aload_n hx hb dX10_apart_24 rfl (lv_at hl 0 rfl) ?_
      refine lv_iload_n hx hb dX10_apart_25 rfl (lv_at hl 1 rfl) ?_
      obtain ⟨u11, h12, h⟩ := ob h
      obtain ⟨X13, h14, h⟩ := ob h
      refine xr_V (As := [.int l1]) (rest := []) C0 W0 (ctX10_shapes l G h14) (gK_of h12) (rr := (RX10, TX10, 57)) rfl rfl mc_X10_shapes mv_X10_shapes ml_X10_335 ⟨by decide, by decide⟩ rfl hl.1 rfl (Nat.le_of_ble_eq_true rfl) ⟨by decide, by decide⟩ dX10_apart_26 (fun H locs W0 => ?_)
      refine W.cs (cells' := 0) (slots' := 0) rfl rfl ?_
      refine W.eq (g2 := F0 m 29 ls []) rfl ?_
      refine lv_aload_n hx hb dX10_apart_29 rfl (lv_at hl 0 rfl) ?_
      refine lv_aload_n hx hb dX10_apart_30 rfl (lv_at hl 0 rfl) ?_
      obtain ⟨v15, h16, h⟩ := ob h
      refine xr_getI C0 W0 cl_X10 47 (by decide) fl_X10_310 rfl h16 dX10_apart_31 ?_
      obtain ⟨X17, h18, h⟩ := ob h
      refine xr_putI C0 W0 cl_X10 55 (by decide) fl_X10_341 rfl rfl rfl (by decide) h18 dX10_apart_34 (fun H locs W0 => ?_)
      refine lv_iconst (v := 0) hx hb dX10_apart_37 (by decide) ?_
      refine lv_istore_n (lv' := [(3, .int 0), (0, .ref l0), (1, .int l1), (2, .int l2)]) hx hb dX10_apart_38 rfl hl (by decide) rfl (fun ls hl => ?_)
      obtain ⟨r19, h20, h⟩ := ob h
      refine tX10_apart_l39 C0 hret (fun {H} {locs} {ls} W0 hl => ?_) FU W0 (lv_sub hl [1, 3, 0] rfl) h20
      refine lv_aload_n hx hb dX10_apart_130 rfl (lv_at hl 0 rfl) ?_
      refine lv_iload_n hx hb dX10_apart_131 rfl (lv_at hl 1 rfl) ?_
      obtain ⟨u21, h22, h⟩ := ob h
      obtain ⟨X23, h24, h⟩ := ob h
      refine xr_V (As := [.int l2]) (rest := []) C0 W0 (ctX10_shapes l G h24) (gK_of h22) (rr := (RX10, TX10, 57)) rfl rfl mc_X10_shapes mv_X10_shapes ml_X10_335 ⟨by decide, by decide⟩ rfl hl.1 rfl (Nat.le_of_ble_eq_true rfl) ⟨by decide, by decide⟩ dX10_apart_132 (fun H locs W0 => ?_)
      refine W.cs (cells' := 0) (slots' := 0) rfl rfl ?_
      refine W.eq (g2 := F0 m 135 ls []) rfl ?_
      refine lv_iconst (v := 0) hx hb dX10_apart_135 (by decide) ?_
      refine lv_istore_n (lv' := [(3, .int 0), (0, .ref l0), (2, .int l2)]) hx hb dX10_apart_136 rfl hl (by decide) rfl (fun ls hl => ?_)
      obtain ⟨r25, h26, h⟩ := ob h
      refine tX10_apart_l137 C0 hret (fun {H} {locs} {ls} W0 hl => ?_) FU W0 (lv_sub hl [1, 0] rfl) h26
      refine lv_iload_n hx hb dX10_apart_167 rfl (lv_at hl 1 rfl) ?_
      refine lv_aload_n hx hb dX10_apart_168 rfl (lv_at hl 0 rfl) ?_
      obtain ⟨v27, h28, h⟩ := ob h
      refine xr_getI C0 W0 cl_X10 47 (by decide) fl_X10_310 rfl h28 dX10_apart_169 ?_
      refine lv_icmp_ne (tgt := 187) hx hb dX10_apart_172 (by decide) (fun hcq => ?_) (fun hcq => ?_)
      · have h := it_f hcq h
        refine lv_iload_n hx hb dX10_apart_187 rfl (lv_at hl 1 rfl) ?_
        exact xr_iret C0 W0 hret (Option.some.inj h) dX10_apart_188
      · have h := it_t hcq h
        refine lv_iload_n hx hb dX10_apart_175 rfl (lv_at hl 1 rfl) ?_
        refine lv_aload_n hx hb dX10_apart_176 rfl (lv_at hl 0 rfl) ?_
        obtain ⟨v29, h30, h⟩ := ob h
        refine xr_getI C0 W0 cl_X10 55 (by decide) fl_X10_341 rfl h30 dX10_apart_177 ?_
        refine lv_icmp_ne (tgt := 187) hx hb dX10_apart_180 (by decide) (fun hcq => ?_) (fun hcq => ?_)
        · have h := it_f hcq h
          refine lv_iload_n hx hb dX10_apart_187 rfl (lv_at hl 1 rfl) ?_
          exact xr_iret C0 W0 hret (Option.some.inj h) dX10_apart_188
        · have h := it_t hcq h
          refine lv_iconst (v := (-1)) hx hb dX10_apart_183 (by decide) ?_
          refine lv_goto (tgt := 188) hx hb dX10_apart_184 (by decide) ?_
          exact xr_iret C0 W0 hret (Option.some.inj h) dX10_apart_188
    · have h := it_t hcq h
      refine lv_bipush (v := (-2)) hx hb dX10_apart_21 (by decide) ?_
      exact xr_iret C0 W0 hret (Option.some.inj h) dX10_apart_23
def fX10_count_j47 (rec : Int32 → Int32 → XW → Option (Int32 × XW)) (l0 : Nat) (l1 : Int32) (l3 : Int32) (s0 : Int32) (s1 : Int32) (X : XW) : Option (Int32 × XW) :=
  rec (s1 + s0) (l3 + 1) X
def fX10_count_l16_b (rec : Int32 → Int32 → XW → Option (Int32 × XW)) (l0 : Nat) (l1 : Int32) (l2 : Int32) (l3 : Int32) (X : XW) : Option (Int32 × XW) :=
  gI X l0 10 29 >>= fun v1 =>
  if (((240 * v1) + 240) ≤ l3 : Prop) then (some (l2, X))
  else (gR X l0 10 37 >>= fun q3 =>
    aI X q3 1 l3 >>= fun v5 =>
    if (v5 < 0 : Prop) then (fX10_count_j47 rec l0 l1 l3 0 l2 X)
    else (fX10_count_j47 rec l0 l1 l3 1 l2 X))
def fX10_count_l16 (l0 : Nat) (l1 : Int32) (n : Nat) : Int32 → Int32 → XW → Option (Int32 × XW) := iter (fun rec => fX10_count_l16_b rec l0 l1) (fun _ _ _ => none) n
def fX10_count (l0 : Nat) (l1 : Int32) (X : XW) : Option (Int32 × XW) :=
  pI X l0 10 0 0 >>= fun X1 =>
  gI X1 l0 10 29 >>= fun v3 =>
  fX10_count_l16 l0 l1 FU 0 (240 * v3) X1 >>= fun r5 =>
  if l1 = 0 then (gI r5.2 l0 10 28 >>= fun v7 =>
    some (v7, r5.2))
  else (if l1 = 1 then (gI r5.2 l0 10 29 >>= fun v9 =>
    some (v9, r5.2))
  else (if l1 = 2 then (gR r5.2 l0 10 30 >>= fun q11 =>
    gI r5.2 l0 10 29 >>= fun v13 =>
    aI r5.2 q11 1 v13 >>= fun v15 =>
    some (v15, r5.2))
  else (if l1 = 3 then (gI r5.2 l0 10 29 >>= fun v17 =>
    gK r5.2 l0 10 >>= fun u19 =>
    fX10_soundsOf l0 v17 r5.2 >>= fun r21 =>
    some (r21.1, r21.2))
  else (if l1 = 4 then (gI r5.2 l0 10 10 >>= fun v23 =>
    some (v23, r5.2))
  else (if l1 = 5 then (gR r5.2 l0 10 14 >>= fun q25 =>
    gI r5.2 l0 10 10 >>= fun v27 =>
    aI r5.2 q25 1 v27 >>= fun v29 =>
    some (v29, r5.2))
  else (if l1 = 6 then (gI r5.2 l0 10 2 >>= fun v31 =>
    some (v31, r5.2))
  else (if l1 = 7 then (some (r5.1, r5.2))
  else (some ((-1), r5.2)))))))))
theorem tX10_count_j47 {p : Program} {l : Launch} {e : Env} {s : State} {m : MethodId} {args : Array Value} {below : List Frame} {meth : Method} {c : Code} {G : XG} {X0 : XW} (C0 : XC p s m args meth c RX10 cX10_count 4 G) (hret : meth.sig.returnType = (some .int)) {r : Int32 × XW} {l0 : Nat} {l1 : Int32} {Q : State → Prop} {rec : Int32 → Int32 → XW → Option (Int32 × XW)} (hrec : ∀ {y2 : Int32} {y3 : Int32} {X : XW} {H : Heap} {locs : List Loc} {ls : Array Slot}, XD G X0 X s H locs → lv_has ls 4 [(0, .ref l0), (1, .int l1), (2, .int y2), (3, .int y3)] → rec y2 y3 X = some r → W p l e { frames := 1, cells := 0, slots := 0, locals := 60 } s m args below meth c H locs 0 0 Q (F0 m 16 ls [])) (hK : ∀ {H : Heap} {locs : List Loc} {ls : Array Slot}, XD G X0 r.2 s H locs → lv_has ls 4 [(0, .ref l0), (1, .int l1), (2, .int r.1)] → W p l e { frames := 1, cells := 0, slots := 0, locals := 60 } s m args below meth c H locs 0 0 Q (F0 m 55 ls []))  {l3 : Int32} {s0 : Int32} {s1 : Int32} {X : XW} {H : Heap} {locs : List Loc} {ls : Array Slot} (W0 : XD G X0 X s H locs) (hl : lv_has ls 4 [(0, .ref l0), (1, .int l1), (3, .int l3)]) (h : fX10_count_j47 rec l0 l1 l3 s0 s1 X = some r) : W p l e { frames := 1, cells := 0, slots := 0, locals := 60 } s m args below meth c H locs 0 0 Q (F0 m 47 ls [.int s0, .int s1]) := by
  have hx := C0.1
  have hb := C0.2.1
  unfold fX10_count_j47 at h
  refine lv_iadd hx hb dX10_count_47 ?_
  refine lv_istore_n (lv' := [(2, .int (s1 + s0)), (0, .ref l0), (1, .int l1), (3, .int l3)]) hx hb dX10_count_48 rfl hl (by decide) rfl (fun ls hl => ?_)
  refine lv_iinc (v := (l3 + 1)) (lv' := [(3, .int (l3 + 1)), (2, .int (s1 + s0)), (0, .ref l0), (1, .int l1)]) hx hb dX10_count_49 hl (k := 3) rfl (ii (by decide)) (by decide) rfl (fun ls hl => ?_)
  refine lv_goto (tgt := 16) hx hb dX10_count_52 (by decide) ?_
  exact hrec W0 (lv_sub hl [2, 3, 1, 0] rfl) h
theorem tX10_count_l16_b {p : Program} {l : Launch} {e : Env} {s : State} {m : MethodId} {args : Array Value} {below : List Frame} {meth : Method} {c : Code} {G : XG} {X0 : XW} (C0 : XC p s m args meth c RX10 cX10_count 4 G) (hret : meth.sig.returnType = (some .int)) {r : Int32 × XW} {l0 : Nat} {l1 : Int32} {Q : State → Prop} {rec : Int32 → Int32 → XW → Option (Int32 × XW)} (hrec : ∀ {y2 : Int32} {y3 : Int32} {X : XW} {H : Heap} {locs : List Loc} {ls : Array Slot}, XD G X0 X s H locs → lv_has ls 4 [(0, .ref l0), (1, .int l1), (2, .int y2), (3, .int y3)] → rec y2 y3 X = some r → W p l e { frames := 1, cells := 0, slots := 0, locals := 60 } s m args below meth c H locs 0 0 Q (F0 m 16 ls [])) (hK : ∀ {H : Heap} {locs : List Loc} {ls : Array Slot}, XD G X0 r.2 s H locs → lv_has ls 4 [(0, .ref l0), (1, .int l1), (2, .int r.1)] → W p l e { frames := 1, cells := 0, slots := 0, locals := 60 } s m args below meth c H locs 0 0 Q (F0 m 55 ls []))  {l2 : Int32} {l3 : Int32} {X : XW} {H : Heap} {locs : List Loc} {ls : Array Slot} (W0 : XD G X0 X s H locs) (hl : lv_has ls 4 [(0, .ref l0), (1, .int l1), (2, .int l2), (3, .int l3)]) (h : fX10_count_l16_b rec l0 l1 l2 l3 X = some r) : W p l e { frames := 1, cells := 0, slots := 0, locals := 60 } s m args below meth c H locs 0 0 Q (F0 m 16 ls []) := by
  have hx := C0.1
  have hb := C0.2.1
  unfold fX10_count_l16_b at h
  refine lv_iload_n hx hb dX10_count_16 rfl (lv_at hl 3 rfl) ?_
  refine lv_sipush (v := 240) hx hb dX10_count_17 (by decide) ?_
  refine lv_aload_n hx hb dX10_count_20 rfl (lv_at hl 0 rfl) ?_
  obtain ⟨v1, h2, h⟩ := ob h
  refine xr_getI C0 W0 cl_X10 29 (by decide) fl_X10_283 rfl h2 dX10_count_21 ?_
  refine lv_imul hx hb dX10_count_24 ?_
  refine lv_sipush (v := 240) hx hb dX10_count_25 (by decide) ?_
  refine lv_iadd hx hb dX10_count_28 ?_
  refine lv_icmp_ge (tgt := 55) hx hb dX10_count_29 (by decide) (fun hcq => ?_) (fun hcq => ?_)
  · have h := it_t hcq h
    cases h
    exact hK W0 (lv_sub hl [0, 1, 2] rfl)
  · have h := it_f hcq h
    refine lv_iload_n hx hb dX10_count_32 rfl (lv_at hl 2 rfl) ?_
    refine lv_aload_n hx hb dX10_count_33 rfl (lv_at hl 0 rfl) ?_
    obtain ⟨q3, h4, h⟩ := ob h
    refine xr_getR C0 W0 cl_X10 37 (by decide) fl_X10_141 rfl h4 dX10_count_34 ?_
    refine lv_iload_n hx hb dX10_count_37 rfl (lv_at hl 3 rfl) ?_
    obtain ⟨v5, h6, h⟩ := ob h
    refine xr_iald C0 W0 h6 dX10_count_38 ?_
    refine lv_if_lt (tgt := 46) hx hb dX10_count_39 (by decide) (fun hcq => ?_) (fun hcq => ?_)
    · have h := it_t hcq h
      refine lv_iconst (v := 0) hx hb dX10_count_46 (by decide) ?_
      exact tX10_count_j47 C0 hret hrec hK W0 (lv_sub hl [0, 1, 3] rfl) h
    · have h := it_f hcq h
      refine lv_iconst (v := 1) hx hb dX10_count_42 (by decide) ?_
      refine lv_goto (tgt := 47) hx hb dX10_count_43 (by decide) ?_
      exact tX10_count_j47 C0 hret hrec hK W0 (lv_sub hl [0, 1, 3] rfl) h
theorem tX10_count_l16 {p : Program} {l : Launch} {e : Env} {s : State} {m : MethodId} {args : Array Value} {below : List Frame} {meth : Method} {c : Code} {G : XG} {X0 : XW} (C0 : XC p s m args meth c RX10 cX10_count 4 G) (hret : meth.sig.returnType = (some .int)) {r : Int32 × XW} {l0 : Nat} {l1 : Int32} {Q : State → Prop} (hK : ∀ {H : Heap} {locs : List Loc} {ls : Array Slot}, XD G X0 r.2 s H locs → lv_has ls 4 [(0, .ref l0), (1, .int l1), (2, .int r.1)] → W p l e { frames := 1, cells := 0, slots := 0, locals := 60 } s m args below meth c H locs 0 0 Q (F0 m 55 ls [])) : ∀ (n : Nat) {y2 : Int32} {y3 : Int32} {X : XW} {H : Heap} {locs : List Loc} {ls : Array Slot}, XD G X0 X s H locs → lv_has ls 4 [(0, .ref l0), (1, .int l1), (2, .int y2), (3, .int y3)] → fX10_count_l16 l0 l1 n y2 y3 X = some r → W p l e { frames := 1, cells := 0, slots := 0, locals := 60 } s m args below meth c H locs 0 0 Q (F0 m 16 ls []) := by
  intro n
  induction n with
  | zero =>
    intro y2 y3 X H locs ls W0 hl h
    cases h
  | succ n ih =>
    intro y2 y3 X H locs ls W0 hl h
    exact tX10_count_l16_b C0 hret (rec := fX10_count_l16 l0 l1 n) (fun W0 hl h => ih W0 hl h) hK W0 hl h
theorem ctX10_count (l : Launch) (G : XG) {l0 : Nat} {l1 : Int32} {X : XW} {r : Int32 × XW}  (h : fX10_count l0 l1 X = some r) : XM l G yX10_count cX10_count 4 (some .int) 1 60 0 0 [.ref l0, .int l1] X (some (.int r.1), r.2) := by
  refine xm_of (own := RX10) (by decide) rfl (Nat.le_of_ble_eq_true rfl) ?_
  intro p e s m below meth c ls C0 W0 hret hnm hl
  have hx := C0.1
  have hb := C0.2.1
  have hl : lv_has ls 4 [(0, .ref l0), (1, .int l1)] := hl
  unfold fX10_count at h
  refine lv_aload_n hx hb dX10_count_0 rfl (lv_at hl 0 rfl) ?_
  refine lv_iconst (v := 0) hx hb dX10_count_1 (by decide) ?_
  obtain ⟨X1, h2, h⟩ := ob h
  refine xr_putI C0 W0 cl_X10 0 (by decide) fl_X10_1 rfl rfl rfl (by decide) h2 dX10_count_2 (fun H locs W0 => ?_)
  refine lv_iconst (v := 0) hx hb dX10_count_5 (by decide) ?_
  refine lv_istore_n (lv' := [(2, .int 0), (0, .ref l0), (1, .int l1)]) hx hb dX10_count_6 rfl hl (by decide) rfl (fun ls hl => ?_)
  refine lv_sipush (v := 240) hx hb dX10_count_7 (by decide) ?_
  refine lv_aload_n hx hb dX10_count_10 rfl (lv_at hl 1 rfl) ?_
  obtain ⟨v3, h4, h⟩ := ob h
  refine xr_getI C0 W0 cl_X10 29 (by decide) fl_X10_283 rfl h4 dX10_count_11 ?_
  refine lv_imul hx hb dX10_count_14 ?_
  refine lv_istore_n (lv' := [(3, .int (240 * v3)), (2, .int 0), (0, .ref l0), (1, .int l1)]) hx hb dX10_count_15 rfl hl (by decide) rfl (fun ls hl => ?_)
  obtain ⟨r5, h6, h⟩ := ob h
  refine tX10_count_l16 C0 hret (fun {H} {locs} {ls} W0 hl => ?_) FU W0 (lv_sub hl [2, 3, 1, 0] rfl) h6
  refine lv_iload_n hx hb dX10_count_55 rfl (lv_at hl 1 rfl) ?_
  by_cases c : l1 = 0
  · have h := it_t c h
    refine lv_tableIn (tgt := 104) hx hb dX10_count_56 (by rw [c]; decide) (by rw [c]; decide) (by rw [c]; rfl) (by decide) ?_
    refine lv_aload_n hx hb dX10_count_104 rfl (lv_at hl 0 rfl) ?_
    obtain ⟨v7, h8, h⟩ := ob h
    refine xr_getI C0 W0 cl_X10 28 (by decide) fl_X10_117 rfl h8 dX10_count_105 ?_
    exact xr_iret C0 W0 hret (Option.some.inj h) dX10_count_108
  have h := it_f c h
  have cn0 := lv_neT c (show (0 : Int32).toInt = 0 by decide)
  by_cases c : l1 = 1
  · have h := it_t c h
    refine lv_tableIn (tgt := 109) hx hb dX10_count_56 (by rw [c]; decide) (by rw [c]; decide) (by rw [c]; rfl) (by decide) ?_
    refine lv_aload_n hx hb dX10_count_109 rfl (lv_at hl 0 rfl) ?_
    obtain ⟨v9, h10, h⟩ := ob h
    refine xr_getI C0 W0 cl_X10 29 (by decide) fl_X10_283 rfl h10 dX10_count_110 ?_
    exact xr_iret C0 W0 hret (Option.some.inj h) dX10_count_113
  have h := it_f c h
  have cn1 := lv_neT c (show (1 : Int32).toInt = 1 by decide)
  by_cases c : l1 = 2
  · have h := it_t c h
    refine lv_tableIn (tgt := 114) hx hb dX10_count_56 (by rw [c]; decide) (by rw [c]; decide) (by rw [c]; rfl) (by decide) ?_
    refine lv_aload_n hx hb dX10_count_114 rfl (lv_at hl 0 rfl) ?_
    obtain ⟨q11, h12, h⟩ := ob h
    refine xr_getR C0 W0 cl_X10 30 (by decide) fl_X10_120 rfl h12 dX10_count_115 ?_
    refine lv_aload_n hx hb dX10_count_118 rfl (lv_at hl 0 rfl) ?_
    obtain ⟨v13, h14, h⟩ := ob h
    refine xr_getI C0 W0 cl_X10 29 (by decide) fl_X10_283 rfl h14 dX10_count_119 ?_
    obtain ⟨v15, h16, h⟩ := ob h
    refine xr_iald C0 W0 h16 dX10_count_122 ?_
    exact xr_iret C0 W0 hret (Option.some.inj h) dX10_count_123
  have h := it_f c h
  have cn2 := lv_neT c (show (2 : Int32).toInt = 2 by decide)
  by_cases c : l1 = 3
  · have h := it_t c h
    refine lv_tableIn (tgt := 124) hx hb dX10_count_56 (by rw [c]; decide) (by rw [c]; decide) (by rw [c]; rfl) (by decide) ?_
    refine lv_aload_n hx hb dX10_count_124 rfl (lv_at hl 0 rfl) ?_
    refine lv_aload_n hx hb dX10_count_125 rfl (lv_at hl 0 rfl) ?_
    obtain ⟨v17, h18, h⟩ := ob h
    refine xr_getI C0 W0 cl_X10 29 (by decide) fl_X10_283 rfl h18 dX10_count_126 ?_
    obtain ⟨u19, h20, h⟩ := ob h
    obtain ⟨r21, h22, h⟩ := ob h
    refine xr_V (As := [.int v17]) (rest := []) C0 W0 (ctX10_soundsOf l G h22) (gK_of h20) (rr := (RX10, TX10, 57)) rfl rfl mc_X10_soundsOf mv_X10_soundsOf ml_X10_293 ⟨by decide, by decide⟩ rfl hl.1 rfl (Nat.le_of_ble_eq_true rfl) ⟨by decide, by decide⟩ dX10_count_129 (fun H locs W0 => ?_)
    refine W.cs (cells' := 0) (slots' := 0) rfl rfl ?_
    refine W.eq (g2 := F0 m 132 ls [.int r21.1]) rfl ?_
    exact xr_iret C0 W0 hret (Option.some.inj h) dX10_count_132
  have h := it_f c h
  have cn3 := lv_neT c (show (3 : Int32).toInt = 3 by decide)
  by_cases c : l1 = 4
  · have h := it_t c h
    refine lv_tableIn (tgt := 133) hx hb dX10_count_56 (by rw [c]; decide) (by rw [c]; decide) (by rw [c]; rfl) (by decide) ?_
    refine lv_aload_n hx hb dX10_count_133 rfl (lv_at hl 0 rfl) ?_
    obtain ⟨v23, h24, h⟩ := ob h
    refine xr_getI C0 W0 cl_X10 10 (by decide) fl_X10_246 rfl h24 dX10_count_134 ?_
    exact xr_iret C0 W0 hret (Option.some.inj h) dX10_count_137
  have h := it_f c h
  have cn4 := lv_neT c (show (4 : Int32).toInt = 4 by decide)
  by_cases c : l1 = 5
  · have h := it_t c h
    refine lv_tableIn (tgt := 138) hx hb dX10_count_56 (by rw [c]; decide) (by rw [c]; decide) (by rw [c]; rfl) (by decide) ?_
    refine lv_aload_n hx hb dX10_count_138 rfl (lv_at hl 0 rfl) ?_
    obtain ⟨q25, h26, h⟩ := ob h
    refine xr_getR C0 W0 cl_X10 14 (by decide) fl_X10_80 rfl h26 dX10_count_139 ?_
    refine lv_aload_n hx hb dX10_count_142 rfl (lv_at hl 0 rfl) ?_
    obtain ⟨v27, h28, h⟩ := ob h
    refine xr_getI C0 W0 cl_X10 10 (by decide) fl_X10_246 rfl h28 dX10_count_143 ?_
    obtain ⟨v29, h30, h⟩ := ob h
    refine xr_iald C0 W0 h30 dX10_count_146 ?_
    exact xr_iret C0 W0 hret (Option.some.inj h) dX10_count_147
  have h := it_f c h
  have cn5 := lv_neT c (show (5 : Int32).toInt = 5 by decide)
  by_cases c : l1 = 6
  · have h := it_t c h
    refine lv_tableIn (tgt := 148) hx hb dX10_count_56 (by rw [c]; decide) (by rw [c]; decide) (by rw [c]; rfl) (by decide) ?_
    refine lv_aload_n hx hb dX10_count_148 rfl (lv_at hl 0 rfl) ?_
    obtain ⟨v31, h32, h⟩ := ob h
    refine xr_getI C0 W0 cl_X10 2 (by decide) fl_X10_11 rfl h32 dX10_count_149 ?_
    exact xr_iret C0 W0 hret (Option.some.inj h) dX10_count_152
  have h := it_f c h
  have cn6 := lv_neT c (show (6 : Int32).toInt = 6 by decide)
  by_cases c : l1 = 7
  · have h := it_t c h
    refine lv_tableIn (tgt := 153) hx hb dX10_count_56 (by rw [c]; decide) (by rw [c]; decide) (by rw [c]; rfl) (by decide) ?_
    refine lv_iload_n hx hb dX10_count_153 rfl (lv_at hl 2 rfl) ?_
    exact xr_iret C0 W0 hret (Option.some.inj h) dX10_count_154
  have h := it_f c h
  have cn7 := lv_neT c (show (7 : Int32).toInt = 7 by decide)
  refine lv_tableOut (tgt := 155) hx hb dX10_count_56 (by omega) (by decide) ?_
  refine lv_iconst (v := (-1)) hx hb dX10_count_155 (by decide) ?_
  exact xr_iret C0 W0 hret (Option.some.inj h) dX10_count_156
