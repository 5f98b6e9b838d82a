def fX10_keeps_l2_b (rec : Int32 → XW → Option (XW)) (l0 : Nat) (l1 : Int32) (X : XW) : Option (XW) :=
  if (24 ≤ l1 : Prop) then (some (X))
  else (gR X l0 10 15 >>= fun q1 =>
    gI X l0 10 10 >>= fun v3 =>
    gR X l0 10 15 >>= fun q5 =>
    aI X q5 3 (96 + l1) >>= fun v7 =>
    uZ X q1 ((24 * v3) + l1) v7 >>= fun X9 =>
    gR X9 l0 10 16 >>= fun q11 =>
    gI X9 l0 10 10 >>= fun v13 =>
    gR X9 l0 10 16 >>= fun q15 =>
    aI X9 q15 1 (96 + l1) >>= fun v17 =>
    uI X9 q11 ((24 * v13) + l1) v17 >>= fun X19 =>
    gR X19 l0 10 17 >>= fun q21 =>
    gI X19 l0 10 10 >>= fun v23 =>
    gR X19 l0 10 17 >>= fun q25 =>
    aI X19 q25 1 (96 + l1) >>= fun v27 =>
    uI X19 q21 ((24 * v23) + l1) v27 >>= fun X29 =>
    gR X29 l0 10 18 >>= fun q31 =>
    gI X29 l0 10 10 >>= fun v33 =>
    gR X29 l0 10 18 >>= fun q35 =>
    aI X29 q35 1 (96 + l1) >>= fun v37 =>
    uI X29 q31 ((24 * v33) + l1) v37 >>= fun X39 =>
    rec (l1 + 1) X39)
def fX10_keeps_l2 (l0 : Nat) (n : Nat) : Int32 → XW → Option (XW) := iter (fun rec => fX10_keeps_l2_b rec l0) (fun _ _ => none) n
def fX10_keeps_l108_b (rec : Int32 → XW → Option (XW)) (l0 : Nat) (l1 : Int32) (X : XW) : Option (XW) :=
  gI X l0 10 21 >>= fun v1 =>
  if (v1 ≤ l1 : Prop) then (some (X))
  else (gR X l0 10 19 >>= fun q3 =>
    gI X l0 10 10 >>= fun v5 =>
    gR X l0 10 19 >>= fun q7 =>
    aI X q7 1 (4240 + l1) >>= fun v9 =>
    uI X q3 ((1060 * v5) + l1) v9 >>= fun X11 =>
    gR X11 l0 10 20 >>= fun q13 =>
    gI X11 l0 10 10 >>= fun v15 =>
    gR X11 l0 10 20 >>= fun q17 =>
    aI X11 q17 1 (4240 + l1) >>= fun v19 =>
    uI X11 q13 ((1060 * v15) + l1) v19 >>= fun X21 =>
    rec (l1 + 1) X21)
def fX10_keeps_l108 (l0 : Nat) (n : Nat) : Int32 → XW → Option (XW) := iter (fun rec => fX10_keeps_l108_b rec l0) (fun _ _ => none) n
def fX10_keeps (l0 : Nat) (X : XW) : Option (XW) :=
  fX10_keeps_l2 l0 FU 0 X >>= fun r1 =>
  fX10_keeps_l108 l0 FU 0 r1 >>= fun r3 =>
  gR r3 l0 10 14 >>= fun q5 =>
  gI r3 l0 10 10 >>= fun v7 =>
  gR r3 l0 10 14 >>= fun q9 =>
  aI r3 q9 1 4 >>= fun v11 =>
  uI r3 q5 v7 v11 >>= fun X13 =>
  some X13
theorem tX10_keeps_l2_b {p : Program} {l : Launch} {e : Env} {s : State} {m : MethodId} {args : Array Value} {below : List Frame} {meth : Method} {c : Code} {G : XG} {X0 : XW} (C0 : XC p s m args meth c RX10 cX10_keeps 2 G) (hret : meth.sig.returnType = none) {r : XW} {l0 : Nat} {Q : State → Prop} {rec : Int32 → XW → Option (XW)} (hrec : ∀ {y1 : Int32} {X : XW} {H : Heap} {locs : List Loc} {ls : Array Slot}, XD G X0 X s H locs → lv_has ls 2 [(0, .ref l0), (1, .int y1)] → rec y1 X = some r → W p l e { frames := 0, cells := 0, slots := 0, locals := 0 } s m args below meth c H locs 0 0 Q (F0 m 2 ls [])) (hK : ∀ {H : Heap} {locs : List Loc} {ls : Array Slot}, XD G X0 r s H locs → lv_has ls 2 [(0, .ref l0)] → W p l e { frames := 0, cells := 0, slots := 0, locals := 0 } s m args below meth c H locs 0 0 Q (F0 m 106 ls []))  {l1 : Int32} {X : XW} {H : Heap} {locs : List Loc} {ls : Array Slot} (W0 : XD G X0 X s H locs) (hl : lv_has ls 2 [(0, .ref l0), (1, .int l1)]) (h : fX10_keeps_l2_b rec l0 l1 X = some r) : W p l e { frames := 0, cells := 0, slots := 0, locals := 0 } s m args below meth c H locs 0 0 Q (F0 m 2 ls []) := by
  have hx := C0.1
  have hb := C0.2.1
  unfold fX10_keeps_l2_b at h
  refine lv_iload_n hx hb dX10_keeps_2 rfl (lv_at hl 1 rfl) ?_
  refine lv_bipush (v := 24) hx hb dX10_keeps_3 (by decide) ?_
  refine lv_icmp_ge (tgt := 106) hx hb dX10_keeps_5 (by decide) (fun hcq => ?_) (fun hcq => ?_)
  · have h := it_t hcq h
    cases h
    exact hK W0 (lv_sub hl [0] rfl)
  · have h := it_f hcq h
    refine lv_aload_n hx hb dX10_keeps_8 rfl (lv_at hl 0 rfl) ?_
    obtain ⟨q1, h2, h⟩ := ob h
    refine xr_getR C0 W0 cl_X10 15 (by decide) fl_X10_83 rfl h2 dX10_keeps_9 ?_
    refine lv_bipush (v := 24) hx hb dX10_keeps_12 (by decide) ?_
    refine lv_aload_n hx hb dX10_keeps_14 rfl (lv_at hl 0 rfl) ?_
    obtain ⟨v3, h4, h⟩ := ob h
    refine xr_getI C0 W0 cl_X10 10 (by decide) fl_X10_246 rfl h4 dX10_keeps_15 ?_
    refine lv_imul hx hb dX10_keeps_18 ?_
    refine lv_iload_n hx hb dX10_keeps_19 rfl (lv_at hl 1 rfl) ?_
    refine lv_iadd hx hb dX10_keeps_20 ?_
    refine lv_aload_n hx hb dX10_keeps_21 rfl (lv_at hl 0 rfl) ?_
    obtain ⟨q5, h6, h⟩ := ob h
    refine xr_getR C0 W0 cl_X10 15 (by decide) fl_X10_83 rfl h6 dX10_keeps_22 ?_
    refine lv_bipush (v := 96) hx hb dX10_keeps_25 (by decide) ?_
    refine lv_iload_n hx hb dX10_keeps_27 rfl (lv_at hl 1 rfl) ?_
    refine lv_iadd hx hb dX10_keeps_28 ?_
    obtain ⟨v7, h8, h⟩ := ob h
    refine xr_zald C0 W0 h8 dX10_keeps_29 ?_
    obtain ⟨X9, h10, h⟩ := ob h
    refine xr_zast C0 W0 h10 dX10_keeps_30 (fun H locs W0 => ?_)
    refine lv_aload_n hx hb dX10_keeps_31 rfl (lv_at hl 0 rfl) ?_
    obtain ⟨q11, h12, h⟩ := ob h
    refine xr_getR C0 W0 cl_X10 16 (by decide) fl_X10_87 rfl h12 dX10_keeps_32 ?_
    refine lv_bipush (v := 24) hx hb dX10_keeps_35 (by decide) ?_
    refine lv_aload_n hx hb dX10_keeps_37 rfl (lv_at hl 0 rfl) ?_
    obtain ⟨v13, h14, h⟩ := ob h
    refine xr_getI C0 W0 cl_X10 10 (by decide) fl_X10_246 rfl h14 dX10_keeps_38 ?_
    refine lv_imul hx hb dX10_keeps_41 ?_
    refine lv_iload_n hx hb dX10_keeps_42 rfl (lv_at hl 1 rfl) ?_
    refine lv_iadd hx hb dX10_keeps_43 ?_
    refine lv_aload_n hx hb dX10_keeps_44 rfl (lv_at hl 0 rfl) ?_
    obtain ⟨q15, h16, h⟩ := ob h
    refine xr_getR C0 W0 cl_X10 16 (by decide) fl_X10_87 rfl h16 dX10_keeps_45 ?_
    refine lv_bipush (v := 96) hx hb dX10_keeps_48 (by decide) ?_
    refine lv_iload_n hx hb dX10_keeps_50 rfl (lv_at hl 1 rfl) ?_
    refine lv_iadd hx hb dX10_keeps_51 ?_
    obtain ⟨v17, h18, h⟩ := ob h
    refine xr_iald C0 W0 h18 dX10_keeps_52 ?_
    obtain ⟨X19, h20, h⟩ := ob h
    refine xr_iast C0 W0 h20 dX10_keeps_53 (fun H locs W0 => ?_)
    refine lv_aload_n hx hb dX10_keeps_54 rfl (lv_at hl 0 rfl) ?_
    obtain ⟨q21, h22, h⟩ := ob h
    refine xr_getR C0 W0 cl_X10 17 (by decide) fl_X10_90 rfl h22 dX10_keeps_55 ?_
    refine lv_bipush (v := 24) hx hb dX10_keeps_58 (by decide) ?_
    refine lv_aload_n hx hb dX10_keeps_60 rfl (lv_at hl 0 rfl) ?_
    obtain ⟨v23, h24, h⟩ := ob h
    refine xr_getI C0 W0 cl_X10 10 (by decide) fl_X10_246 rfl h24 dX10_keeps_61 ?_
    refine lv_imul hx hb dX10_keeps_64 ?_
    refine lv_iload_n hx hb dX10_keeps_65 rfl (lv_at hl 1 rfl) ?_
    refine lv_iadd hx hb dX10_keeps_66 ?_
    refine lv_aload_n hx hb dX10_keeps_67 rfl (lv_at hl 0 rfl) ?_
    obtain ⟨q25, h26, h⟩ := ob h
    refine xr_getR C0 W0 cl_X10 17 (by decide) fl_X10_90 rfl h26 dX10_keeps_68 ?_
    refine lv_bipush (v := 96) hx hb dX10_keeps_71 (by decide) ?_
    refine lv_iload_n hx hb dX10_keeps_73 rfl (lv_at hl 1 rfl) ?_
    refine lv_iadd hx hb dX10_keeps_74 ?_
    obtain ⟨v27, h28, h⟩ := ob h
    refine xr_iald C0 W0 h28 dX10_keeps_75 ?_
    obtain ⟨X29, h30, h⟩ := ob h
    refine xr_iast C0 W0 h30 dX10_keeps_76 (fun H locs W0 => ?_)
    refine lv_aload_n hx hb dX10_keeps_77 rfl (lv_at hl 0 rfl) ?_
    obtain ⟨q31, h32, h⟩ := ob h
    refine xr_getR C0 W0 cl_X10 18 (by decide) fl_X10_93 rfl h32 dX10_keeps_78 ?_
    refine lv_bipush (v := 24) hx hb dX10_keeps_81 (by decide) ?_
    refine lv_aload_n hx hb dX10_keeps_83 rfl (lv_at hl 0 rfl) ?_
    obtain ⟨v33, h34, h⟩ := ob h
    refine xr_getI C0 W0 cl_X10 10 (by decide) fl_X10_246 rfl h34 dX10_keeps_84 ?_
    refine lv_imul hx hb dX10_keeps_87 ?_
    refine lv_iload_n hx hb dX10_keeps_88 rfl (lv_at hl 1 rfl) ?_
    refine lv_iadd hx hb dX10_keeps_89 ?_
    refine lv_aload_n hx hb dX10_keeps_90 rfl (lv_at hl 0 rfl) ?_
    obtain ⟨q35, h36, h⟩ := ob h
    refine xr_getR C0 W0 cl_X10 18 (by decide) fl_X10_93 rfl h36 dX10_keeps_91 ?_
    refine lv_bipush (v := 96) hx hb dX10_keeps_94 (by decide) ?_
    refine lv_iload_n hx hb dX10_keeps_96 rfl (lv_at hl 1 rfl) ?_
    refine lv_iadd hx hb dX10_keeps_97 ?_
    obtain ⟨v37, h38, h⟩ := ob h
    refine xr_iald C0 W0 h38 dX10_keeps_98 ?_
    obtain ⟨X39, h40, h⟩ := ob h
    refine xr_iast C0 W0 h40 dX10_keeps_99 (fun H locs W0 => ?_)
    refine lv_iinc (v := (l1 + 1)) (lv' := [(1, .int (l1 + 1)), (0, .ref l0)]) hx hb dX10_keeps_100 hl (k := 1) rfl (ii (by decide)) (by decide) rfl (fun ls hl => ?_)
    refine lv_goto (tgt := 2) hx hb dX10_keeps_103 (by decide) ?_
    exact hrec W0 (lv_sub hl [1, 0] rfl) h
theorem tX10_keeps_l2 {p : Program} {l : Launch} {e : Env} {s : State} {m : MethodId} {args : Array Value} {below : List Frame} {meth : Method} {c : Code} {G : XG} {X0 : XW} (C0 : XC p s m args meth c RX10 cX10_keeps 2 G) (hret : meth.sig.returnType = none) {r : XW} {l0 : Nat} {Q : State → Prop} (hK : ∀ {H : Heap} {locs : List Loc} {ls : Array Slot}, XD G X0 r s H locs → lv_has ls 2 [(0, .ref l0)] → W p l e { frames := 0, cells := 0, slots := 0, locals := 0 } s m args below meth c H locs 0 0 Q (F0 m 106 ls [])) : ∀ (n : Nat) {y1 : Int32} {X : XW} {H : Heap} {locs : List Loc} {ls : Array Slot}, XD G X0 X s H locs → lv_has ls 2 [(0, .ref l0), (1, .int y1)] → fX10_keeps_l2 l0 n y1 X = some r → W p l e { frames := 0, cells := 0, slots := 0, locals := 0 } s m args below meth c H locs 0 0 Q (F0 m 2 ls []) := by
  intro n
  induction n with
  | zero =>
    intro y1 X H locs ls W0 hl h
    cases h
  | succ n ih =>
    intro y1 X H locs ls W0 hl h
    exact tX10_keeps_l2_b C0 hret (rec := fX10_keeps_l2 l0 n) (fun W0 hl h => ih W0 hl h) hK W0 hl h
theorem tX10_keeps_l108_b {p : Program} {l : Launch} {e : Env} {s : State} {m : MethodId} {args : Array Value} {below : List Frame} {meth : Method} {c : Code} {G : XG} {X0 : XW} (C0 : XC p s m args meth c RX10 cX10_keeps 2 G) (hret : meth.sig.returnType = none) {r : XW} {l0 : Nat} {Q : State → Prop} {rec : Int32 → XW → Option (XW)} (hrec : ∀ {y1 : Int32} {X : XW} {H : Heap} {locs : List Loc} {ls : Array Slot}, XD G X0 X s H locs → lv_has ls 2 [(0, .ref l0), (1, .int y1)] → rec y1 X = some r → W p l e { frames := 0, cells := 0, slots := 0, locals := 0 } s m args below meth c H locs 0 0 Q (F0 m 108 ls [])) (hK : ∀ {H : Heap} {locs : List Loc} {ls : Array Slot}, XD G X0 r s H locs → lv_has ls 2 [(0, .ref l0)] → W p l e { frames := 0, cells := 0, slots := 0, locals := 0 } s m args below meth c H locs 0 0 Q (F0 m 172 ls []))  {l1 : Int32} {X : XW} {H : Heap} {locs : List Loc} {ls : Array Slot} (W0 : XD G X0 X s H locs) (hl : lv_has ls 2 [(0, .ref l0), (1, .int l1)]) (h : fX10_keeps_l108_b rec l0 l1 X = some r) : W p l e { frames := 0, cells := 0, slots := 0, locals := 0 } s m args below meth c H locs 0 0 Q (F0 m 108 ls []) := by
  have hx := C0.1
  have hb := C0.2.1
  unfold fX10_keeps_l108_b at h
  refine lv_iload_n hx hb dX10_keeps_108 rfl (lv_at hl 1 rfl) ?_
  refine lv_aload_n hx hb dX10_keeps_109 rfl (lv_at hl 0 rfl) ?_
  obtain ⟨v1, h2, h⟩ := ob h
  refine xr_getI C0 W0 cl_X10 21 (by decide) fl_X10_234 rfl h2 dX10_keeps_110 ?_
  refine lv_icmp_ge (tgt := 172) hx hb dX10_keeps_113 (by decide) (fun hcq => ?_) (fun hcq => ?_)
  · have h := it_t hcq h
    cases h
    exact hK W0 (lv_sub hl [0] rfl)
  · have h := it_f hcq h
    refine lv_aload_n hx hb dX10_keeps_116 rfl (lv_at hl 0 rfl) ?_
    obtain ⟨q3, h4, h⟩ := ob h
    refine xr_getR C0 W0 cl_X10 19 (by decide) fl_X10_96 rfl h4 dX10_keeps_117 ?_
    refine lv_sipush (v := 1060) hx hb dX10_keeps_120 (by decide) ?_
    refine lv_aload_n hx hb dX10_keeps_123 rfl (lv_at hl 0 rfl) ?_
    obtain ⟨v5, h6, h⟩ := ob h
    refine xr_getI C0 W0 cl_X10 10 (by decide) fl_X10_246 rfl h6 dX10_keeps_124 ?_
    refine lv_imul hx hb dX10_keeps_127 ?_
    refine lv_iload_n hx hb dX10_keeps_128 rfl (lv_at hl 1 rfl) ?_
    refine lv_iadd hx hb dX10_keeps_129 ?_
    refine lv_aload_n hx hb dX10_keeps_130 rfl (lv_at hl 0 rfl) ?_
    obtain ⟨q7, h8, h⟩ := ob h
    refine xr_getR C0 W0 cl_X10 19 (by decide) fl_X10_96 rfl h8 dX10_keeps_131 ?_
    refine lv_sipush (v := 4240) hx hb dX10_keeps_134 (by decide) ?_
    refine lv_iload_n hx hb dX10_keeps_137 rfl (lv_at hl 1 rfl) ?_
    refine lv_iadd hx hb dX10_keeps_138 ?_
    obtain ⟨v9, h10, h⟩ := ob h
    refine xr_iald C0 W0 h10 dX10_keeps_139 ?_
    obtain ⟨X11, h12, h⟩ := ob h
    refine xr_iast C0 W0 h12 dX10_keeps_140 (fun H locs W0 => ?_)
    refine lv_aload_n hx hb dX10_keeps_141 rfl (lv_at hl 0 rfl) ?_
    obtain ⟨q13, h14, h⟩ := ob h
    refine xr_getR C0 W0 cl_X10 20 (by decide) fl_X10_99 rfl h14 dX10_keeps_142 ?_
    refine lv_sipush (v := 1060) hx hb dX10_keeps_145 (by decide) ?_
    refine lv_aload_n hx hb dX10_keeps_148 rfl (lv_at hl 0 rfl) ?_
    obtain ⟨v15, h16, h⟩ := ob h
    refine xr_getI C0 W0 cl_X10 10 (by decide) fl_X10_246 rfl h16 dX10_keeps_149 ?_
    refine lv_imul hx hb dX10_keeps_152 ?_
    refine lv_iload_n hx hb dX10_keeps_153 rfl (lv_at hl 1 rfl) ?_
    refine lv_iadd hx hb dX10_keeps_154 ?_
    refine lv_aload_n hx hb dX10_keeps_155 rfl (lv_at hl 0 rfl) ?_
    obtain ⟨q17, h18, h⟩ := ob h
    refine xr_getR C0 W0 cl_X10 20 (by decide) fl_X10_99 rfl h18 dX10_keeps_156 ?_
    refine lv_sipush (v := 4240) hx hb dX10_keeps_159 (by decide) ?_
    refine lv_iload_n hx hb dX10_keeps_162 rfl (lv_at hl 1 rfl) ?_
    refine lv_iadd hx hb dX10_keeps_163 ?_
    obtain ⟨v19, h20, h⟩ := ob h
    refine xr_iald C0 W0 h20 dX10_keeps_164 ?_
    obtain ⟨X21, h22, h⟩ := ob h
    refine xr_iast C0 W0 h22 dX10_keeps_165 (fun H locs W0 => ?_)
    refine lv_iinc (v := (l1 + 1)) (lv' := [(1, .int (l1 + 1)), (0, .ref l0)]) hx hb dX10_keeps_166 hl (k := 1) rfl (ii (by decide)) (by decide) rfl (fun ls hl => ?_)
    refine lv_goto (tgt := 108) hx hb dX10_keeps_169 (by decide) ?_
    exact hrec W0 (lv_sub hl [1, 0] rfl) h
theorem tX10_keeps_l108 {p : Program} {l : Launch} {e : Env} {s : State} {m : MethodId} {args : Array Value} {below : List Frame} {meth : Method} {c : Code} {G : XG} {X0 : XW} (C0 : XC p s m args meth c RX10 cX10_keeps 2 G) (hret : meth.sig.returnType = none) {r : XW} {l0 : Nat} {Q : State → Prop} (hK : ∀ {H : Heap} {locs : List Loc} {ls : Array Slot}, XD G X0 r s H locs → lv_has ls 2 [(0, .ref l0)] → W p l e { frames := 0, cells := 0, slots := 0, locals := 0 } s m args below meth c H locs 0 0 Q (F0 m 172 ls [])) : ∀ (n : Nat) {y1 : Int32} {X : XW} {H : Heap} {locs : List Loc} {ls : Array Slot}, XD G X0 X s H locs → lv_has ls 2 [(0, .ref l0), (1, .int y1)] → fX10_keeps_l108 l0 n y1 X = some r → W p l e { frames := 0, cells := 0, slots := 0, locals := 0 } s m args below meth c H locs 0 0 Q (F0 m 108 ls []) := by
  intro n
  induction n with
  | zero =>
    intro y1 X H locs ls W0 hl h
    cases h
  | succ n ih =>
    intro y1 X H locs ls W0 hl h
    exact tX10_keeps_l108_b C0 hret (rec := fX10_keeps_l108 l0 n) (fun W0 hl h => ih W0 hl h) hK W0 hl h
theorem ctX10_keeps (l : Launch) (G : XG) {l0 : Nat} {X : XW} {r : XW}  (h : fX10_keeps l0 X = some r) : XM l G yX10_keeps cX10_keeps 2 none 0 0 0 0 [.ref l0] X (none, r) := by
  refine xm_of (own := RX10) (by decide) rfl (Nat.le_of_ble_eq_true rfl) ?_
  intro p e s m below meth c ls C0 W0 hret hnm hl
  have hx := C0.1
  have hb := C0.2.1
  have hl : lv_has ls 2 [(0, .ref l0)] := hl
  unfold fX10_keeps at h
  refine lv_iconst (v := 0) hx hb dX10_keeps_0 (by decide) ?_
  refine lv_istore_n (lv' := [(1, .int 0), (0, .ref l0)]) hx hb dX10_keeps_1 rfl hl (by decide) rfl (fun ls hl => ?_)
  obtain ⟨r1, h2, h⟩ := ob h
  refine tX10_keeps_l2 C0 hret (fun {H} {locs} {ls} W0 hl => ?_) FU W0 (lv_sub hl [1, 0] rfl) h2
  refine lv_iconst (v := 0) hx hb dX10_keeps_106 (by decide) ?_
  refine lv_istore_n (lv' := [(1, .int 0), (0, .ref l0)]) hx hb dX10_keeps_107 rfl hl (by decide) rfl (fun ls hl => ?_)
  obtain ⟨r3, h4, h⟩ := ob h
  refine tX10_keeps_l108 C0 hret (fun {H} {locs} {ls} W0 hl => ?_) FU W0 (lv_sub hl [1, 0] rfl) h4
  refine lv_aload_n hx hb dX10_keeps_172 rfl (lv_at hl 0 rfl) ?_
  obtain ⟨q5, h6, h⟩ := ob h
  refine xr_getR C0 W0 cl_X10 14 (by decide) fl_X10_80 rfl h6 dX10_keeps_173 ?_
  refine lv_aload_n hx hb dX10_keeps_176 rfl (lv_at hl 0 rfl) ?_
  obtain ⟨v7, h8, h⟩ := ob h
  refine xr_getI C0 W0 cl_X10 10 (by decide) fl_X10_246 rfl h8 dX10_keeps_177 ?_
  refine lv_aload_n hx hb dX10_keeps_180 rfl (lv_at hl 0 rfl) ?_
  obtain ⟨q9, h10, h⟩ := ob h
  refine xr_getR C0 W0 cl_X10 14 (by decide) fl_X10_80 rfl h10 dX10_keeps_181 ?_
  refine lv_iconst (v := 4) hx hb dX10_keeps_184 (by decide) ?_
  obtain ⟨v11, h12, h⟩ := ob h
  refine xr_iald C0 W0 h12 dX10_keeps_185 ?_
  obtain ⟨X13, h14, h⟩ := ob h
  refine xr_iast C0 W0 h14 dX10_keeps_186 (fun H locs W0 => ?_)
  exact xr_vret C0 W0 hret (Option.some.inj h).symm dX10_keeps_187
def fX10_rules_l21_b (rec : XW → Option (XW)) (l0 : Nat) (X : XW) : Option (XW) :=
  gI X l0 10 8 >>= fun v1 =>
  if (v1 = 0 : Prop) then (gR X l0 10 4 >>= fun q3 =>
    gI X l0 10 7 >>= fun v5 =>
    aI X q3 1 v5 >>= fun v7 =>
    if (v7 = 0 : Prop) then (some (X))
    else (gK X l0 10 >>= fun u9 =>
      fX10_line l0 X >>= fun X11 =>
      rec  X11))
  else (some (X))
def fX10_rules_l21 (l0 : Nat) (n : Nat) : XW → Option (XW) := iter (fun rec => fX10_rules_l21_b rec l0) (fun  _ => none) n
def fX10_rules (l0 : Nat) (X : XW) : Option (Int32 × XW) :=
  pI X l0 10 0 0 >>= fun X1 =>
  gK X1 l0 10 >>= fun u3 =>
  fX10_cutAll l0 X1 >>= fun X5 =>
  gR X5 l0 10 14 >>= fun q7 =>
  uI X5 q7 4 0 >>= fun X9 =>
  pI X9 l0 10 21 0 >>= fun X11 =>
  fX10_rules_l21 l0 FU  X11 >>= fun r13 =>
  gI r13 l0 10 8 >>= fun v15 =>
  if (v15 = 0 : Prop) then (gK r13 l0 10 >>= fun u19 =>
    fX10_keeps l0 r13 >>= fun X21 =>
    gI X21 l0 10 8 >>= fun v23 =>
    some (v23, X21))
  else (gI r13 l0 10 8 >>= fun v17 =>
    some (v17, r13))
theorem tX10_rules_l21_b {p : Program} {l : Launch} {e : Env} {s : State} {m : MethodId} {args : Array Value} {below : List Frame} {meth : Method} {c : Code} {G : XG} {X0 : XW} (C0 : XC p s m args meth c RX10 cX10_rules 1 G) (hret : meth.sig.returnType = (some .int)) {r : XW} {l0 : Nat} {Q : State → Prop} {rec : XW → Option (XW)} (hrec : ∀  {X : XW} {H : Heap} {locs : List Loc} {ls : Array Slot}, XD G X0 X s H locs → lv_has ls 1 [(0, .ref l0)] → rec  X = some r → W p l e { frames := 5, cells := 0, slots := 0, locals := 300 } s m args below meth c H locs 0 0 Q (F0 m 21 ls [])) (hK : ∀ {H : Heap} {locs : List Loc} {ls : Array Slot}, XD G X0 r s H locs → lv_has ls 1 [(0, .ref l0)] → W p l e { frames := 5, cells := 0, slots := 0, locals := 300 } s m args below meth c H locs 0 0 Q (F0 m 47 ls []))   {X : XW} {H : Heap} {locs : List Loc} {ls : Array Slot} (W0 : XD G X0 X s H locs) (hl : lv_has ls 1 [(0, .ref l0)]) (h : fX10_rules_l21_b rec l0 X = some r) : W p l e { frames := 5, cells := 0, slots := 0, locals := 300 } s m args below meth c H locs 0 0 Q (F0 m 21 ls []) := by
  have hx := C0.1
  have hb := C0.2.1
  unfold fX10_rules_l21_b at h
  refine lv_aload_n hx hb dX10_rules_21 rfl (lv_at hl 0 rfl) ?_
  obtain ⟨v1, h2, h⟩ := ob h
  refine xr_getI C0 W0 cl_X10 8 (by decide) fl_X10_218 rfl h2 dX10_rules_22 ?_
  refine lv_if_ne (tgt := 47) hx hb dX10_rules_25 (by decide) (fun hcq => ?_) (fun hcq => ?_)
  · have h := it_f hcq h
    cases h
    exact hK W0 (lv_sub hl [0] rfl)
  · have h := it_t hcq h
    refine lv_aload_n hx hb dX10_rules_28 rfl (lv_at hl 0 rfl) ?_
    obtain ⟨q3, h4, h⟩ := ob h
    refine xr_getR C0 W0 cl_X10 4 (by decide) fl_X10_24 rfl h4 dX10_rules_29 ?_
    refine lv_aload_n hx hb dX10_rules_32 rfl (lv_at hl 0 rfl) ?_
    obtain ⟨v5, h6, h⟩ := ob h
    refine xr_getI C0 W0 cl_X10 7 (by decide) fl_X10_215 rfl h6 dX10_rules_33 ?_
    obtain ⟨v7, h8, h⟩ := ob h
    refine xr_iald C0 W0 h8 dX10_rules_36 ?_
    refine lv_if_eq (tgt := 47) hx hb dX10_rules_37 (by decide) (fun hcq => ?_) (fun hcq => ?_)
    · have h := it_t hcq h
      cases h
      exact hK W0 (lv_sub hl [0] rfl)
    · have h := it_f hcq h
      refine lv_aload_n hx hb dX10_rules_40 rfl (lv_at hl 0 rfl) ?_
      obtain ⟨u9, h10, h⟩ := ob h
      obtain ⟨X11, h12, h⟩ := ob h
      refine xr_V (As := []) (rest := []) C0 W0 (ctX10_line l G h12) (gK_of h10) (rr := (RX10, TX10, 57)) rfl rfl mc_X10_line mv_X10_line ml_X10_240 ⟨by decide, by decide⟩ rfl hl.1 rfl (Nat.le_of_ble_eq_true rfl) ⟨by decide, by decide⟩ dX10_rules_41 (fun H locs W0 => ?_)
      refine W.cs (cells' := 0) (slots' := 0) rfl rfl ?_
      refine W.eq (g2 := F0 m 44 ls []) rfl ?_
      refine lv_goto (tgt := 21) hx hb dX10_rules_44 (by decide) ?_
      exact hrec W0 (lv_sub hl [0] rfl) h
theorem tX10_rules_l21 {p : Program} {l : Launch} {e : Env} {s : State} {m : MethodId} {args : Array Value} {below : List Frame} {meth : Method} {c : Code} {G : XG} {X0 : XW} (C0 : XC p s m args meth c RX10 cX10_rules 1 G) (hret : meth.sig.returnType = (some .int)) {r : XW} {l0 : Nat} {Q : State → Prop} (hK : ∀ {H : Heap} {locs : List Loc} {ls : Array Slot}, XD G X0 r s H locs → lv_has ls 1 [(0, .ref l0)] → W p l e { frames := 5, cells := 0, slots := 0, locals := 300 } s m args below meth c H locs 0 0 Q (F0 m 47 ls [])) : ∀ (n : Nat)  {X : XW} {H : Heap} {locs : List Loc} {ls : Array Slot}, XD G X0 X s H locs → lv_has ls 1 [(0, .ref l0)] → fX10_rules_l21 l0 n  X = some r → W p l e { frames := 5, cells := 0, slots := 0, locals := 300 } s m args below meth c H locs 0 0 Q (F0 m 21 ls []) := by
  intro n
  induction n with
  | zero =>
    intro  X H locs ls W0 hl h
    cases h
  | succ n ih =>
    intro  X H locs ls W0 hl h
    exact tX10_rules_l21_b C0 hret (rec := fX10_rules_l21 l0 n) (fun W0 hl h => ih W0 hl h) hK W0 hl h
theorem ctX10_rules (l : Launch) (G : XG) {l0 : Nat} {X : XW} {r : Int32 × XW}  (h : fX10_rules l0 X = some r) : XM l G yX10_rules cX10_rules 1 (some .int) 5 300 0 0 [.ref l0] X (some (.int r.1), r.2) := by
  refine xm_of (own := RX10) (by decide) rfl (Nat.le_of_ble_eq_true rfl) ?_
  intro p e s m below meth c ls C0 W0 hret hnm hl
  have hx := C0.1
  have hb := C0.2.1
  have hl : lv_has ls 1 [(0, .ref l0)] := hl
  unfold fX10_rules at h
  refine lv_aload_n hx hb dX10_rules_0 rfl (lv_at hl 0 rfl) ?_
  refine lv_iconst (v := 0) hx hb dX10_rules_1 (by decide) ?_
  obtain ⟨X1, h2, h⟩ := ob h
  refine xr_putI C0 W0 cl_X10 0 (by decide) fl_X10_1 rfl rfl rfl (by decide) h2 dX10_rules_2 (fun H locs W0 => ?_)
  refine lv_aload_n hx hb dX10_rules_5 rfl (lv_at hl 0 rfl) ?_
  obtain ⟨u3, h4, h⟩ := ob h
  obtain ⟨X5, h6, h⟩ := ob h
  refine xr_V (As := []) (rest := []) C0 W0 (ctX10_cutAll l G h6) (gK_of h4) (rr := (RX10, TX10, 57)) rfl rfl mc_X10_cutAll mv_X10_cutAll ml_X10_237 ⟨by decide, by decide⟩ rfl hl.1 rfl (Nat.le_of_ble_eq_true rfl) ⟨by decide, by decide⟩ dX10_rules_6 (fun H locs W0 => ?_)
  refine W.cs (cells' := 0) (slots' := 0) rfl rfl ?_
  refine W.eq (g2 := F0 m 9 ls []) rfl ?_
  refine lv_aload_n hx hb dX10_rules_9 rfl (lv_at hl 0 rfl) ?_
  obtain ⟨q7, h8, h⟩ := ob h
  refine xr_getR C0 W0 cl_X10 14 (by decide) fl_X10_80 rfl h8 dX10_rules_10 ?_
  refine lv_iconst (v := 4) hx hb dX10_rules_13 (by decide) ?_
  refine lv_iconst (v := 0) hx hb dX10_rules_14 (by decide) ?_
  obtain ⟨X9, h10, h⟩ := ob h
  refine xr_iast C0 W0 h10 dX10_rules_15 (fun H locs W0 => ?_)
  refine lv_aload_n hx hb dX10_rules_16 rfl (lv_at hl 0 rfl) ?_
  refine lv_iconst (v := 0) hx hb dX10_rules_17 (by decide) ?_
  obtain ⟨X11, h12, h⟩ := ob h
  refine xr_putI C0 W0 cl_X10 21 (by decide) fl_X10_234 rfl rfl rfl (by decide) h12 dX10_rules_18 (fun H locs W0 => ?_)
  obtain ⟨r13, h14, h⟩ := ob h
  refine tX10_rules_l21 C0 hret (fun {H} {locs} {ls} W0 hl => ?_) FU W0 (lv_sub hl [0] rfl) h14
  refine lv_aload_n hx hb dX10_rules_47 rfl (lv_at hl 0 rfl) ?_
  obtain ⟨v15, h16, h⟩ := ob h
  refine xr_getI C0 W0 cl_X10 8 (by decide) fl_X10_218 rfl h16 dX10_rules_48 ?_
  refine lv_if_ne (tgt := 58) hx hb dX10_rules_51 (by decide) (fun hcq => ?_) (fun hcq => ?_)
  · have h := it_f hcq h
    refine lv_aload_n hx hb dX10_rules_58 rfl (lv_at hl 0 rfl) ?_
    obtain ⟨v17, h18, h⟩ := ob h
    refine xr_getI C0 W0 cl_X10 8 (by decide) fl_X10_218 rfl h18 dX10_rules_59 ?_
    exact xr_iret C0 W0 hret (Option.some.inj h) dX10_rules_62
  · have h := it_t hcq h
    refine lv_aload_n hx hb dX10_rules_54 rfl (lv_at hl 0 rfl) ?_
    obtain ⟨u19, h20, h⟩ := ob h
    obtain ⟨X21, h22, h⟩ := ob h
    refine xr_V (As := []) (rest := []) C0 W0 (ctX10_keeps l G h22) (gK_of h20) (rr := (RX10, TX10, 57)) rfl rfl mc_X10_keeps mv_X10_keeps ml_X10_243 ⟨by decide, by decide⟩ rfl hl.1 rfl (Nat.le_of_ble_eq_true rfl) ⟨by decide, by decide⟩ dX10_rules_55 (fun H locs W0 => ?_)
    refine W.cs (cells' := 0) (slots' := 0) rfl rfl ?_
    refine W.eq (g2 := F0 m 58 ls []) rfl ?_
    refine lv_aload_n hx hb dX10_rules_58 rfl (lv_at hl 0 rfl) ?_
    obtain ⟨v23, h24, h⟩ := ob h
    refine xr_getI C0 W0 cl_X10 8 (by decide) fl_X10_218 rfl h24 dX10_rules_59 ?_
    exact xr_iret C0 W0 hret (Option.some.inj h) dX10_rules_62
def fX10_worth_j186 (rec : Int32 → Int32 → XW → Option (XW)) (l0 : Nat) (l2 : Int32) (l3 : Int32) (X : XW) : Option (XW) :=
  rec (l2 + 1) l3 X
def fX10_worth_j64 (rec : Int32 → Int32 → XW → Option (XW)) (l0 : Nat) (l2 : Int32) (l3 : Int32) (s0 : Int32) (s1 : Int32) (s2 : Nat) (X : XW) : Option (XW) :=
  uI X s2 s1 s0 >>= fun X1 =>
  fX10_worth_j186 rec l0 l2 (l3 + 1) X1
def fX10_worth_j33 (rec : Int32 → Int32 → XW → Option (XW)) (l0 : Nat) (l2 : Int32) (l3 : Int32) (l4 : Int32) (X : XW) : Option (XW) :=
  gR X l0 10 27 >>= fun q1 =>
  if (l4 = 1 : Prop) then (gR X l0 10 20 >>= fun q11 =>
    aI X q11 1 l2 >>= fun v13 =>
    fX10_worth_j64 rec l0 l2 l3 v13 l3 q1 X)
  else (gR X l0 10 26 >>= fun q3 =>
    gR X l0 10 20 >>= fun q5 =>
    aI X q5 1 l2 >>= fun v7 =>
    aI X q3 1 v7 >>= fun v9 =>
    fX10_worth_j64 rec l0 l2 l3 v9 l3 q1 X)
def fX10_worth_j185 (rec : Int32 → Int32 → XW → Option (XW)) (l0 : Nat) (l2 : Int32) (l3 : Int32) (s0 : Int32) (s1 : Int32) (s2 : Nat) (X : XW) : Option (XW) :=
  uI X s2 s1 s0 >>= fun X1 =>
  fX10_worth_j186 rec l0 l2 l3 X1
def fX10_worth_j184 (rec : Int32 → Int32 → XW → Option (XW)) (l0 : Nat) (l2 : Int32) (l3 : Int32) (s0 : Int32) (s1 : Nat) (X : XW) : Option (XW) :=
  fX10_worth_j185 rec l0 l2 l3 0 s0 s1 X
def fX10_worth_l4_b (rec : Int32 → Int32 → XW → Option (XW)) (l0 : Nat) (l2 : Int32) (l3 : Int32) (X : XW) : Option (XW) :=
  gR X l0 10 19 >>= fun q1 =>
  aI X q1 1 l2 >>= fun v3 =>
  if (v3 = 0 : Prop) then (some (X))
  else (gR X l0 10 19 >>= fun q5 =>
    aI X q5 1 l2 >>= fun v7 =>
    if (v7 = 1 : Prop) then (fX10_worth_j33 rec l0 l2 l3 v7 X)
    else (if (v7 = 2 : Prop) then (fX10_worth_j33 rec l0 l2 l3 v7 X)
      else (gR X l0 10 27 >>= fun q9 =>
        aI X q9 1 (l3 + (-1)) >>= fun v11 =>
        gR X l0 10 27 >>= fun q13 =>
        aI X q13 1 ((l3 + (-1)) - 1) >>= fun v15 =>
        gR X l0 10 27 >>= fun q17 =>
        if (v7 = 3 : Prop) then (fX10_worth_j185 rec l0 l2 (l3 + (-1)) (v15 + v11) ((l3 + (-1)) - 1) q17 X)
        else (if (v7 = 4 : Prop) then (fX10_worth_j185 rec l0 l2 (l3 + (-1)) (v15 - v11) ((l3 + (-1)) - 1) q17 X)
          else (if (v7 = 5 : Prop) then (if (v11 ≤ v15 : Prop) then (fX10_worth_j185 rec l0 l2 (l3 + (-1)) 0 ((l3 + (-1)) - 1) q17 X)
              else (fX10_worth_j185 rec l0 l2 (l3 + (-1)) 1 ((l3 + (-1)) - 1) q17 X))
            else (if (v7 = 6 : Prop) then (if (v15 = v11 : Prop) then (fX10_worth_j185 rec l0 l2 (l3 + (-1)) 1 ((l3 + (-1)) - 1) q17 X)
                else (fX10_worth_j185 rec l0 l2 (l3 + (-1)) 0 ((l3 + (-1)) - 1) q17 X))
              else (if (v15 = 0 : Prop) then (fX10_worth_j184 rec l0 l2 (l3 + (-1)) ((l3 + (-1)) - 1) q17 X)
                else (if (v11 = 0 : Prop) then (fX10_worth_j184 rec l0 l2 (l3 + (-1)) ((l3 + (-1)) - 1) q17 X)
                  else (fX10_worth_j185 rec l0 l2 (l3 + (-1)) 1 ((l3 + (-1)) - 1) q17 X)))))))))
def fX10_worth_l4 (l0 : Nat) (n : Nat) : Int32 → Int32 → XW → Option (XW) := iter (fun rec => fX10_worth_l4_b rec l0) (fun _ _ _ => none) n
def fX10_worth (l0 : Nat) (l1 : Int32) (X : XW) : Option (Int32 × XW) :=
  fX10_worth_l4 l0 FU l1 0 X >>= fun r1 =>
  gR r1 l0 10 27 >>= fun q3 =>
  aI r1 q3 1 0 >>= fun v5 =>
  some (v5, r1)
theorem tX10_worth_j186 {p : Program} {l : Launch} {e : Env} {s : State} {m : MethodId} {args : Array Value} {below : List Frame} {meth : Method} {c : Code} {G : XG} {X0 : XW} (C0 : XC p s m args meth c RX10 cX10_worth 7 G) (hret : meth.sig.returnType = (some .int)) {r : XW} {l0 : Nat} {Q : State → Prop} {rec : Int32 → Int32 → XW → Option (XW)} (hrec : ∀ {y2 : Int32} {y3 : Int32} {X : XW} {H : Heap} {locs : List Loc} {ls : Array Slot}, XD G X0 X s H locs → lv_has ls 7 [(0, .ref l0), (2, .int y2), (3, .int y3)] → rec y2 y3 X = some r → W p l e { frames := 0, cells := 0, slots := 0, locals := 0 } s m args below meth c H locs 0 0 Q (F0 m 4 ls [])) (hK : ∀ {H : Heap} {locs : List Loc} {ls : Array Slot}, XD G X0 r s H locs → lv_has ls 7 [(0, .ref l0)] → W p l e { frames := 0, cells := 0, slots := 0, locals := 0 } s m args below meth c H locs 0 0 Q (F0 m 192 ls []))  {l2 : Int32} {l3 : Int32} {X : XW} {H : Heap} {locs : List Loc} {ls : Array Slot} (W0 : XD G X0 X s H locs) (hl : lv_has ls 7 [(0, .ref l0), (2, .int l2), (3, .int l3)]) (h : fX10_worth_j186 rec l0 l2 l3 X = some r) : W p l e { frames := 0, cells := 0, slots := 0, locals := 0 } s m args below meth c H locs 0 0 Q (F0 m 186 ls []) := by
  have hx := C0.1
  have hb := C0.2.1
  unfold fX10_worth_j186 at h
  refine lv_iinc (v := (l2 + 1)) (lv' := [(2, .int (l2 + 1)), (0, .ref l0), (3, .int l3)]) hx hb dX10_worth_186 hl (k := 1) rfl (ii (by decide)) (by decide) rfl (fun ls hl => ?_)
  refine lv_goto (tgt := 4) hx hb dX10_worth_189 (by decide) ?_
  exact hrec W0 (lv_sub hl [1, 0, 2] rfl) h
theorem tX10_worth_j64 {p : Program} {l : Launch} {e : Env} {s : State} {m : MethodId} {args : Array Value} {below : List Frame} {meth : Method} {c : Code} {G : XG} {X0 : XW} (C0 : XC p s m args meth c RX10 cX10_worth 7 G) (hret : meth.sig.returnType = (some .int)) {r : XW} {l0 : Nat} {Q : State → Prop} {rec : Int32 → Int32 → XW → Option (XW)} (hrec : ∀ {y2 : Int32} {y3 : Int32} {X : XW} {H : Heap} {locs : List Loc} {ls : Array Slot}, XD G X0 X s H locs → lv_has ls 7 [(0, .ref l0), (2, .int y2), (3, .int y3)] → rec y2 y3 X = some r → W p l e { frames := 0, cells := 0, slots := 0, locals := 0 } s m args below meth c H locs 0 0 Q (F0 m 4 ls [])) (hK : ∀ {H : Heap} {locs : List Loc} {ls : Array Slot}, XD G X0 r s H locs → lv_has ls 7 [(0, .ref l0)] → W p l e { frames := 0, cells := 0, slots := 0, locals := 0 } s m args below meth c H locs 0 0 Q (F0 m 192 ls []))  {l2 : Int32} {l3 : Int32} {s0 : Int32} {s1 : Int32} {s2 : Nat} {X : XW} {H : Heap} {locs : List Loc} {ls : Array Slot} (W0 : XD G X0 X s H locs) (hl : lv_has ls 7 [(0, .ref l0), (2, .int l2), (3, .int l3)]) (h : fX10_worth_j64 rec l0 l2 l3 s0 s1 s2 X = some r) : W p l e { frames := 0, cells := 0, slots := 0, locals := 0 } s m args below meth c H locs 0 0 Q (F0 m 64 ls [.int s0, .int s1, .ref s2]) := by
  have hx := C0.1
  have hb := C0.2.1
  unfold fX10_worth_j64 at h
  obtain ⟨X1, h2, h⟩ := ob h
  refine xr_iast C0 W0 h2 dX10_worth_64 (fun H locs W0 => ?_)
  refine lv_iinc (v := (l3 + 1)) (lv' := [(3, .int (l3 + 1)), (0, .ref l0), (2, .int l2)]) hx hb dX10_worth_65 hl (k := 2) rfl (ii (by decide)) (by decide) rfl (fun ls hl => ?_)
  refine lv_goto (tgt := 186) hx hb dX10_worth_68 (by decide) ?_
  exact tX10_worth_j186 C0 hret hrec hK W0 (lv_sub hl [1, 2, 0] rfl) h
theorem tX10_worth_j33 {p : Program} {l : Launch} {e : Env} {s : State} {m : MethodId} {args : Array Value} {below : List Frame} {meth : Method} {c : Code} {G : XG} {X0 : XW} (C0 : XC p s m args meth c RX10 cX10_worth 7 G) (hret : meth.sig.returnType = (some .int)) {r : XW} {l0 : Nat} {Q : State → Prop} {rec : Int32 → Int32 → XW → Option (XW)} (hrec : ∀ {y2 : Int32} {y3 : Int32} {X : XW} {H : Heap} {locs : List Loc} {ls : Array Slot}, XD G X0 X s H locs → lv_has ls 7 [(0, .ref l0), (2, .int y2), (3, .int y3)] → rec y2 y3 X = some r → W p l e { frames := 0, cells := 0, slots := 0, locals := 0 } s m args below meth c H locs 0 0 Q (F0 m 4 ls [])) (hK : ∀ {H : Heap} {locs : List Loc} {ls : Array Slot}, XD G X0 r s H locs → lv_has ls 7 [(0, .ref l0)] → W p l e { frames := 0, cells := 0, slots := 0, locals := 0 } s m args below meth c H locs 0 0 Q (F0 m 192 ls []))  {l2 : Int32} {l3 : Int32} {l4 : Int32} {X : XW} {H : Heap} {locs : List Loc} {ls : Array Slot} (W0 : XD G X0 X s H locs) (hl : lv_has ls 7 [(0, .ref l0), (2, .int l2), (3, .int l3), (4, .int l4)]) (h : fX10_worth_j33 rec l0 l2 l3 l4 X = some r) : W p l e { frames := 0, cells := 0, slots := 0, locals := 0 } s m args below meth c H locs 0 0 Q (F0 m 33 ls []) := by
  have hx := C0.1
  have hb := C0.2.1
  unfold fX10_worth_j33 at h
  refine lv_aload_n hx hb dX10_worth_33 rfl (lv_at hl 0 rfl) ?_
  obtain ⟨q1, h2, h⟩ := ob h
  refine xr_getR C0 W0 cl_X10 27 (by decide) fl_X10_114 rfl h2 dX10_worth_34 ?_
  refine lv_iload_n hx hb dX10_worth_37 rfl (lv_at hl 2 rfl) ?_
  refine lv_iload hx hb dX10_worth_38 (lv_at hl 3 rfl) ?_
  refine lv_iconst (v := 1) hx hb dX10_worth_40 (by decide) ?_
  refine lv_icmp_ne (tgt := 53) hx hb dX10_worth_41 (by decide) (fun hcq => ?_) (fun hcq => ?_)
  · have h := it_f hcq h
    refine lv_aload_n hx hb dX10_worth_53 rfl (lv_at hl 0 rfl) ?_
    obtain ⟨q3, h4, h⟩ := ob h
    refine xr_getR C0 W0 cl_X10 26 (by decide) fl_X10_111 rfl h4 dX10_worth_54 ?_
    refine lv_aload_n hx hb dX10_worth_57 rfl (lv_at hl 0 rfl) ?_
    obtain ⟨q5, h6, h⟩ := ob h
    refine xr_getR C0 W0 cl_X10 20 (by decide) fl_X10_99 rfl h6 dX10_worth_58 ?_
    refine lv_iload_n hx hb dX10_worth_61 rfl (lv_at hl 1 rfl) ?_
    obtain ⟨v7, h8, h⟩ := ob h
    refine xr_iald C0 W0 h8 dX10_worth_62 ?_
    obtain ⟨v9, h10, h⟩ := ob h
    refine xr_iald C0 W0 h10 dX10_worth_63 ?_
    exact tX10_worth_j64 C0 hret hrec hK W0 (lv_sub hl [0, 1, 2] rfl) h
  · have h := it_t hcq h
    refine lv_aload_n hx hb dX10_worth_44 rfl (lv_at hl 0 rfl) ?_
    obtain ⟨q11, h12, h⟩ := ob h
    refine xr_getR C0 W0 cl_X10 20 (by decide) fl_X10_99 rfl h12 dX10_worth_45 ?_
    refine lv_iload_n hx hb dX10_worth_48 rfl (lv_at hl 1 rfl) ?_
    obtain ⟨v13, h14, h⟩ := ob h
    refine xr_iald C0 W0 h14 dX10_worth_49 ?_
    refine lv_goto (tgt := 64) hx hb dX10_worth_50 (by decide) ?_
    exact tX10_worth_j64 C0 hret hrec hK W0 (lv_sub hl [0, 1, 2] rfl) h
theorem tX10_worth_j185 {p : Program} {l : Launch} {e : Env} {s : State} {m : MethodId} {args : Array Value} {below : List Frame} {meth : Method} {c : Code} {G : XG} {X0 : XW} (C0 : XC p s m args meth c RX10 cX10_worth 7 G) (hret : meth.sig.returnType = (some .int)) {r : XW} {l0 : Nat} {Q : State → Prop} {rec : Int32 → Int32 → XW → Option (XW)} (hrec : ∀ {y2 : Int32} {y3 : Int32} {X : XW} {H : Heap} {locs : List Loc} {ls : Array Slot}, XD G X0 X s H locs → lv_has ls 7 [(0, .ref l0), (2, .int y2), (3, .int y3)] → rec y2 y3 X = some r → W p l e { frames := 0, cells := 0, slots := 0, locals := 0 } s m args below meth c H locs 0 0 Q (F0 m 4 ls [])) (hK : ∀ {H : Heap} {locs : List Loc} {ls : Array Slot}, XD G X0 r s H locs → lv_has ls 7 [(0, .ref l0)] → W p l e { frames := 0, cells := 0, slots := 0, locals := 0 } s m args below meth c H locs 0 0 Q (F0 m 192 ls []))  {l2 : Int32} {l3 : Int32} {s0 : Int32} {s1 : Int32} {s2 : Nat} {X : XW} {H : Heap} {locs : List Loc} {ls : Array Slot} (W0 : XD G X0 X s H locs) (hl : lv_has ls 7 [(0, .ref l0), (2, .int l2), (3, .int l3)]) (h : fX10_worth_j185 rec l0 l2 l3 s0 s1 s2 X = some r) : W p l e { frames := 0, cells := 0, slots := 0, locals := 0 } s m args below meth c H locs 0 0 Q (F0 m 185 ls [.int s0, .int s1, .ref s2]) := by
  have hx := C0.1
  have hb := C0.2.1
  unfold fX10_worth_j185 at h
  obtain ⟨X1, h2, h⟩ := ob h
  refine xr_iast C0 W0 h2 dX10_worth_185 (fun H locs W0 => ?_)
  exact tX10_worth_j186 C0 hret hrec hK W0 (lv_sub hl [0, 1, 2] rfl) h
theorem tX10_worth_j184 {p : Program} {l : Launch} {e : Env} {s : State} {m : MethodId} {args : Array Value} {below : List Frame} {meth : Method} {c : Code} {G : XG} {X0 : XW} (C0 : XC p s m args meth c RX10 cX10_worth 7 G) (hret : meth.sig.returnType = (some .int)) {r : XW} {l0 : Nat} {Q : State → Prop} {rec : Int32 → Int32 → XW → Option (XW)} (hrec : ∀ {y2 : Int32} {y3 : Int32} {X : XW} {H : Heap} {locs : List Loc} {ls : Array Slot}, XD G X0 X s H locs → lv_has ls 7 [(0, .ref l0), (2, .int y2), (3, .int y3)] → rec y2 y3 X = some r → W p l e { frames := 0, cells := 0, slots := 0, locals := 0 } s m args below meth c H locs 0 0 Q (F0 m 4 ls [])) (hK : ∀ {H : Heap} {locs : List Loc} {ls : Array Slot}, XD G X0 r s H locs → lv_has ls 7 [(0, .ref l0)] → W p l e { frames := 0, cells := 0, slots := 0, locals := 0 } s m args below meth c H locs 0 0 Q (F0 m 192 ls []))  {l2 : Int32} {l3 : Int32} {s0 : Int32} {s1 : Nat} {X : XW} {H : Heap} {locs : List Loc} {ls : Array Slot} (W0 : XD G X0 X s H locs) (hl : lv_has ls 7 [(0, .ref l0), (2, .int l2), (3, .int l3)]) (h : fX10_worth_j184 rec l0 l2 l3 s0 s1 X = some r) : W p l e { frames := 0, cells := 0, slots := 0, locals := 0 } s m args below meth c H locs 0 0 Q (F0 m 184 ls [.int s0, .ref s1]) := by
  have hx := C0.1
  have hb := C0.2.1
  unfold fX10_worth_j184 at h
  refine lv_iconst (v := 0) hx hb dX10_worth_184 (by decide) ?_
  exact tX10_worth_j185 C0 hret hrec hK W0 (lv_sub hl [0, 1, 2] rfl) h
theorem tX10_worth_l4_b {p : Program} {l : Launch} {e : Env} {s : State} {m : MethodId} {args : Array Value} {below : List Frame} {meth : Method} {c : Code} {G : XG} {X0 : XW} (C0 : XC p s m args meth c RX10 cX10_worth 7 G) (hret : meth.sig.returnType = (some .int)) {r : XW} {l0 : Nat} {Q : State → Prop} {rec : Int32 → Int32 → XW → Option (XW)} (hrec : ∀ {y2 : Int32} {y3 : Int32} {X : XW} {H : Heap} {locs : List Loc} {ls : Array Slot}, XD G X0 X s H locs → lv_has ls 7 [(0, .ref l0), (2, .int y2), (3, .int y3)] → rec y2 y3 X = some r → W p l e { frames := 0, cells := 0, slots := 0, locals := 0 } s m args below meth c H locs 0 0 Q (F0 m 4 ls [])) (hK : ∀ {H : Heap} {locs : List Loc} {ls : Array Slot}, XD G X0 r s H locs → lv_has ls 7 [(0, .ref l0)] → W p l e { frames := 0, cells := 0, slots := 0, locals := 0 } s m args below meth c H locs 0 0 Q (F0 m 192 ls []))  {l2 : Int32} {l3 : Int32} {X : XW} {H : Heap} {locs : List Loc} {ls : Array Slot} (W0 : XD G X0 X s H locs) (hl : lv_has ls 7 [(0, .ref l0), (2, .int l2), (3, .int l3)]) (h : fX10_worth_l4_b rec l0 l2 l3 X = some r) : W p l e { frames := 0, cells := 0, slots := 0, locals := 0 } s m args below meth c H locs 0 0 Q (F0 m 4 ls []) := by
  have hx := C0.1
  have hb := C0.2.1
  unfold fX10_worth_l4_b at h
  refine lv_aload_n hx hb dX10_worth_4 rfl (lv_at hl 0 rfl) ?_
  obtain ⟨q1, h2, h⟩ := ob h
  refine xr_getR C0 W0 cl_X10 19 (by decide) fl_X10_96 rfl h2 dX10_worth_5 ?_
  refine lv_iload_n hx hb dX10_worth_8 rfl (lv_at hl 1 rfl) ?_
  obtain ⟨v3, h4, h⟩ := ob h
  refine xr_iald C0 W0 h4 dX10_worth_9 ?_
  refine lv_if_eq (tgt := 192) hx hb dX10_worth_10 (by decide) (fun hcq => ?_) (fun hcq => ?_)
  · have h := it_t hcq h
    cases h
    exact hK W0 (lv_sub hl [0] rfl)
  · have h := it_f hcq h
    refine lv_aload_n hx hb dX10_worth_13 rfl (lv_at hl 0 rfl) ?_
    obtain ⟨q5, h6, h⟩ := ob h
    refine xr_getR C0 W0 cl_X10 19 (by decide) fl_X10_96 rfl h6 dX10_worth_14 ?_
    refine lv_iload_n hx hb dX10_worth_17 rfl (lv_at hl 1 rfl) ?_
    obtain ⟨v7, h8, h⟩ := ob h
    refine xr_iald C0 W0 h8 dX10_worth_18 ?_
    refine lv_istore (lv' := [(4, .int v7), (0, .ref l0), (2, .int l2), (3, .int l3)]) hx hb dX10_worth_19 hl (by decide) rfl (fun ls hl => ?_)
    refine lv_iload hx hb dX10_worth_21 (lv_at hl 0 rfl) ?_
    refine lv_iconst (v := 1) hx hb dX10_worth_23 (by decide) ?_
    refine lv_icmp_eq (tgt := 33) hx hb dX10_worth_24 (by decide) (fun hcq => ?_) (fun hcq => ?_)
    · have h := it_t hcq h
      exact tX10_worth_j33 C0 hret hrec hK W0 (lv_sub hl [1, 2, 3, 0] rfl) h
    · have h := it_f hcq h
      refine lv_iload hx hb dX10_worth_27 (lv_at hl 0 rfl) ?_
      refine lv_iconst (v := 2) hx hb dX10_worth_29 (by decide) ?_
      refine lv_icmp_ne (tgt := 71) hx hb dX10_worth_30 (by decide) (fun hcq => ?_) (fun hcq => ?_)
      · have h := it_f hcq h
        refine lv_iinc (v := (l3 + (-1))) (lv' := [(3, .int (l3 + (-1))), (4, .int v7), (0, .ref l0), (2, .int l2)]) hx hb dX10_worth_71 hl (k := 3) rfl (ii (by decide)) (by decide) rfl (fun ls hl => ?_)
        refine lv_aload_n hx hb dX10_worth_74 rfl (lv_at hl 2 rfl) ?_
        obtain ⟨q9, h10, h⟩ := ob h
        refine xr_getR C0 W0 cl_X10 27 (by decide) fl_X10_114 rfl h10 dX10_worth_75 ?_
        refine lv_iload_n hx hb dX10_worth_78 rfl (lv_at hl 0 rfl) ?_
        obtain ⟨v11, h12, h⟩ := ob h
        refine xr_iald C0 W0 h12 dX10_worth_79 ?_
        refine lv_istore (lv' := [(5, .int v11), (3, .int (l3 + (-1))), (4, .int v7), (0, .ref l0), (2, .int l2)]) hx hb dX10_worth_80 hl (by decide) rfl (fun ls hl => ?_)
        refine lv_aload_n hx hb dX10_worth_82 rfl (lv_at hl 3 rfl) ?_
        obtain ⟨q13, h14, h⟩ := ob h
        refine xr_getR C0 W0 cl_X10 27 (by decide) fl_X10_114 rfl h14 dX10_worth_83 ?_
        refine lv_iload_n hx hb dX10_worth_86 rfl (lv_at hl 1 rfl) ?_
        refine lv_iconst (v := 1) hx hb dX10_worth_87 (by decide) ?_
        refine lv_isub hx hb dX10_worth_88 ?_
        obtain ⟨v15, h16, h⟩ := ob h
        refine xr_iald C0 W0 h16 dX10_worth_89 ?_
        refine lv_istore (lv' := [(6, .int v15), (5, .int v11), (3, .int (l3 + (-1))), (4, .int v7), (0, .ref l0), (2, .int l2)]) hx hb dX10_worth_90 hl (by decide) rfl (fun ls hl => ?_)
        refine lv_aload_n hx hb dX10_worth_92 rfl (lv_at hl 4 rfl) ?_
        obtain ⟨q17, h18, h⟩ := ob h
        refine xr_getR C0 W0 cl_X10 27 (by decide) fl_X10_114 rfl h18 dX10_worth_93 ?_
        refine lv_iload_n hx hb dX10_worth_96 rfl (lv_at hl 2 rfl) ?_
        refine lv_iconst (v := 1) hx hb dX10_worth_97 (by decide) ?_
        refine lv_isub hx hb dX10_worth_98 ?_
        refine lv_iload hx hb dX10_worth_99 (lv_at hl 3 rfl) ?_
        refine lv_iconst (v := 3) hx hb dX10_worth_101 (by decide) ?_
        refine lv_icmp_ne (tgt := 113) hx hb dX10_worth_102 (by decide) (fun hcq => ?_) (fun hcq => ?_)
        · have h := it_f hcq h
          refine lv_iload hx hb dX10_worth_113 (lv_at hl 3 rfl) ?_
          refine lv_iconst (v := 4) hx hb dX10_worth_115 (by decide) ?_
          refine lv_icmp_ne (tgt := 127) hx hb dX10_worth_116 (by decide) (fun hcq => ?_) (fun hcq => ?_)
          · have h := it_f hcq h
            refine lv_iload hx hb dX10_worth_127 (lv_at hl 3 rfl) ?_
            refine lv_iconst (v := 5) hx hb dX10_worth_129 (by decide) ?_
            refine lv_icmp_ne (tgt := 148) hx hb dX10_worth_130 (by decide) (fun hcq => ?_) (fun hcq => ?_)
            · have h := it_f hcq h
              refine lv_iload hx hb dX10_worth_148 (lv_at hl 3 rfl) ?_
              refine lv_bipush (v := 6) hx hb dX10_worth_150 (by decide) ?_
              refine lv_icmp_ne (tgt := 170) hx hb dX10_worth_152 (by decide) (fun hcq => ?_) (fun hcq => ?_)
              · have h := it_f hcq h
                refine lv_iload hx hb dX10_worth_170 (lv_at hl 0 rfl) ?_
                refine lv_if_eq (tgt := 184) hx hb dX10_worth_172 (by decide) (fun hcq => ?_) (fun hcq => ?_)
                · have h := it_t hcq h
                  exact tX10_worth_j184 C0 hret hrec hK W0 (lv_sub hl [4, 5, 2] rfl) h
                · have h := it_f hcq h
                  refine lv_iload hx hb dX10_worth_175 (lv_at hl 1 rfl) ?_
                  refine lv_if_eq (tgt := 184) hx hb dX10_worth_177 (by decide) (fun hcq => ?_) (fun hcq => ?_)
                  · have h := it_t hcq h
                    exact tX10_worth_j184 C0 hret hrec hK W0 (lv_sub hl [4, 5, 2] rfl) h
                  · have h := it_f hcq h
                    refine lv_iconst (v := 1) hx hb dX10_worth_180 (by decide) ?_
                    refine lv_goto (tgt := 185) hx hb dX10_worth_181 (by decide) ?_
                    exact tX10_worth_j185 C0 hret hrec hK W0 (lv_sub hl [4, 5, 2] rfl) h
              · have h := it_t hcq h
                refine lv_iload hx hb dX10_worth_155 (lv_at hl 0 rfl) ?_
                refine lv_iload hx hb dX10_worth_157 (lv_at hl 1 rfl) ?_
                refine lv_icmp_ne (tgt := 166) hx hb dX10_worth_159 (by decide) (fun hcq => ?_) (fun hcq => ?_)
                · have h := it_f hcq h
                  refine lv_iconst (v := 0) hx hb dX10_worth_166 (by decide) ?_
                  refine lv_goto (tgt := 185) hx hb dX10_worth_167 (by decide) ?_
                  exact tX10_worth_j185 C0 hret hrec hK W0 (lv_sub hl [4, 5, 2] rfl) h
                · have h := it_t hcq h
                  refine lv_iconst (v := 1) hx hb dX10_worth_162 (by decide) ?_
                  refine lv_goto (tgt := 185) hx hb dX10_worth_163 (by decide) ?_
                  exact tX10_worth_j185 C0 hret hrec hK W0 (lv_sub hl [4, 5, 2] rfl) h
            · have h := it_t hcq h
              refine lv_iload hx hb dX10_worth_133 (lv_at hl 0 rfl) ?_
              refine lv_iload hx hb dX10_worth_135 (lv_at hl 1 rfl) ?_
              refine lv_icmp_ge (tgt := 144) hx hb dX10_worth_137 (by decide) (fun hcq => ?_) (fun hcq => ?_)
              · have h := it_t hcq h
                refine lv_iconst (v := 0) hx hb dX10_worth_144 (by decide) ?_
                refine lv_goto (tgt := 185) hx hb dX10_worth_145 (by decide) ?_
                exact tX10_worth_j185 C0 hret hrec hK W0 (lv_sub hl [4, 5, 2] rfl) h
              · have h := it_f hcq h
                refine lv_iconst (v := 1) hx hb dX10_worth_140 (by decide) ?_
                refine lv_goto (tgt := 185) hx hb dX10_worth_141 (by decide) ?_
                exact tX10_worth_j185 C0 hret hrec hK W0 (lv_sub hl [4, 5, 2] rfl) h
          · have h := it_t hcq h
            refine lv_iload hx hb dX10_worth_119 (lv_at hl 0 rfl) ?_
            refine lv_iload hx hb dX10_worth_121 (lv_at hl 1 rfl) ?_
            refine lv_isub hx hb dX10_worth_123 ?_
            refine lv_goto (tgt := 185) hx hb dX10_worth_124 (by decide) ?_
            exact tX10_worth_j185 C0 hret hrec hK W0 (lv_sub hl [4, 5, 2] rfl) h
        · have h := it_t hcq h
          refine lv_iload hx hb dX10_worth_105 (lv_at hl 0 rfl) ?_
          refine lv_iload hx hb dX10_worth_107 (lv_at hl 1 rfl) ?_
          refine lv_iadd hx hb dX10_worth_109 ?_
          refine lv_goto (tgt := 185) hx hb dX10_worth_110 (by decide) ?_
          exact tX10_worth_j185 C0 hret hrec hK W0 (lv_sub hl [4, 5, 2] rfl) h
      · have h := it_t hcq h
        exact tX10_worth_j33 C0 hret hrec hK W0 (lv_sub hl [1, 2, 3, 0] rfl) h
theorem tX10_worth_l4 {p : Program} {l : Launch} {e : Env} {s : State} {m : MethodId} {args : Array Value} {below : List Frame} {meth : Method} {c : Code} {G : XG} {X0 : XW} (C0 : XC p s m args meth c RX10 cX10_worth 7 G) (hret : meth.sig.returnType = (some .int)) {r : XW} {l0 : Nat} {Q : State → Prop} (hK : ∀ {H : Heap} {locs : List Loc} {ls : Array Slot}, XD G X0 r s H locs → lv_has ls 7 [(0, .ref l0)] → W p l e { frames := 0, cells := 0, slots := 0, locals := 0 } s m args below meth c H locs 0 0 Q (F0 m 192 ls [])) : ∀ (n : Nat) {y2 : Int32} {y3 : Int32} {X : XW} {H : Heap} {locs : List Loc} {ls : Array Slot}, XD G X0 X s H locs → lv_has ls 7 [(0, .ref l0), (2, .int y2), (3, .int y3)] → fX10_worth_l4 l0 n y2 y3 X = some r → W p l e { frames := 0, cells := 0, slots := 0, locals := 0 } s m args below meth c H locs 0 0 Q (F0 m 4 ls []) := by
  intro n
  induction n with
  | zero =>
    intro y2 y3 X H locs ls W0 hl h
    cases h
  | succ n ih =>
    intro y2 y3 X H locs ls W0 hl h
    exact tX10_worth_l4_b C0 hret (rec := fX10_worth_l4 l0 n) (fun W0 hl h => ih W0 hl h) hK W0 hl h
theorem ctX10_worth (l : Launch) (G : XG) {l0 : Nat} {l1 : Int32} {X : XW} {r : Int32 × XW}  (h : fX10_worth l0 l1 X = some r) : XM l G yX10_worth cX10_worth 7 (some .int) 0 0 0 0 [.ref l0, .int l1] X (some (.int r.1), r.2) := by
  refine xm_of (own := RX10) (by decide) rfl (Nat.le_of_ble_eq_true rfl) ?_
  intro p e s m below meth c ls C0 W0 hret hnm hl
  have hx := C0.1
  have hb := C0.2.1
  have hl : lv_has ls 7 [(0, .ref l0), (1, .int l1)] := hl
  unfold fX10_worth at h
  refine lv_iload_n hx hb dX10_worth_0 rfl (lv_at hl 1 rfl) ?_
  refine lv_istore_n (lv' := [(2, .int l1), (0, .ref l0), (1, .int l1)]) hx hb dX10_worth_1 rfl hl (by decide) rfl (fun ls hl => ?_)
  refine lv_iconst (v := 0) hx hb dX10_worth_2 (by decide) ?_
  refine lv_istore_n (lv' := [(3, .int 0), (2, .int l1), (0, .ref l0), (1, .int l1)]) hx hb dX10_worth_3 rfl hl (by decide) rfl (fun ls hl => ?_)
  obtain ⟨r1, h2, h⟩ := ob h
  refine tX10_worth_l4 C0 hret (fun {H} {locs} {ls} W0 hl => ?_) FU W0 (lv_sub hl [2, 1, 0] rfl) h2
  refine lv_aload_n hx hb dX10_worth_192 rfl (lv_at hl 0 rfl) ?_
  obtain ⟨q3, h4, h⟩ := ob h
  refine xr_getR C0 W0 cl_X10 27 (by decide) fl_X10_114 rfl h4 dX10_worth_193 ?_
  refine lv_iconst (v := 0) hx hb dX10_worth_196 (by decide) ?_
  obtain ⟨v5, h6, h⟩ := ob h
  refine xr_iald C0 W0 h6 dX10_worth_197 ?_
  exact xr_iret C0 W0 hret (Option.some.inj h) dX10_worth_198
def fX10_manner (l0 : Nat) (l1 : Int32) (l2 : Int32) (l3 : Int32) (l4 : Int32) (X : XW) : Option (Int32 × XW) :=
  pI X l0 10 0 0 >>= fun X1 =>
  if (l1 < 0 : Prop) then (some (0, X1))
  else (if (3 < l1 : Prop) then (some (0, X1))
    else (if (l2 < 0 : Prop) then (some (0, X1))
      else (if (99 < l3 : Prop) then (some (0, X1))
        else (if (l3 < l2 : Prop) then (some (0, X1))
          else (if (l4 < 1 : Prop) then (some (0, X1))
            else (if (l4 ≤ 99 : Prop) then (pI X1 l0 10 10 l1 >>= fun X3 =>
                gR X3 l0 10 11 >>= fun q5 =>
                uI X3 q5 l1 l2 >>= fun X7 =>
                gR X7 l0 10 12 >>= fun q9 =>
                uI X7 q9 l1 l3 >>= fun X11 =>
                gR X11 l0 10 13 >>= fun q13 =>
                uI X11 q13 l1 l4 >>= fun X15 =>
                some (1, X15))
              else (some (0, X1))))))))
theorem ctX10_manner (l : Launch) (G : XG) {l0 : Nat} {l1 : Int32} {l2 : Int32} {l3 : Int32} {l4 : Int32} {X : XW} {r : Int32 × XW}  (h : fX10_manner l0 l1 l2 l3 l4 X = some r) : XM l G yX10_manner cX10_manner 5 (some .boolean) 0 0 0 0 [.ref l0, .int l1, .int l2, .int l3, .int l4] X (some (.int r.1), r.2) := by
  refine xm_of (own := RX10) (by decide) rfl (Nat.le_of_ble_eq_true rfl) ?_
  intro p e s m below meth c ls C0 W0 hret hnm hl
  have hx := C0.1
  have hb := C0.2.1
  have hl : lv_has ls 5 [(0, .ref l0), (1, .int l1), (2, .int l2), (3, .int l3), (4, .int l4)] := hl
  unfold fX10_manner at h
  refine lv_aload_n hx hb dX10_manner_0 rfl (lv_at hl 0 rfl) ?_
  refine lv_iconst (v := 0) hx hb dX10_manner_1 (by decide) ?_
  obtain ⟨X1, h2, h⟩ := ob h
  refine xr_putI C0 W0 cl_X10 0 (by decide) fl_X10_1 rfl rfl rfl (by decide) h2 dX10_manner_2 (fun H locs W0 => ?_)
  refine lv_iload_n hx hb dX10_manner_5 rfl (lv_at hl 1 rfl) ?_
  refine lv_if_lt (tgt := 42) hx hb dX10_manner_6 (by decide) (fun hcq => ?_) (fun hcq => ?_)
  · have h := it_t hcq h
    refine lv_iconst (v := 0) hx hb dX10_manner_42 (by decide) ?_
    exact xr_zret C0 W0 hret (by decide) (Option.some.inj h) dX10_manner_43
  · have h := it_f hcq h
    refine lv_iload_n hx hb dX10_manner_9 rfl (lv_at hl 1 rfl) ?_
    refine lv_iconst (v := 3) hx hb dX10_manner_10 (by decide) ?_
    refine lv_icmp_gt (tgt := 42) hx hb dX10_manner_11 (by decide) (fun hcq => ?_) (fun hcq => ?_)
    · have h := it_t hcq h
      refine lv_iconst (v := 0) hx hb dX10_manner_42 (by decide) ?_
      exact xr_zret C0 W0 hret (by decide) (Option.some.inj h) dX10_manner_43
    · have h := it_f hcq h
      refine lv_iload_n hx hb dX10_manner_14 rfl (lv_at hl 2 rfl) ?_
      refine lv_if_lt (tgt := 42) hx hb dX10_manner_15 (by decide) (fun hcq => ?_) (fun hcq => ?_)
      · have h := it_t hcq h
        refine lv_iconst (v := 0) hx hb dX10_manner_42 (by decide) ?_
        exact xr_zret C0 W0 hret (by decide) (Option.some.inj h) dX10_manner_43
      · have h := it_f hcq h
        refine lv_iload_n hx hb dX10_manner_18 rfl (lv_at hl 3 rfl) ?_
        refine lv_bipush (v := 99) hx hb dX10_manner_19 (by decide) ?_
        refine lv_icmp_gt (tgt := 42) hx hb dX10_manner_21 (by decide) (fun hcq => ?_) (fun hcq => ?_)
        · have h := it_t hcq h
          refine lv_iconst (v := 0) hx hb dX10_manner_42 (by decide) ?_
          exact xr_zret C0 W0 hret (by decide) (Option.some.inj h) dX10_manner_43
        · have h := it_f hcq h
          refine lv_iload_n hx hb dX10_manner_24 rfl (lv_at hl 2 rfl) ?_
          refine lv_iload_n hx hb dX10_manner_25 rfl (lv_at hl 3 rfl) ?_
          refine lv_icmp_gt (tgt := 42) hx hb dX10_manner_26 (by decide) (fun hcq => ?_) (fun hcq => ?_)
          · have h := it_t hcq h
            refine lv_iconst (v := 0) hx hb dX10_manner_42 (by decide) ?_
            exact xr_zret C0 W0 hret (by decide) (Option.some.inj h) dX10_manner_43
          · have h := it_f hcq h
            refine lv_iload hx hb dX10_manner_29 (lv_at hl 4 rfl) ?_
            refine lv_iconst (v := 1) hx hb dX10_manner_31 (by decide) ?_
            refine lv_icmp_lt (tgt := 42) hx hb dX10_manner_32 (by decide) (fun hcq => ?_) (fun hcq => ?_)
            · have h := it_t hcq h
              refine lv_iconst (v := 0) hx hb dX10_manner_42 (by decide) ?_
              exact xr_zret C0 W0 hret (by decide) (Option.some.inj h) dX10_manner_43
            · have h := it_f hcq h
              refine lv_iload hx hb dX10_manner_35 (lv_at hl 4 rfl) ?_
              refine lv_bipush (v := 99) hx hb dX10_manner_37 (by decide) ?_
              refine lv_icmp_le (tgt := 44) hx hb dX10_manner_39 (by decide) (fun hcq => ?_) (fun hcq => ?_)
              · have h := it_t hcq h
                refine lv_aload_n hx hb dX10_manner_44 rfl (lv_at hl 0 rfl) ?_
                refine lv_iload_n hx hb dX10_manner_45 rfl (lv_at hl 1 rfl) ?_
                obtain ⟨X3, h4, h⟩ := ob h
                refine xr_putI C0 W0 cl_X10 10 (by decide) fl_X10_246 rfl rfl rfl (by decide) h4 dX10_manner_46 (fun H locs W0 => ?_)
                refine lv_aload_n hx hb dX10_manner_49 rfl (lv_at hl 0 rfl) ?_
                obtain ⟨q5, h6, h⟩ := ob h
                refine xr_getR C0 W0 cl_X10 11 (by decide) fl_X10_71 rfl h6 dX10_manner_50 ?_
                refine lv_iload_n hx hb dX10_manner_53 rfl (lv_at hl 1 rfl) ?_
                refine lv_iload_n hx hb dX10_manner_54 rfl (lv_at hl 2 rfl) ?_
                obtain ⟨X7, h8, h⟩ := ob h
                refine xr_iast C0 W0 h8 dX10_manner_55 (fun H locs W0 => ?_)
                refine lv_aload_n hx hb dX10_manner_56 rfl (lv_at hl 0 rfl) ?_
                obtain ⟨q9, h10, h⟩ := ob h
                refine xr_getR C0 W0 cl_X10 12 (by decide) fl_X10_74 rfl h10 dX10_manner_57 ?_
                refine lv_iload_n hx hb dX10_manner_60 rfl (lv_at hl 1 rfl) ?_
                refine lv_iload_n hx hb dX10_manner_61 rfl (lv_at hl 3 rfl) ?_
                obtain ⟨X11, h12, h⟩ := ob h
                refine xr_iast C0 W0 h12 dX10_manner_62 (fun H locs W0 => ?_)
                refine lv_aload_n hx hb dX10_manner_63 rfl (lv_at hl 0 rfl) ?_
                obtain ⟨q13, h14, h⟩ := ob h
                refine xr_getR C0 W0 cl_X10 13 (by decide) fl_X10_77 rfl h14 dX10_manner_64 ?_
                refine lv_iload_n hx hb dX10_manner_67 rfl (lv_at hl 1 rfl) ?_
                refine lv_iload hx hb dX10_manner_68 (lv_at hl 4 rfl) ?_
                obtain ⟨X15, h16, h⟩ := ob h
                refine xr_iast C0 W0 h16 dX10_manner_70 (fun H locs W0 => ?_)
                refine lv_iconst (v := 1) hx hb dX10_manner_71 (by decide) ?_
                exact xr_zret C0 W0 hret (by decide) (Option.some.inj h) dX10_manner_72
              · have h := it_f hcq h
                refine lv_iconst (v := 0) hx hb dX10_manner_42 (by decide) ?_
                exact xr_zret C0 W0 hret (by decide) (Option.some.inj h) dX10_manner_43
def fX10_isWordSo (l0 : Int32) (l1 : Int32) (l2 : Int32) (X : XW) : Option (Int32 × XW) :=
  if (l0 < 1 : Prop) then (some (0, X))
  else (if (5 < l0 : Prop) then (some (0, X))
    else (if (l1 < 0 : Prop) then (some (0, X))
      else (if (l0 ≤ l1 : Prop) then (some (0, X))
        else (if (l2 < 0 : Prop) then (some (0, X))
          else (if (99 < l2 : Prop) then (some (0, X))
            else (some (1, X)))))))
theorem ctX10_isWordSo (l : Launch) (G : XG) {l0 : Int32} {l1 : Int32} {l2 : Int32} {X : XW} {r : Int32 × XW}  (h : fX10_isWordSo l0 l1 l2 X = some r) : XM l G yX10_isWordSo cX10_isWordSo 3 (some .boolean) 0 0 0 0 [.int l0, .int l1, .int l2] X (some (.int r.1), r.2) := by
  refine xm_of (own := RX10) (by decide) rfl (Nat.le_of_ble_eq_true rfl) ?_
  intro p e s m below meth c ls C0 W0 hret hnm hl
  have hx := C0.1
  have hb := C0.2.1
  have hl : lv_has ls 3 [(0, .int l0), (1, .int l1), (2, .int l2)] := hl
  unfold fX10_isWordSo at h
  refine lv_iload_n hx hb dX10_isWordSo_0 rfl (lv_at hl 0 rfl) ?_
  refine lv_iconst (v := 1) hx hb dX10_isWordSo_1 (by decide) ?_
  refine lv_icmp_lt (tgt := 33) hx hb dX10_isWordSo_2 (by decide) (fun hcq => ?_) (fun hcq => ?_)
  · have h := it_t hcq h
    refine lv_iconst (v := 0) hx hb dX10_isWordSo_33 (by decide) ?_
    exact xr_zret C0 W0 hret (by decide) (Option.some.inj h) dX10_isWordSo_34
  · have h := it_f hcq h
    refine lv_iload_n hx hb dX10_isWordSo_5 rfl (lv_at hl 0 rfl) ?_
    refine lv_iconst (v := 5) hx hb dX10_isWordSo_6 (by decide) ?_
    refine lv_icmp_gt (tgt := 33) hx hb dX10_isWordSo_7 (by decide) (fun hcq => ?_) (fun hcq => ?_)
    · have h := it_t hcq h
      refine lv_iconst (v := 0) hx hb dX10_isWordSo_33 (by decide) ?_
      exact xr_zret C0 W0 hret (by decide) (Option.some.inj h) dX10_isWordSo_34
    · have h := it_f hcq h
      refine lv_iload_n hx hb dX10_isWordSo_10 rfl (lv_at hl 1 rfl) ?_
      refine lv_if_lt (tgt := 33) hx hb dX10_isWordSo_11 (by decide) (fun hcq => ?_) (fun hcq => ?_)
      · have h := it_t hcq h
        refine lv_iconst (v := 0) hx hb dX10_isWordSo_33 (by decide) ?_
        exact xr_zret C0 W0 hret (by decide) (Option.some.inj h) dX10_isWordSo_34
      · have h := it_f hcq h
        refine lv_iload_n hx hb dX10_isWordSo_14 rfl (lv_at hl 1 rfl) ?_
        refine lv_iload_n hx hb dX10_isWordSo_15 rfl (lv_at hl 0 rfl) ?_
        refine lv_icmp_ge (tgt := 33) hx hb dX10_isWordSo_16 (by decide) (fun hcq => ?_) (fun hcq => ?_)
        · have h := it_t hcq h
          refine lv_iconst (v := 0) hx hb dX10_isWordSo_33 (by decide) ?_
          exact xr_zret C0 W0 hret (by decide) (Option.some.inj h) dX10_isWordSo_34
        · have h := it_f hcq h
          refine lv_iload_n hx hb dX10_isWordSo_19 rfl (lv_at hl 2 rfl) ?_
          refine lv_if_lt (tgt := 33) hx hb dX10_isWordSo_20 (by decide) (fun hcq => ?_) (fun hcq => ?_)
          · have h := it_t hcq h
            refine lv_iconst (v := 0) hx hb dX10_isWordSo_33 (by decide) ?_
            exact xr_zret C0 W0 hret (by decide) (Option.some.inj h) dX10_isWordSo_34
          · have h := it_f hcq h
            refine lv_iload_n hx hb dX10_isWordSo_23 rfl (lv_at hl 2 rfl) ?_
            refine lv_bipush (v := 99) hx hb dX10_isWordSo_24 (by decide) ?_
            refine lv_icmp_gt (tgt := 33) hx hb dX10_isWordSo_26 (by decide) (fun hcq => ?_) (fun hcq => ?_)
            · have h := it_t hcq h
              refine lv_iconst (v := 0) hx hb dX10_isWordSo_33 (by decide) ?_
              exact xr_zret C0 W0 hret (by decide) (Option.some.inj h) dX10_isWordSo_34
            · have h := it_f hcq h
              refine lv_iconst (v := 1) hx hb dX10_isWordSo_29 (by decide) ?_
              refine lv_goto (tgt := 34) hx hb dX10_isWordSo_30 (by decide) ?_
              exact xr_zret C0 W0 hret (by decide) (Option.some.inj h) dX10_isWordSo_34
def fX10_tells (l0 : Nat) (l1 : Int32) (l2 : Int32) (l3 : Int32) (l4 : Int32) (l5 : Int32) (l6 : Int32) (X : XW) : Option (XW) :=
  gR X l0 10 31 >>= fun q1 =>
  uI X q1 l1 l2 >>= fun X3 =>
  gR X3 l0 10 32 >>= fun q5 =>
  uI X3 q5 l1 l3 >>= fun X7 =>
  gR X7 l0 10 33 >>= fun q9 =>
  uI X7 q9 l1 l4 >>= fun X11 =>
  gR X11 l0 10 34 >>= fun q13 =>
  uZ X11 q13 l1 l5 >>= fun X15 =>
  gR X15 l0 10 35 >>= fun q17 =>
  uZ X15 q17 l1 l6 >>= fun X19 =>
  some X19
theorem ctX10_tells (l : Launch) (G : XG) {l0 : Nat} {l1 : Int32} {l2 : Int32} {l3 : Int32} {l4 : Int32} {l5 : Int32} {l6 : Int32} {X : XW} {r : XW}  (h : fX10_tells l0 l1 l2 l3 l4 l5 l6 X = some r) : XM l G yX10_tells cX10_tells 7 none 0 0 0 0 [.ref l0, .int l1, .int l2, .int l3, .int l4, .int l5, .int l6] X (none, r) := by
  refine xm_of (own := RX10) (by decide) rfl (Nat.le_of_ble_eq_true rfl) ?_
  intro p e s m below meth c ls C0 W0 hret hnm hl
  have hx := C0.1
  have hb := C0.2.1
  have hl : lv_has ls 7 [(0, .ref l0), (1, .int l1), (2, .int l2), (3, .int l3), (4, .int l4), (5, .int l5), (6, .int l6)] := hl
  unfold fX10_tells at h
  refine lv_aload_n hx hb dX10_tells_0 rfl (lv_at hl 0 rfl) ?_
  obtain ⟨q1, h2, h⟩ := ob h
  refine xr_getR C0 W0 cl_X10 31 (by decide) fl_X10_123 rfl h2 dX10_tells_1 ?_
  refine lv_iload_n hx hb dX10_tells_4 rfl (lv_at hl 1 rfl) ?_
  refine lv_iload_n hx hb dX10_tells_5 rfl (lv_at hl 2 rfl) ?_
  obtain ⟨X3, h4, h⟩ := ob h
  refine xr_iast C0 W0 h4 dX10_tells_6 (fun H locs W0 => ?_)
  refine lv_aload_n hx hb dX10_tells_7 rfl (lv_at hl 0 rfl) ?_
  obtain ⟨q5, h6, h⟩ := ob h
  refine xr_getR C0 W0 cl_X10 32 (by decide) fl_X10_126 rfl h6 dX10_tells_8 ?_
  refine lv_iload_n hx hb dX10_tells_11 rfl (lv_at hl 1 rfl) ?_
  refine lv_iload_n hx hb dX10_tells_12 rfl (lv_at hl 3 rfl) ?_
  obtain ⟨X7, h8, h⟩ := ob h
  refine xr_iast C0 W0 h8 dX10_tells_13 (fun H locs W0 => ?_)
  refine lv_aload_n hx hb dX10_tells_14 rfl (lv_at hl 0 rfl) ?_
  obtain ⟨q9, h10, h⟩ := ob h
  refine xr_getR C0 W0 cl_X10 33 (by decide) fl_X10_129 rfl h10 dX10_tells_15 ?_
  refine lv_iload_n hx hb dX10_tells_18 rfl (lv_at hl 1 rfl) ?_
  refine lv_iload hx hb dX10_tells_19 (lv_at hl 4 rfl) ?_
  obtain ⟨X11, h12, h⟩ := ob h
  refine xr_iast C0 W0 h12 dX10_tells_21 (fun H locs W0 => ?_)
  refine lv_aload_n hx hb dX10_tells_22 rfl (lv_at hl 0 rfl) ?_
  obtain ⟨q13, h14, h⟩ := ob h
  refine xr_getR C0 W0 cl_X10 34 (by decide) fl_X10_132 rfl h14 dX10_tells_23 ?_
  refine lv_iload_n hx hb dX10_tells_26 rfl (lv_at hl 1 rfl) ?_
  refine lv_iload hx hb dX10_tells_27 (lv_at hl 5 rfl) ?_
  obtain ⟨X15, h16, h⟩ := ob h
  refine xr_zast C0 W0 h16 dX10_tells_29 (fun H locs W0 => ?_)
  refine lv_aload_n hx hb dX10_tells_30 rfl (lv_at hl 0 rfl) ?_
  obtain ⟨q17, h18, h⟩ := ob h
  refine xr_getR C0 W0 cl_X10 35 (by decide) fl_X10_135 rfl h18 dX10_tells_31 ?_
  refine lv_iload_n hx hb dX10_tells_34 rfl (lv_at hl 1 rfl) ?_
  refine lv_iload hx hb dX10_tells_35 (lv_at hl 6 rfl) ?_
  obtain ⟨X19, h20, h⟩ := ob h
  refine xr_zast C0 W0 h20 dX10_tells_37 (fun H locs W0 => ?_)
  exact xr_vret C0 W0 hret (Option.some.inj h).symm dX10_tells_38
def fX10_word (l0 : Nat) (l1 : Int32) (l2 : Int32) (l3 : Int32) (l4 : Int32) (l5 : Int32) (X : XW) : Option (Int32 × XW) :=
  pI X l0 10 0 0 >>= fun X1 =>
  fX10_isWordSo l1 l2 l3 X1 >>= fun r3 =>
  if (r3.1 = 0 : Prop) then (some ((-1), r3.2))
  else (gR r3.2 l0 10 30 >>= fun q5 =>
    gI r3.2 l0 10 29 >>= fun v7 =>
    aI r3.2 q5 1 v7 >>= fun v9 =>
    if (v9 = 16 : Prop) then (some ((-1), r3.2))
    else (gI r3.2 l0 10 29 >>= fun v11 =>
      gR r3.2 l0 10 30 >>= fun q13 =>
      gI r3.2 l0 10 29 >>= fun v15 =>
      aI r3.2 q13 1 v15 >>= fun v17 =>
      gK r3.2 l0 10 >>= fun u19 =>
      fX10_tells l0 ((16 * v11) + v17) l1 l2 l3 l4 l5 r3.2 >>= fun X21 =>
      gR X21 l0 10 30 >>= fun q23 =>
      gI X21 l0 10 29 >>= fun v25 =>
      aI X21 q23 1 v25 >>= fun v27 =>
      uI X21 q23 v25 (v27 + 1) >>= fun X29 =>
      gR X29 l0 10 30 >>= fun q31 =>
      gI X29 l0 10 29 >>= fun v33 =>
      aI X29 q31 1 v33 >>= fun v35 =>
      some (v35, X29)))
theorem ctX10_word (l : Launch) (G : XG) {l0 : Nat} {l1 : Int32} {l2 : Int32} {l3 : Int32} {l4 : Int32} {l5 : Int32} {X : XW} {r : Int32 × XW}  (h : fX10_word l0 l1 l2 l3 l4 l5 X = some r) : XM l G yX10_word cX10_word 6 (some .int) 1 60 0 0 [.ref l0, .int l1, .int l2, .int l3, .int l4, .int l5] X (some (.int r.1), r.2) := by
  refine xm_of (own := RX10) (by decide) rfl (Nat.le_of_ble_eq_true rfl) ?_
  intro p e s m below meth c ls C0 W0 hret hnm hl
  have hx := C0.1
  have hb := C0.2.1
  have hl : lv_has ls 6 [(0, .ref l0), (1, .int l1), (2, .int l2), (3, .int l3), (4, .int l4), (5, .int l5)] := hl
  unfold fX10_word at h
  refine lv_aload_n hx hb dX10_word_0 rfl (lv_at hl 0 rfl) ?_
  refine lv_iconst (v := 0) hx hb dX10_word_1 (by decide) ?_
  obtain ⟨X1, h2, h⟩ := ob h
  refine xr_putI C0 W0 cl_X10 0 (by decide) fl_X10_1 rfl rfl rfl (by decide) h2 dX10_word_2 (fun H locs W0 => ?_)
  refine lv_iload_n hx hb dX10_word_5 rfl (lv_at hl 1 rfl) ?_
  refine lv_iload_n hx hb dX10_word_6 rfl (lv_at hl 2 rfl) ?_
  refine lv_iload_n hx hb dX10_word_7 rfl (lv_at hl 3 rfl) ?_
  obtain ⟨r3, h4, h⟩ := ob h
  refine xr_S (As := [.int l1, .int l2, .int l3]) (rest := []) C0 W0 (ctX10_isWordSo l G h4) mc_X10_isWordSo ms_X10_isWordSo ml_X10_279 ⟨by decide, by decide⟩ rfl hl.1 rfl (Nat.le_of_ble_eq_true rfl) ⟨by decide, by decide⟩ dX10_word_8 (fun H locs W0 => ?_)
  refine W.cs (cells' := 0) (slots' := 0) rfl rfl ?_
  refine W.eq (g2 := F0 m 11 ls [.int r3.1]) rfl ?_
  refine lv_if_eq (tgt := 28) hx hb dX10_word_11 (by decide) (fun hcq => ?_) (fun hcq => ?_)
  · have h := it_t hcq h
    refine lv_iconst (v := (-1)) hx hb dX10_word_28 (by decide) ?_
    exact xr_iret C0 W0 hret (Option.some.inj h) dX10_word_29
  · have h := it_f hcq h
    refine lv_aload_n hx hb dX10_word_14 rfl (lv_at hl 0 rfl) ?_
    obtain ⟨q5, h6, h⟩ := ob h
    refine xr_getR C0 W0 cl_X10 30 (by decide) fl_X10_120 rfl h6 dX10_word_15 ?_
    refine lv_aload_n hx hb dX10_word_18 rfl (lv_at hl 0 rfl) ?_
    obtain ⟨v7, h8, h⟩ := ob h
    refine xr_getI C0 W0 cl_X10 29 (by decide) fl_X10_283 rfl h8 dX10_word_19 ?_
    obtain ⟨v9, h10, h⟩ := ob h
    refine xr_iald C0 W0 h10 dX10_word_22 ?_
    refine lv_bipush (v := 16) hx hb dX10_word_23 (by decide) ?_
    refine lv_icmp_ne (tgt := 30) hx hb dX10_word_25 (by decide) (fun hcq => ?_) (fun hcq => ?_)
    · have h := it_f hcq h
      refine lv_aload_n hx hb dX10_word_30 rfl (lv_at hl 0 rfl) ?_
      refine lv_bipush (v := 16) hx hb dX10_word_31 (by decide) ?_
      refine lv_aload_n hx hb dX10_word_33 rfl (lv_at hl 0 rfl) ?_
      obtain ⟨v11, h12, h⟩ := ob h
      refine xr_getI C0 W0 cl_X10 29 (by decide) fl_X10_283 rfl h12 dX10_word_34 ?_
      refine lv_imul hx hb dX10_word_37 ?_
      refine lv_aload_n hx hb dX10_word_38 rfl (lv_at hl 0 rfl) ?_
      obtain ⟨q13, h14, h⟩ := ob h
      refine xr_getR C0 W0 cl_X10 30 (by decide) fl_X10_120 rfl h14 dX10_word_39 ?_
      refine lv_aload_n hx hb dX10_word_42 rfl (lv_at hl 0 rfl) ?_
      obtain ⟨v15, h16, h⟩ := ob h
      refine xr_getI C0 W0 cl_X10 29 (by decide) fl_X10_283 rfl h16 dX10_word_43 ?_
      obtain ⟨v17, h18, h⟩ := ob h
      refine xr_iald C0 W0 h18 dX10_word_46 ?_
      refine lv_iadd hx hb dX10_word_47 ?_
      refine lv_iload_n hx hb dX10_word_48 rfl (lv_at hl 1 rfl) ?_
      refine lv_iload_n hx hb dX10_word_49 rfl (lv_at hl 2 rfl) ?_
      refine lv_iload_n hx hb dX10_word_50 rfl (lv_at hl 3 rfl) ?_
      refine lv_iload hx hb dX10_word_51 (lv_at hl 4 rfl) ?_
      refine lv_iload hx hb dX10_word_53 (lv_at hl 5 rfl) ?_
      obtain ⟨u19, h20, h⟩ := ob h
      obtain ⟨X21, h22, h⟩ := ob h
      refine xr_V (As := [.int ((16 * v11) + v17), .int l1, .int l2, .int l3, .int l4, .int l5]) (rest := []) C0 W0 (ctX10_tells l G h22) (gK_of h20) (rr := (RX10, TX10, 57)) rfl rfl mc_X10_tells mv_X10_tells ml_X10_286 ⟨by decide, by decide⟩ rfl hl.1 rfl (Nat.le_of_ble_eq_true rfl) ⟨by decide, by decide⟩ dX10_word_55 (fun H locs W0 => ?_)
      refine W.cs (cells' := 0) (slots' := 0) rfl rfl ?_
      refine W.eq (g2 := F0 m 58 ls []) rfl ?_
      refine lv_aload_n hx hb dX10_word_58 rfl (lv_at hl 0 rfl) ?_
      obtain ⟨q23, h24, h⟩ := ob h
      refine xr_getR C0 W0 cl_X10 30 (by decide) fl_X10_120 rfl h24 dX10_word_59 ?_
      refine lv_aload_n hx hb dX10_word_62 rfl (lv_at hl 0 rfl) ?_
      obtain ⟨v25, h26, h⟩ := ob h
      refine xr_getI C0 W0 cl_X10 29 (by decide) fl_X10_283 rfl h26 dX10_word_63 ?_
      refine lv_dup2_11 hx hb dX10_word_66 rfl rfl ?_
      obtain ⟨v27, h28, h⟩ := ob h
      refine xr_iald C0 W0 h28 dX10_word_67 ?_
      refine lv_iconst (v := 1) hx hb dX10_word_68 (by decide) ?_
      refine lv_iadd hx hb dX10_word_69 ?_
      obtain ⟨X29, h30, h⟩ := ob h
      refine xr_iast C0 W0 h30 dX10_word_70 (fun H locs W0 => ?_)
      refine lv_aload_n hx hb dX10_word_71 rfl (lv_at hl 0 rfl) ?_
      obtain ⟨q31, h32, h⟩ := ob h
      refine xr_getR C0 W0 cl_X10 30 (by decide) fl_X10_120 rfl h32 dX10_word_72 ?_
      refine lv_aload_n hx hb dX10_word_75 rfl (lv_at hl 0 rfl) ?_
      obtain ⟨v33, h34, h⟩ := ob h
      refine xr_getI C0 W0 cl_X10 29 (by decide) fl_X10_283 rfl h34 dX10_word_76 ?_
      obtain ⟨v35, h36, h⟩ := ob h
      refine xr_iald C0 W0 h36 dX10_word_79 ?_
      exact xr_iret C0 W0 hret (Option.some.inj h) dX10_word_80
    · have h := it_t hcq h
      refine lv_iconst (v := (-1)) hx hb dX10_word_28 (by decide) ?_
      exact xr_iret C0 W0 hret (Option.some.inj h) dX10_word_29
