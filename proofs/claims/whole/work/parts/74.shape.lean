/-! VoiceShaper.shape (written by mkshape.py) -/
def fX9_shape_j17   (X : XW) : Option (Option Int32 × XW) :=
  some (none, X)
def fX9_shape (l0 : Nat) (l1 : Int32) (l2 : Int32) (X : XW) : Option (Option Int32 × XW) :=
  gK X l0 9 >>= fun u1 =>
  fX9_shapeInHand l0 X >>= fun r3 =>
  if (l1 < 0 : Prop) then (fX9_shape_j17  r3.2)
  else (gI r3.2 r3.1 6 3 >>= fun v5 =>
    if (l1 < v5 : Prop) then (if l2 = 0 then (gR r3.2 r3.1 6 1 >>= fun q7 =>
        aQ r3.2 q7 6 13 >>= fun q9 =>
        aI r3.2 q9 1 l1 >>= fun v11 =>
        some (some v11, r3.2))
      else (if l2 = 1 then (gR r3.2 r3.1 6 1 >>= fun q13 =>
        aQ r3.2 q13 6 1 >>= fun q15 =>
        aI r3.2 q15 1 l1 >>= fun v17 =>
        some (some v17, r3.2))
      else (if l2 = 2 then (gR r3.2 r3.1 6 1 >>= fun q19 =>
        aQ r3.2 q19 6 2 >>= fun q21 =>
        aI r3.2 q21 1 l1 >>= fun v23 =>
        some (some v23, r3.2))
      else (if l2 = 3 then (gR r3.2 r3.1 6 1 >>= fun q25 =>
        aQ r3.2 q25 6 11 >>= fun q27 =>
        aI r3.2 q27 1 l1 >>= fun v29 =>
        some (some v29, r3.2))
      else (if l2 = 4 then (gR r3.2 r3.1 6 1 >>= fun q31 =>
        aQ r3.2 q31 6 9 >>= fun q33 =>
        aI r3.2 q33 1 l1 >>= fun v35 =>
        some (some v35, r3.2))
      else (if l2 = 5 then (gR r3.2 r3.1 6 1 >>= fun q37 =>
        aQ r3.2 q37 6 0 >>= fun q39 =>
        aI r3.2 q39 1 l1 >>= fun v41 =>
        some (some v41, r3.2))
      else (some (none, r3.2))))))))
    else (fX9_shape_j17  r3.2))
theorem tX9_shape_j17 {p : Program} {l : Launch} {e : Env} {s : State} {m : MethodId} {args : Array Value} {below : List Frame} {meth : Method} {c : Code} {G : XG} {X0 : XW} (C0 : XC p s m args meth c RX9 cX9_shape 4 G) (hret : meth.sig.returnType = (some .int)) (hlt : l.stackTraces = false) (hout : ∀ x ∈ c.exceptionTable.toList, False) {r : Option Int32 × XW}  {X : XW} {H : Heap} {locs : List Loc} {ls : Array Slot} (W0 : XD G X0 X s H locs) (hl : lv_has ls 4 []) (h : fX9_shape_j17  X = some r) : W p l e { frames := 6, cells := 1, slots := 6, locals := 360 } s m args below meth c H locs 0 0 (vx_MQ below (XQo G X0 r) (XTo G X0 r) args s 1 6 (xAd X0)) (F0 m 17 ls []) := by
  have hx := C0.1
  have hb := C0.2.1
  unfold fX9_shape_j17 at h
  exact xs_throw (rest := []) C0 W0 hlt hout (W0.2.2.2.2.2.2.2.2.2.2.1) (Option.some.inj h) hl.1 dX9_shape_17 dX9_shape_20 dX9_shape_21 dX9_shape_23 dX9_shape_26 (by decide) (by decide) (by decide) (by decide) (by decide) (by decide)
theorem ctX9_shape (l : Launch) (G : XG) {l0 : Nat} {l1 : Int32} {l2 : Int32} {X : XW} {r : Option Int32 × XW} (hlt : l.stackTraces = false)  (h : fX9_shape l0 l1 l2 X = some r) : XMt l G yX9_shape cX9_shape 4 (some .int) 6 360 1 6 [.ref l0, .int l1, .int l2] X r := by
  refine xmt_of (own := RX9) (by decide) rfl (Nat.le_of_ble_eq_true rfl) ?_
  intro p e s m below meth c ls C0 W0 hret hout hl
  have hx := C0.1
  have hb := C0.2.1
  have hl : lv_has ls 4 [(0, .ref l0), (1, .int l1), (2, .int l2)] := hl
  unfold fX9_shape at h
  refine lv_aload_n hx hb dX9_shape_0 rfl (lv_at hl 0 rfl) ?_
  obtain ⟨u1, h2, h⟩ := ob h
  obtain ⟨r3, h4, h⟩ := ob h
  refine xr_V (As := []) (rest := []) C0 W0 (ctX9_shapeInHand l G h4) (gK_of h2) (rr := (RX9, TX9, 12)) rfl rfl mc_X9_shapeInHand mv_X9_shapeInHand ml_X9_146 ⟨by decide, by decide⟩ rfl hl.1 rfl (Nat.le_of_ble_eq_true rfl) ⟨by decide, by decide⟩ dX9_shape_1 (fun H locs W0 => ?_)
  refine W.cs (cells' := 0) (slots' := 0) rfl rfl ?_
  refine W.eq (g2 := F0 m 4 ls [.ref r3.1]) rfl ?_
  refine lv_astore_n (lv' := [(3, .ref r3.1), (0, .ref l0), (1, .int l1), (2, .int l2)]) hx hb dX9_shape_4 rfl hl (by decide) rfl (fun ls hl => ?_)
  refine lv_iload_n hx hb dX9_shape_5 rfl (lv_at hl 2 rfl) ?_
  refine lv_if_lt (tgt := 17) hx hb dX9_shape_6 (by decide) (fun hcq => ?_) (fun hcq => ?_)
  · have h := it_t hcq h
    exact tX9_shape_j17 C0 hret hlt hout W0 (lv_sub hl [] rfl) h
  · have h := it_f hcq h
    refine lv_iload_n hx hb dX9_shape_9 rfl (lv_at hl 2 rfl) ?_
    refine lv_aload_n hx hb dX9_shape_10 rfl (lv_at hl 0 rfl) ?_
    obtain ⟨v5, h6, h⟩ := ob h
    refine xr_getI C0 W0 cl_X6 3 (by decide) fl_X9_174 rfl h6 dX9_shape_11 ?_
    refine lv_icmp_lt (tgt := 27) hx hb dX9_shape_14 (by decide) (fun hcq => ?_) (fun hcq => ?_)
    · have h := it_t hcq h
      refine lv_iload_n hx hb dX9_shape_27 rfl (lv_at hl 3 rfl) ?_
      by_cases c : l2 = 0
      · have h := it_t c h
        refine lv_tableIn (tgt := 68) hx hb dX9_shape_28 (by rw [c]; decide) (by rw [c]; decide) (by rw [c]; rfl) (by decide) ?_
        refine lv_aload_n hx hb dX9_shape_68 rfl (lv_at hl 0 rfl) ?_
        obtain ⟨q7, h8, h⟩ := ob h
        refine xr_getR C0 W0 cl_X6 1 (by decide) fl_X9_182 rfl h8 dX9_shape_69 ?_
        refine lv_bipush (v := 13) hx hb dX9_shape_72 (by decide) ?_
        obtain ⟨q9, h10, h⟩ := ob h
        refine xr_aldq C0 W0 6 (by decide) rfl rfl h10 dX9_shape_74 ?_
        refine lv_iload_n hx hb dX9_shape_75 rfl (lv_at hl 2 rfl) ?_
        obtain ⟨v11, h12, h⟩ := ob h
        refine xr_iald C0 W0 h12 dX9_shape_76 ?_
        refine W.widen (k := 1) (n := 6) (by decide) (by decide) ?_
        exact xs_iret C0 W0 hret (Option.some.inj h) dX9_shape_77
      have h := it_f c h
      have cn0 := lv_neT c (show (0 : Int32).toInt = 0 by decide)
      by_cases c : l2 = 1
      · have h := it_t c h
        refine lv_tableIn (tgt := 78) hx hb dX9_shape_28 (by rw [c]; decide) (by rw [c]; decide) (by rw [c]; rfl) (by decide) ?_
        refine lv_aload_n hx hb dX9_shape_78 rfl (lv_at hl 0 rfl) ?_
        obtain ⟨q13, h14, h⟩ := ob h
        refine xr_getR C0 W0 cl_X6 1 (by decide) fl_X9_182 rfl h14 dX9_shape_79 ?_
        refine lv_iconst (v := 1) hx hb dX9_shape_82 (by decide) ?_
        obtain ⟨q15, h16, h⟩ := ob h
        refine xr_aldq C0 W0 6 (by decide) rfl rfl h16 dX9_shape_83 ?_
        refine lv_iload_n hx hb dX9_shape_84 rfl (lv_at hl 2 rfl) ?_
        obtain ⟨v17, h18, h⟩ := ob h
        refine xr_iald C0 W0 h18 dX9_shape_85 ?_
        refine W.widen (k := 1) (n := 6) (by decide) (by decide) ?_
        exact xs_iret C0 W0 hret (Option.some.inj h) dX9_shape_86
      have h := it_f c h
      have cn1 := lv_neT c (show (1 : Int32).toInt = 1 by decide)
      by_cases c : l2 = 2
      · have h := it_t c h
        refine lv_tableIn (tgt := 87) hx hb dX9_shape_28 (by rw [c]; decide) (by rw [c]; decide) (by rw [c]; rfl) (by decide) ?_
        refine lv_aload_n hx hb dX9_shape_87 rfl (lv_at hl 0 rfl) ?_
        obtain ⟨q19, h20, h⟩ := ob h
        refine xr_getR C0 W0 cl_X6 1 (by decide) fl_X9_182 rfl h20 dX9_shape_88 ?_
        refine lv_iconst (v := 2) hx hb dX9_shape_91 (by decide) ?_
        obtain ⟨q21, h22, h⟩ := ob h
        refine xr_aldq C0 W0 6 (by decide) rfl rfl h22 dX9_shape_92 ?_
        refine lv_iload_n hx hb dX9_shape_93 rfl (lv_at hl 2 rfl) ?_
        obtain ⟨v23, h24, h⟩ := ob h
        refine xr_iald C0 W0 h24 dX9_shape_94 ?_
        refine W.widen (k := 1) (n := 6) (by decide) (by decide) ?_
        exact xs_iret C0 W0 hret (Option.some.inj h) dX9_shape_95
      have h := it_f c h
      have cn2 := lv_neT c (show (2 : Int32).toInt = 2 by decide)
      by_cases c : l2 = 3
      · have h := it_t c h
        refine lv_tableIn (tgt := 96) hx hb dX9_shape_28 (by rw [c]; decide) (by rw [c]; decide) (by rw [c]; rfl) (by decide) ?_
        refine lv_aload_n hx hb dX9_shape_96 rfl (lv_at hl 0 rfl) ?_
        obtain ⟨q25, h26, h⟩ := ob h
        refine xr_getR C0 W0 cl_X6 1 (by decide) fl_X9_182 rfl h26 dX9_shape_97 ?_
        refine lv_bipush (v := 11) hx hb dX9_shape_100 (by decide) ?_
        obtain ⟨q27, h28, h⟩ := ob h
        refine xr_aldq C0 W0 6 (by decide) rfl rfl h28 dX9_shape_102 ?_
        refine lv_iload_n hx hb dX9_shape_103 rfl (lv_at hl 2 rfl) ?_
        obtain ⟨v29, h30, h⟩ := ob h
        refine xr_iald C0 W0 h30 dX9_shape_104 ?_
        refine W.widen (k := 1) (n := 6) (by decide) (by decide) ?_
        exact xs_iret C0 W0 hret (Option.some.inj h) dX9_shape_105
      have h := it_f c h
      have cn3 := lv_neT c (show (3 : Int32).toInt = 3 by decide)
      by_cases c : l2 = 4
      · have h := it_t c h
        refine lv_tableIn (tgt := 106) hx hb dX9_shape_28 (by rw [c]; decide) (by rw [c]; decide) (by rw [c]; rfl) (by decide) ?_
        refine lv_aload_n hx hb dX9_shape_106 rfl (lv_at hl 0 rfl) ?_
        obtain ⟨q31, h32, h⟩ := ob h
        refine xr_getR C0 W0 cl_X6 1 (by decide) fl_X9_182 rfl h32 dX9_shape_107 ?_
        refine lv_bipush (v := 9) hx hb dX9_shape_110 (by decide) ?_
        obtain ⟨q33, h34, h⟩ := ob h
        refine xr_aldq C0 W0 6 (by decide) rfl rfl h34 dX9_shape_112 ?_
        refine lv_iload_n hx hb dX9_shape_113 rfl (lv_at hl 2 rfl) ?_
        obtain ⟨v35, h36, h⟩ := ob h
        refine xr_iald C0 W0 h36 dX9_shape_114 ?_
        refine W.widen (k := 1) (n := 6) (by decide) (by decide) ?_
        exact xs_iret C0 W0 hret (Option.some.inj h) dX9_shape_115
      have h := it_f c h
      have cn4 := lv_neT c (show (4 : Int32).toInt = 4 by decide)
      by_cases c : l2 = 5
      · have h := it_t c h
        refine lv_tableIn (tgt := 116) hx hb dX9_shape_28 (by rw [c]; decide) (by rw [c]; decide) (by rw [c]; rfl) (by decide) ?_
        refine lv_aload_n hx hb dX9_shape_116 rfl (lv_at hl 0 rfl) ?_
        obtain ⟨q37, h38, h⟩ := ob h
        refine xr_getR C0 W0 cl_X6 1 (by decide) fl_X9_182 rfl h38 dX9_shape_117 ?_
        refine lv_iconst (v := 0) hx hb dX9_shape_120 (by decide) ?_
        obtain ⟨q39, h40, h⟩ := ob h
        refine xr_aldq C0 W0 6 (by decide) rfl rfl h40 dX9_shape_121 ?_
        refine lv_iload_n hx hb dX9_shape_122 rfl (lv_at hl 2 rfl) ?_
        obtain ⟨v41, h42, h⟩ := ob h
        refine xr_iald C0 W0 h42 dX9_shape_123 ?_
        refine W.widen (k := 1) (n := 6) (by decide) (by decide) ?_
        exact xs_iret C0 W0 hret (Option.some.inj h) dX9_shape_124
      have h := it_f c h
      have cn5 := lv_neT c (show (5 : Int32).toInt = 5 by decide)
      refine lv_tableOut (tgt := 125) hx hb dX9_shape_28 (by omega) (by decide) ?_
      exact xs_throw (rest := []) C0 W0 hlt hout (W0.2.2.2.2.2.2.2.2.2.2.2.1) (Option.some.inj h) hl.1 dX9_shape_125 dX9_shape_128 dX9_shape_129 dX9_shape_131 dX9_shape_134 (by decide) (by decide) (by decide) (by decide) (by decide) (by decide)
    · have h := it_f hcq h
      exact tX9_shape_j17 C0 hret hlt hout W0 (lv_sub hl [] rfl) h
