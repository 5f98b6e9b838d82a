def fX9_shapeInHand (l0 : Nat) (X : XW) : Option (Nat × XW) :=
  gR X l0 9 10 >>= fun q1 =>
  gI X l0 9 2 >>= fun v3 =>
  gK X l0 9 >>= fun u5 =>
  fX9_prepare l0 q1 v3 X >>= fun X7 =>
  gR X7 l0 9 10 >>= fun q9 =>
  some (q9, X7)
theorem ctX9_shapeInHand (l : Launch) (G : XG) {l0 : Nat} {X : XW} {r : Nat × XW}  (h : fX9_shapeInHand l0 X = some r) : XM l G yX9_shapeInHand cX9_shapeInHand 1 (some (.object "VoiceShaper$Shape")) 5 300 0 0 [.ref l0] X (some (.ref r.1), r.2) := by
  refine xm_of (own := RX9) (by decide) rfl (Nat.le_of_ble_eq_true rfl) ?_
  intro p e s m below meth c ls C0 W0 hret hnm hl
  have hx := C0.1
  have hb := C0.2.1
  have hl : lv_has ls 1 [(0, .ref l0)] := hl
  unfold fX9_shapeInHand at h
  refine lv_aload_n hx hb dX9_shapeInHand_0 rfl (lv_at hl 0 rfl) ?_
  refine lv_aload_n hx hb dX9_shapeInHand_1 rfl (lv_at hl 0 rfl) ?_
  obtain ⟨q1, h2, h⟩ := ob h
  refine xr_getR C0 W0 cl_X9 10 (by decide) fl_X9_57 rfl h2 dX9_shapeInHand_2 ?_
  refine lv_aload_n hx hb dX9_shapeInHand_5 rfl (lv_at hl 0 rfl) ?_
  obtain ⟨v3, h4, h⟩ := ob h
  refine xr_getI C0 W0 cl_X9 2 (by decide) fl_X9_19 rfl h4 dX9_shapeInHand_6 ?_
  obtain ⟨u5, h6, h⟩ := ob h
  obtain ⟨X7, h8, h⟩ := ob h
  refine xr_V (As := [.ref q1, .int v3]) (rest := []) C0 W0 (ctX9_prepare l G h8) (gK_of h6) (rr := (RX9, TX9, 12)) rfl rfl mc_X9_prepare mv_X9_prepare ml_X9_195 ⟨by decide, by decide⟩ rfl hl.1 rfl (Nat.le_of_ble_eq_true rfl) ⟨by decide, by decide⟩ dX9_shapeInHand_9 (fun H locs W0 => ?_)
  refine W.cs (cells' := 0) (slots' := 0) rfl rfl ?_
  refine W.eq (g2 := F0 m 12 ls []) rfl ?_
  refine lv_aload_n hx hb dX9_shapeInHand_12 rfl (lv_at hl 0 rfl) ?_
  obtain ⟨q9, h10, h⟩ := ob h
  refine xr_getR C0 W0 cl_X9 10 (by decide) fl_X9_57 rfl h10 dX9_shapeInHand_13 ?_
  exact xr_aret C0 W0 hret (Option.some.inj h) dX9_shapeInHand_16
def fX9_phrases (l0 : Nat) (X : XW) : Option (Int32 × XW) :=
  gK X l0 9 >>= fun u1 =>
  fX9_shapeInHand l0 X >>= fun r3 =>
  gR r3.2 r3.1 6 0 >>= fun q5 =>
  gI r3.2 q5 3 7 >>= fun v7 =>
  some (v7, r3.2)
theorem ctX9_phrases (l : Launch) (G : XG) {l0 : Nat} {X : XW} {r : Int32 × XW}  (h : fX9_phrases l0 X = some r) : XM l G yX9_phrases cX9_phrases 1 (some .int) 6 360 0 0 [.ref l0] X (some (.int r.1), r.2) := by
  refine xm_of (own := RX9) (by decide) rfl (Nat.le_of_ble_eq_true rfl) ?_
  intro p e s m below meth c ls C0 W0 hret hnm hl
  have hx := C0.1
  have hb := C0.2.1
  have hl : lv_has ls 1 [(0, .ref l0)] := hl
  unfold fX9_phrases at h
  refine lv_aload_n hx hb dX9_phrases_0 rfl (lv_at hl 0 rfl) ?_
  obtain ⟨u1, h2, h⟩ := ob h
  obtain ⟨r3, h4, h⟩ := ob h
  refine xr_V (As := []) (rest := []) C0 W0 (ctX9_shapeInHand l G h4) (gK_of h2) (rr := (RX9, TX9, 12)) rfl rfl mc_X9_shapeInHand mv_X9_shapeInHand ml_X9_146 ⟨by decide, by decide⟩ rfl hl.1 rfl (Nat.le_of_ble_eq_true rfl) ⟨by decide, by decide⟩ dX9_phrases_1 (fun H locs W0 => ?_)
  refine W.cs (cells' := 0) (slots' := 0) rfl rfl ?_
  refine W.eq (g2 := F0 m 4 ls [.ref r3.1]) rfl ?_
  obtain ⟨q5, h6, h⟩ := ob h
  refine xr_getR C0 W0 cl_X6 0 (by decide) fl_X9_150 rfl h6 dX9_phrases_4 ?_
  obtain ⟨v7, h8, h⟩ := ob h
  refine xr_getI C0 W0 cl_X3 7 (by decide) fl_X9_154 rfl h8 dX9_phrases_7 ?_
  exact xr_iret C0 W0 hret (Option.some.inj h) dX9_phrases_10
def fX9_phrase (l0 : Nat) (l1 : Int32) (l2 : Int32) (X : XW) : Option (Int32 × XW) :=
  gK X l0 9 >>= fun u1 =>
  fX9_shapeInHand l0 X >>= fun r3 =>
  gR r3.2 r3.1 6 0 >>= fun q5 =>
  if (l1 < 0 : Prop) then (some ((-1), r3.2))
  else (gI r3.2 q5 3 7 >>= fun v7 =>
    if (l1 < v7 : Prop) then (if l2 = 0 then (gR r3.2 q5 3 0 >>= fun q9 =>
        aI r3.2 q9 1 l1 >>= fun v11 =>
        some (v11, r3.2))
      else (if l2 = 1 then (gR r3.2 q5 3 1 >>= fun q13 =>
        aI r3.2 q13 1 l1 >>= fun v15 =>
        some (v15, r3.2))
      else (if l2 = 2 then (gR r3.2 q5 3 2 >>= fun q17 =>
        aI r3.2 q17 1 l1 >>= fun v19 =>
        some (v19, r3.2))
      else (if l2 = 3 then (gR r3.2 q5 3 3 >>= fun q21 =>
        aI r3.2 q21 1 l1 >>= fun v23 =>
        some (v23, r3.2))
      else (if l2 = 4 then (gR r3.2 q5 3 5 >>= fun q25 =>
        aI r3.2 q25 1 0 >>= fun v27 =>
        some (v27, r3.2))
      else (some ((-1), r3.2)))))))
    else (some ((-1), r3.2)))
theorem ctX9_phrase (l : Launch) (G : XG) {l0 : Nat} {l1 : Int32} {l2 : Int32} {X : XW} {r : Int32 × XW}  (h : fX9_phrase l0 l1 l2 X = some r) : XM l G yX9_phrase cX9_phrase 4 (some .int) 6 360 0 0 [.ref l0, .int l1, .int l2] X (some (.int r.1), r.2) := by
  refine xm_of (own := RX9) (by decide) rfl (Nat.le_of_ble_eq_true rfl) ?_
  intro p e s m below meth c ls C0 W0 hret hnm hl
  have hx := C0.1
  have hb := C0.2.1
  have hl : lv_has ls 4 [(0, .ref l0), (1, .int l1), (2, .int l2)] := hl
  unfold fX9_phrase at h
  refine lv_aload_n hx hb dX9_phrase_0 rfl (lv_at hl 0 rfl) ?_
  obtain ⟨u1, h2, h⟩ := ob h
  obtain ⟨r3, h4, h⟩ := ob h
  refine xr_V (As := []) (rest := []) C0 W0 (ctX9_shapeInHand l G h4) (gK_of h2) (rr := (RX9, TX9, 12)) rfl rfl mc_X9_shapeInHand mv_X9_shapeInHand ml_X9_146 ⟨by decide, by decide⟩ rfl hl.1 rfl (Nat.le_of_ble_eq_true rfl) ⟨by decide, by decide⟩ dX9_phrase_1 (fun H locs W0 => ?_)
  refine W.cs (cells' := 0) (slots' := 0) rfl rfl ?_
  refine W.eq (g2 := F0 m 4 ls [.ref r3.1]) rfl ?_
  obtain ⟨q5, h6, h⟩ := ob h
  refine xr_getR C0 W0 cl_X6 0 (by decide) fl_X9_150 rfl h6 dX9_phrase_4 ?_
  refine lv_astore_n (lv' := [(3, .ref q5), (0, .ref l0), (1, .int l1), (2, .int l2)]) hx hb dX9_phrase_7 rfl hl (by decide) rfl (fun ls hl => ?_)
  refine lv_iload_n hx hb dX9_phrase_8 rfl (lv_at hl 2 rfl) ?_
  refine lv_if_lt (tgt := 20) hx hb dX9_phrase_9 (by decide) (fun hcq => ?_) (fun hcq => ?_)
  · have h := it_t hcq h
    refine lv_iconst (v := (-1)) hx hb dX9_phrase_20 (by decide) ?_
    exact xr_iret C0 W0 hret (Option.some.inj h) dX9_phrase_21
  · have h := it_f hcq h
    refine lv_iload_n hx hb dX9_phrase_12 rfl (lv_at hl 2 rfl) ?_
    refine lv_aload_n hx hb dX9_phrase_13 rfl (lv_at hl 0 rfl) ?_
    obtain ⟨v7, h8, h⟩ := ob h
    refine xr_getI C0 W0 cl_X3 7 (by decide) fl_X9_154 rfl h8 dX9_phrase_14 ?_
    refine lv_icmp_lt (tgt := 22) hx hb dX9_phrase_17 (by decide) (fun hcq => ?_) (fun hcq => ?_)
    · have h := it_t hcq h
      refine lv_iload_n hx hb dX9_phrase_22 rfl (lv_at hl 3 rfl) ?_
      by_cases c : l2 = 0
      · have h := it_t c h
        refine lv_tableIn (tgt := 56) hx hb dX9_phrase_23 (by rw [c]; decide) (by rw [c]; decide) (by rw [c]; rfl) (by decide) ?_
        refine lv_aload_n hx hb dX9_phrase_56 rfl (lv_at hl 0 rfl) ?_
        obtain ⟨q9, h10, h⟩ := ob h
        refine xr_getR C0 W0 cl_X3 0 (by decide) fl_X9_159 rfl h10 dX9_phrase_57 ?_
        refine lv_iload_n hx hb dX9_phrase_60 rfl (lv_at hl 2 rfl) ?_
        obtain ⟨v11, h12, h⟩ := ob h
        refine xr_iald C0 W0 h12 dX9_phrase_61 ?_
        exact xr_iret C0 W0 hret (Option.some.inj h) dX9_phrase_62
      have h := it_f c h
      have cn0 := lv_neT c (show (0 : Int32).toInt = 0 by decide)
      by_cases c : l2 = 1
      · have h := it_t c h
        refine lv_tableIn (tgt := 63) hx hb dX9_phrase_23 (by rw [c]; decide) (by rw [c]; decide) (by rw [c]; rfl) (by decide) ?_
        refine lv_aload_n hx hb dX9_phrase_63 rfl (lv_at hl 0 rfl) ?_
        obtain ⟨q13, h14, h⟩ := ob h
        refine xr_getR C0 W0 cl_X3 1 (by decide) fl_X9_162 rfl h14 dX9_phrase_64 ?_
        refine lv_iload_n hx hb dX9_phrase_67 rfl (lv_at hl 2 rfl) ?_
        obtain ⟨v15, h16, h⟩ := ob h
        refine xr_iald C0 W0 h16 dX9_phrase_68 ?_
        exact xr_iret C0 W0 hret (Option.some.inj h) dX9_phrase_69
      have h := it_f c h
      have cn1 := lv_neT c (show (1 : Int32).toInt = 1 by decide)
      by_cases c : l2 = 2
      · have h := it_t c h
        refine lv_tableIn (tgt := 70) hx hb dX9_phrase_23 (by rw [c]; decide) (by rw [c]; decide) (by rw [c]; rfl) (by decide) ?_
        refine lv_aload_n hx hb dX9_phrase_70 rfl (lv_at hl 0 rfl) ?_
        obtain ⟨q17, h18, h⟩ := ob h
        refine xr_getR C0 W0 cl_X3 2 (by decide) fl_X9_165 rfl h18 dX9_phrase_71 ?_
        refine lv_iload_n hx hb dX9_phrase_74 rfl (lv_at hl 2 rfl) ?_
        obtain ⟨v19, h20, h⟩ := ob h
        refine xr_iald C0 W0 h20 dX9_phrase_75 ?_
        exact xr_iret C0 W0 hret (Option.some.inj h) dX9_phrase_76
      have h := it_f c h
      have cn2 := lv_neT c (show (2 : Int32).toInt = 2 by decide)
      by_cases c : l2 = 3
      · have h := it_t c h
        refine lv_tableIn (tgt := 77) hx hb dX9_phrase_23 (by rw [c]; decide) (by rw [c]; decide) (by rw [c]; rfl) (by decide) ?_
        refine lv_aload_n hx hb dX9_phrase_77 rfl (lv_at hl 0 rfl) ?_
        obtain ⟨q21, h22, h⟩ := ob h
        refine xr_getR C0 W0 cl_X3 3 (by decide) fl_X9_168 rfl h22 dX9_phrase_78 ?_
        refine lv_iload_n hx hb dX9_phrase_81 rfl (lv_at hl 2 rfl) ?_
        obtain ⟨v23, h24, h⟩ := ob h
        refine xr_iald C0 W0 h24 dX9_phrase_82 ?_
        exact xr_iret C0 W0 hret (Option.some.inj h) dX9_phrase_83
      have h := it_f c h
      have cn3 := lv_neT c (show (3 : Int32).toInt = 3 by decide)
      by_cases c : l2 = 4
      · have h := it_t c h
        refine lv_tableIn (tgt := 84) hx hb dX9_phrase_23 (by rw [c]; decide) (by rw [c]; decide) (by rw [c]; rfl) (by decide) ?_
        refine lv_aload_n hx hb dX9_phrase_84 rfl (lv_at hl 0 rfl) ?_
        obtain ⟨q25, h26, h⟩ := ob h
        refine xr_getR C0 W0 cl_X3 5 (by decide) fl_X9_171 rfl h26 dX9_phrase_85 ?_
        refine lv_iconst (v := 0) hx hb dX9_phrase_88 (by decide) ?_
        obtain ⟨v27, h28, h⟩ := ob h
        refine xr_iald C0 W0 h28 dX9_phrase_89 ?_
        exact xr_iret C0 W0 hret (Option.some.inj h) dX9_phrase_90
      have h := it_f c h
      have cn4 := lv_neT c (show (4 : Int32).toInt = 4 by decide)
      refine lv_tableOut (tgt := 91) hx hb dX9_phrase_23 (by omega) (by decide) ?_
      refine lv_iconst (v := (-1)) hx hb dX9_phrase_91 (by decide) ?_
      exact xr_iret C0 W0 hret (Option.some.inj h) dX9_phrase_92
    · have h := it_f hcq h
      refine lv_iconst (v := (-1)) hx hb dX9_phrase_20 (by decide) ?_
      exact xr_iret C0 W0 hret (Option.some.inj h) dX9_phrase_21
def fX9_fit (l0 : Nat) (X : XW) : Option (Int32 × XW) :=
  gK X l0 9 >>= fun u1 =>
  fX9_shapeInHand l0 X >>= fun r3 =>
  gI r3.2 r3.1 6 4 >>= fun v5 =>
  if (v5 = 0 : Prop) then (some (0, r3.2))
  else (some (1, r3.2))
theorem ctX9_fit (l : Launch) (G : XG) {l0 : Nat} {X : XW} {r : Int32 × XW}  (h : fX9_fit l0 X = some r) : XM l G yX9_fit cX9_fit 1 (some .int) 6 360 0 0 [.ref l0] X (some (.int r.1), r.2) := by
  refine xm_of (own := RX9) (by decide) rfl (Nat.le_of_ble_eq_true rfl) ?_
  intro p e s m below meth c ls C0 W0 hret hnm hl
  have hx := C0.1
  have hb := C0.2.1
  have hl : lv_has ls 1 [(0, .ref l0)] := hl
  unfold fX9_fit at h
  refine lv_aload_n hx hb dX9_fit_0 rfl (lv_at hl 0 rfl) ?_
  obtain ⟨u1, h2, h⟩ := ob h
  obtain ⟨r3, h4, h⟩ := ob h
  refine xr_V (As := []) (rest := []) C0 W0 (ctX9_shapeInHand l G h4) (gK_of h2) (rr := (RX9, TX9, 12)) rfl rfl mc_X9_shapeInHand mv_X9_shapeInHand ml_X9_146 ⟨by decide, by decide⟩ rfl hl.1 rfl (Nat.le_of_ble_eq_true rfl) ⟨by decide, by decide⟩ dX9_fit_1 (fun H locs W0 => ?_)
  refine W.cs (cells' := 0) (slots' := 0) rfl rfl ?_
  refine W.eq (g2 := F0 m 4 ls [.ref r3.1]) rfl ?_
  obtain ⟨v5, h6, h⟩ := ob h
  refine xr_getI C0 W0 cl_X6 4 (by decide) fl_X9_187 rfl h6 dX9_fit_4 ?_
  refine lv_if_eq (tgt := 14) hx hb dX9_fit_7 (by decide) (fun hcq => ?_) (fun hcq => ?_)
  · have h := it_t hcq h
    refine lv_iconst (v := 0) hx hb dX9_fit_14 (by decide) ?_
    exact xr_iret C0 W0 hret (Option.some.inj h) dX9_fit_15
  · have h := it_f hcq h
    refine lv_iconst (v := 1) hx hb dX9_fit_10 (by decide) ?_
    refine lv_goto (tgt := 15) hx hb dX9_fit_11 (by decide) ?_
    exact xr_iret C0 W0 hret (Option.some.inj h) dX9_fit_15
def fX9_pause (l0 : Nat) (l1 : Int32) (l2 : Int32) (X : XW) : Option (Int32 × XW) :=
  gK X l0 9 >>= fun u1 =>
  fX9_shapeInHand l0 X >>= fun r3 =>
  gR r3.2 r3.1 6 0 >>= fun q5 =>
  if (l1 < 0 : Prop) then (some ((-1), r3.2))
  else (gI r3.2 q5 3 7 >>= fun v7 =>
    if ((v7 - 1) ≤ l1 : Prop) then (some ((-1), r3.2))
    else (fX9_isWithin l2 0 1000 r3.2 >>= fun r9 =>
      if (r9.1 = 0 : Prop) then (some ((-1), r9.2))
      else (gK r9.2 q5 3 >>= fun u11 =>
        fX3_pauseBehind q5 l1 l2 r9.2 >>= fun r13 =>
        some (r13.1, r13.2))))
theorem ctX9_pause (l : Launch) (G : XG) {l0 : Nat} {l1 : Int32} {l2 : Int32} {X : XW} {r : Int32 × XW}  (h : fX9_pause l0 l1 l2 X = some r) : XM l G yX9_pause cX9_pause 4 (some .int) 6 360 0 0 [.ref l0, .int l1, .int l2] X (some (.int r.1), r.2) := by
  refine xm_of (own := RX9) (by decide) rfl (Nat.le_of_ble_eq_true rfl) ?_
  intro p e s m below meth c ls C0 W0 hret hnm hl
  have hx := C0.1
  have hb := C0.2.1
  have hl : lv_has ls 4 [(0, .ref l0), (1, .int l1), (2, .int l2)] := hl
  unfold fX9_pause at h
  refine lv_aload_n hx hb dX9_pause_0 rfl (lv_at hl 0 rfl) ?_
  obtain ⟨u1, h2, h⟩ := ob h
  obtain ⟨r3, h4, h⟩ := ob h
  refine xr_V (As := []) (rest := []) C0 W0 (ctX9_shapeInHand l G h4) (gK_of h2) (rr := (RX9, TX9, 12)) rfl rfl mc_X9_shapeInHand mv_X9_shapeInHand ml_X9_146 ⟨by decide, by decide⟩ rfl hl.1 rfl (Nat.le_of_ble_eq_true rfl) ⟨by decide, by decide⟩ dX9_pause_1 (fun H locs W0 => ?_)
  refine W.cs (cells' := 0) (slots' := 0) rfl rfl ?_
  refine W.eq (g2 := F0 m 4 ls [.ref r3.1]) rfl ?_
  obtain ⟨q5, h6, h⟩ := ob h
  refine xr_getR C0 W0 cl_X6 0 (by decide) fl_X9_150 rfl h6 dX9_pause_4 ?_
  refine lv_astore_n (lv' := [(3, .ref q5), (0, .ref l0), (1, .int l1), (2, .int l2)]) hx hb dX9_pause_7 rfl hl (by decide) rfl (fun ls hl => ?_)
  refine lv_iload_n hx hb dX9_pause_8 rfl (lv_at hl 2 rfl) ?_
  refine lv_if_lt (tgt := 33) hx hb dX9_pause_9 (by decide) (fun hcq => ?_) (fun hcq => ?_)
  · have h := it_t hcq h
    refine lv_iconst (v := (-1)) hx hb dX9_pause_33 (by decide) ?_
    exact xr_iret C0 W0 hret (Option.some.inj h) dX9_pause_34
  · have h := it_f hcq h
    refine lv_iload_n hx hb dX9_pause_12 rfl (lv_at hl 2 rfl) ?_
    refine lv_aload_n hx hb dX9_pause_13 rfl (lv_at hl 0 rfl) ?_
    obtain ⟨v7, h8, h⟩ := ob h
    refine xr_getI C0 W0 cl_X3 7 (by decide) fl_X9_154 rfl h8 dX9_pause_14 ?_
    refine lv_iconst (v := 1) hx hb dX9_pause_17 (by decide) ?_
    refine lv_isub hx hb dX9_pause_18 ?_
    refine lv_icmp_ge (tgt := 33) hx hb dX9_pause_19 (by decide) (fun hcq => ?_) (fun hcq => ?_)
    · have h := it_t hcq h
      refine lv_iconst (v := (-1)) hx hb dX9_pause_33 (by decide) ?_
      exact xr_iret C0 W0 hret (Option.some.inj h) dX9_pause_34
    · have h := it_f hcq h
      refine lv_iload_n hx hb dX9_pause_22 rfl (lv_at hl 3 rfl) ?_
      refine lv_iconst (v := 0) hx hb dX9_pause_23 (by decide) ?_
      refine lv_sipush (v := 1000) hx hb dX9_pause_24 (by decide) ?_
      obtain ⟨r9, h10, h⟩ := ob h
      refine xr_S (As := [.int l2, .int 0, .int 1000]) (rest := []) C0 W0 (ctX9_isWithin l G h10) mc_X9_isWithin ms_X9_isWithin ml_X9_95 ⟨by decide, by decide⟩ rfl hl.1 rfl (Nat.le_of_ble_eq_true rfl) ⟨by decide, by decide⟩ dX9_pause_27 (fun H locs W0 => ?_)
      refine W.cs (cells' := 0) (slots' := 0) rfl rfl ?_
      refine W.eq (g2 := F0 m 30 ls [.int r9.1]) rfl ?_
      refine lv_if_ne (tgt := 35) hx hb dX9_pause_30 (by decide) (fun hcq => ?_) (fun hcq => ?_)
      · have h := it_f hcq h
        refine lv_aload_n hx hb dX9_pause_35 rfl (lv_at hl 0 rfl) ?_
        refine lv_iload_n hx hb dX9_pause_36 rfl (lv_at hl 2 rfl) ?_
        refine lv_iload_n hx hb dX9_pause_37 rfl (lv_at hl 3 rfl) ?_
        obtain ⟨u11, h12, h⟩ := ob h
        obtain ⟨r13, h14, h⟩ := ob h
        refine xr_V (As := [.int l1, .int l2]) (rest := []) C0 W0 (ctX3_pauseBehind l G h14) (gK_of h12) (rr := (RX3, TX3, 8)) rfl rfl mc_X3_pauseBehind mv_X3_pauseBehind ml_X9_191 ⟨by decide, by decide⟩ rfl hl.1 rfl (Nat.le_of_ble_eq_true rfl) ⟨by decide, by decide⟩ dX9_pause_38 (fun H locs W0 => ?_)
        refine W.cs (cells' := 0) (slots' := 0) rfl rfl ?_
        refine W.eq (g2 := F0 m 41 ls [.int r13.1]) rfl ?_
        exact xr_iret C0 W0 hret (Option.some.inj h) dX9_pause_41
      · have h := it_t hcq h
        refine lv_iconst (v := (-1)) hx hb dX9_pause_33 (by decide) ?_
        exact xr_iret C0 W0 hret (Option.some.inj h) dX9_pause_34
def fX9_apart (l0 : Nat) (l1 : Int32) (l2 : Int32) (X : XW) : Option (Int32 × XW) :=
  gK X l0 9 >>= fun u1 =>
  fX9_isReading l0 l1 X >>= fun r3 =>
  if (r3.1 = 0 : Prop) then (some ((-2), r3.2))
  else (gK r3.2 l0 9 >>= fun u5 =>
    fX9_isReading l0 l2 r3.2 >>= fun r7 =>
    if (r7.1 = 0 : Prop) then (some ((-2), r7.2))
    else (gR r7.2 l0 9 10 >>= fun q9 =>
      gK r7.2 l0 9 >>= fun u11 =>
      fX9_prepare l0 q9 l1 r7.2 >>= fun X13 =>
      gR X13 l0 9 11 >>= fun q15 =>
      gK X13 l0 9 >>= fun u17 =>
      fX9_prepare l0 q15 l2 X13 >>= fun X19 =>
      gR X19 l0 9 10 >>= fun q21 =>
      gR X19 l0 9 11 >>= fun q23 =>
      gK X19 q21 6 >>= fun u25 =>
      fX6_firstUnlike q21 q23 X19 >>= fun r27 =>
      some (r27.1, r27.2)))
theorem ctX9_apart (l : Launch) (G : XG) {l0 : Nat} {l1 : Int32} {l2 : Int32} {X : XW} {r : Int32 × XW}  (h : fX9_apart l0 l1 l2 X = some r) : XM l G yX9_apart cX9_apart 3 (some .int) 5 300 0 0 [.ref l0, .int l1, .int l2] X (some (.int r.1), r.2) := by
  refine xm_of (own := RX9) (by decide) rfl (Nat.le_of_ble_eq_true rfl) ?_
  intro p e s m below meth c ls C0 W0 hret hnm hl
  have hx := C0.1
  have hb := C0.2.1
  have hl : lv_has ls 3 [(0, .ref l0), (1, .int l1), (2, .int l2)] := hl
  unfold fX9_apart at h
  refine lv_aload_n hx hb dX9_apart_0 rfl (lv_at hl 0 rfl) ?_
  refine lv_iload_n hx hb dX9_apart_1 rfl (lv_at hl 1 rfl) ?_
  obtain ⟨u1, h2, h⟩ := ob h
  obtain ⟨r3, h4, h⟩ := ob h
  refine xr_V (As := [.int l1]) (rest := []) C0 W0 (ctX9_isReading l G h4) (gK_of h2) (rr := (RX9, TX9, 12)) rfl rfl mc_X9_isReading mv_X9_isReading ml_X9_91 ⟨by decide, by decide⟩ rfl hl.1 rfl (Nat.le_of_ble_eq_true rfl) ⟨by decide, by decide⟩ dX9_apart_2 (fun H locs W0 => ?_)
  refine W.cs (cells' := 0) (slots' := 0) rfl rfl ?_
  refine W.eq (g2 := F0 m 5 ls [.int r3.1]) rfl ?_
  refine lv_if_eq (tgt := 16) hx hb dX9_apart_5 (by decide) (fun hcq => ?_) (fun hcq => ?_)
  · have h := it_t hcq h
    refine lv_bipush (v := (-2)) hx hb dX9_apart_16 (by decide) ?_
    exact xr_iret C0 W0 hret (Option.some.inj h) dX9_apart_18
  · have h := it_f hcq h
    refine lv_aload_n hx hb dX9_apart_8 rfl (lv_at hl 0 rfl) ?_
    refine lv_iload_n hx hb dX9_apart_9 rfl (lv_at hl 2 rfl) ?_
    obtain ⟨u5, h6, h⟩ := ob h
    obtain ⟨r7, h8, h⟩ := ob h
    refine xr_V (As := [.int l2]) (rest := []) C0 W0 (ctX9_isReading l G h8) (gK_of h6) (rr := (RX9, TX9, 12)) rfl rfl mc_X9_isReading mv_X9_isReading ml_X9_91 ⟨by decide, by decide⟩ rfl hl.1 rfl (Nat.le_of_ble_eq_true rfl) ⟨by decide, by decide⟩ dX9_apart_10 (fun H locs W0 => ?_)
    refine W.cs (cells' := 0) (slots' := 0) rfl rfl ?_
    refine W.eq (g2 := F0 m 13 ls [.int r7.1]) rfl ?_
    refine lv_if_ne (tgt := 19) hx hb dX9_apart_13 (by decide) (fun hcq => ?_) (fun hcq => ?_)
    · have h := it_f hcq h
      refine lv_aload_n hx hb dX9_apart_19 rfl (lv_at hl 0 rfl) ?_
      refine lv_aload_n hx hb dX9_apart_20 rfl (lv_at hl 0 rfl) ?_
      obtain ⟨q9, h10, h⟩ := ob h
      refine xr_getR C0 W0 cl_X9 10 (by decide) fl_X9_57 rfl h10 dX9_apart_21 ?_
      refine lv_iload_n hx hb dX9_apart_24 rfl (lv_at hl 1 rfl) ?_
      obtain ⟨u11, h12, h⟩ := ob h
      obtain ⟨X13, h14, h⟩ := ob h
      refine xr_V (As := [.ref q9, .int l1]) (rest := []) C0 W0 (ctX9_prepare l G h14) (gK_of h12) (rr := (RX9, TX9, 12)) rfl rfl mc_X9_prepare mv_X9_prepare ml_X9_195 ⟨by decide, by decide⟩ rfl hl.1 rfl (Nat.le_of_ble_eq_true rfl) ⟨by decide, by decide⟩ dX9_apart_25 (fun H locs W0 => ?_)
      refine W.cs (cells' := 0) (slots' := 0) rfl rfl ?_
      refine W.eq (g2 := F0 m 28 ls []) rfl ?_
      refine lv_aload_n hx hb dX9_apart_28 rfl (lv_at hl 0 rfl) ?_
      refine lv_aload_n hx hb dX9_apart_29 rfl (lv_at hl 0 rfl) ?_
      obtain ⟨q15, h16, h⟩ := ob h
      refine xr_getR C0 W0 cl_X9 11 (by decide) fl_X9_61 rfl h16 dX9_apart_30 ?_
      refine lv_iload_n hx hb dX9_apart_33 rfl (lv_at hl 2 rfl) ?_
      obtain ⟨u17, h18, h⟩ := ob h
      obtain ⟨X19, h20, h⟩ := ob h
      refine xr_V (As := [.ref q15, .int l2]) (rest := []) C0 W0 (ctX9_prepare l G h20) (gK_of h18) (rr := (RX9, TX9, 12)) rfl rfl mc_X9_prepare mv_X9_prepare ml_X9_195 ⟨by decide, by decide⟩ rfl hl.1 rfl (Nat.le_of_ble_eq_true rfl) ⟨by decide, by decide⟩ dX9_apart_34 (fun H locs W0 => ?_)
      refine W.cs (cells' := 0) (slots' := 0) rfl rfl ?_
      refine W.eq (g2 := F0 m 37 ls []) rfl ?_
      refine lv_aload_n hx hb dX9_apart_37 rfl (lv_at hl 0 rfl) ?_
      obtain ⟨q21, h22, h⟩ := ob h
      refine xr_getR C0 W0 cl_X9 10 (by decide) fl_X9_57 rfl h22 dX9_apart_38 ?_
      refine lv_aload_n hx hb dX9_apart_41 rfl (lv_at hl 0 rfl) ?_
      obtain ⟨q23, h24, h⟩ := ob h
      refine xr_getR C0 W0 cl_X9 11 (by decide) fl_X9_61 rfl h24 dX9_apart_42 ?_
      obtain ⟨u25, h26, h⟩ := ob h
      obtain ⟨r27, h28, h⟩ := ob h
      refine xr_V (As := [.ref q23]) (rest := []) C0 W0 (ctX6_firstUnlike l G h28) (gK_of h26) (rr := (RX6, TX6, 5)) rfl rfl mc_X6_firstUnlike mv_X6_firstUnlike ml_X9_199 ⟨by decide, by decide⟩ rfl hl.1 rfl (Nat.le_of_ble_eq_true rfl) ⟨by decide, by decide⟩ dX9_apart_45 (fun H locs W0 => ?_)
      refine W.cs (cells' := 0) (slots' := 0) rfl rfl ?_
      refine W.eq (g2 := F0 m 48 ls [.int r27.1]) rfl ?_
      exact xr_iret C0 W0 hret (Option.some.inj h) dX9_apart_48
    · have h := it_t hcq h
      refine lv_bipush (v := (-2)) hx hb dX9_apart_16 (by decide) ?_
      exact xr_iret C0 W0 hret (Option.some.inj h) dX9_apart_18
def fX9_count (l0 : Nat) (l1 : Int32) (X : XW) : Option (Int32 × XW) :=
  gR X l0 9 0 >>= fun q1 =>
  gI X l0 9 2 >>= fun v3 =>
  aQ X q1 5 v3 >>= fun q5 =>
  if l1 = 0 then (gI X l0 9 1 >>= fun v7 =>
    some (v7, X))
  else (if l1 = 1 then (gI X l0 9 2 >>= fun v9 =>
    some (v9, X))
  else (if l1 = 2 then (gI X q5 4 6 >>= fun v11 =>
    some (v11, X))
  else (if l1 = 3 then (gI X q5 4 7 >>= fun v13 =>
    some (v13, X))
  else (if l1 = 4 then (gI X l0 9 4 >>= fun v15 =>
    some (v15, X))
  else (if l1 = 5 then (gR X l0 9 3 >>= fun q17 =>
    gI X l0 9 4 >>= fun v19 =>
    aQ X q17 4 v19 >>= fun q21 =>
    gR X q21 2 0 >>= fun q23 =>
    gI X q23 5 6 >>= fun v25 =>
    some (v25, X))
  else (if l1 = 6 then (gR X l0 9 8 >>= fun q27 =>
    gI X q27 7 1 >>= fun v29 =>
    some (v29, X))
  else (if l1 = 7 then (gK X q5 4 >>= fun u31 =>
    fX4_markCount q5 X >>= fun r33 =>
    some (r33.1, r33.2))
  else (some ((-1), X)))))))))
theorem ctX9_count (l : Launch) (G : XG) {l0 : Nat} {l1 : Int32} {X : XW} {r : Int32 × XW}  (h : fX9_count l0 l1 X = some r) : XM l G yX9_count cX9_count 3 (some .int) 1 60 0 0 [.ref l0, .int l1] X (some (.int r.1), r.2) := by
  refine xm_of (own := RX9) (by decide) rfl (Nat.le_of_ble_eq_true rfl) ?_
  intro p e s m below meth c ls C0 W0 hret hnm hl
  have hx := C0.1
  have hb := C0.2.1
  have hl : lv_has ls 3 [(0, .ref l0), (1, .int l1)] := hl
  unfold fX9_count at h
  refine lv_aload_n hx hb dX9_count_0 rfl (lv_at hl 0 rfl) ?_
  obtain ⟨q1, h2, h⟩ := ob h
  refine xr_getR C0 W0 cl_X9 0 (by decide) fl_X9_11 rfl h2 dX9_count_1 ?_
  refine lv_aload_n hx hb dX9_count_4 rfl (lv_at hl 0 rfl) ?_
  obtain ⟨v3, h4, h⟩ := ob h
  refine xr_getI C0 W0 cl_X9 2 (by decide) fl_X9_19 rfl h4 dX9_count_5 ?_
  obtain ⟨q5, h6, h⟩ := ob h
  refine xr_aldq C0 W0 5 (by decide) rfl rfl h6 dX9_count_8 ?_
  refine lv_astore_n (lv' := [(2, .ref q5), (0, .ref l0), (1, .int l1)]) hx hb dX9_count_9 rfl hl (by decide) rfl (fun ls hl => ?_)
  refine lv_iload_n hx hb dX9_count_10 rfl (lv_at hl 2 rfl) ?_
  by_cases c : l1 = 0
  · have h := it_t c h
    refine lv_tableIn (tgt := 56) hx hb dX9_count_11 (by rw [c]; decide) (by rw [c]; decide) (by rw [c]; rfl) (by decide) ?_
    refine lv_aload_n hx hb dX9_count_56 rfl (lv_at hl 1 rfl) ?_
    obtain ⟨v7, h8, h⟩ := ob h
    refine xr_getI C0 W0 cl_X9 1 (by decide) fl_X9_15 rfl h8 dX9_count_57 ?_
    exact xr_iret C0 W0 hret (Option.some.inj h) dX9_count_60
  have h := it_f c h
  have cn0 := lv_neT c (show (0 : Int32).toInt = 0 by decide)
  by_cases c : l1 = 1
  · have h := it_t c h
    refine lv_tableIn (tgt := 61) hx hb dX9_count_11 (by rw [c]; decide) (by rw [c]; decide) (by rw [c]; rfl) (by decide) ?_
    refine lv_aload_n hx hb dX9_count_61 rfl (lv_at hl 1 rfl) ?_
    obtain ⟨v9, h10, h⟩ := ob h
    refine xr_getI C0 W0 cl_X9 2 (by decide) fl_X9_19 rfl h10 dX9_count_62 ?_
    exact xr_iret C0 W0 hret (Option.some.inj h) dX9_count_65
  have h := it_f c h
  have cn1 := lv_neT c (show (1 : Int32).toInt = 1 by decide)
  by_cases c : l1 = 2
  · have h := it_t c h
    refine lv_tableIn (tgt := 66) hx hb dX9_count_11 (by rw [c]; decide) (by rw [c]; decide) (by rw [c]; rfl) (by decide) ?_
    refine lv_aload_n hx hb dX9_count_66 rfl (lv_at hl 0 rfl) ?_
    obtain ⟨v11, h12, h⟩ := ob h
    refine xr_getI C0 W0 cl_X4 6 (by decide) fl_X9_66 rfl h12 dX9_count_67 ?_
    exact xr_iret C0 W0 hret (Option.some.inj h) dX9_count_70
  have h := it_f c h
  have cn2 := lv_neT c (show (2 : Int32).toInt = 2 by decide)
  by_cases c : l1 = 3
  · have h := it_t c h
    refine lv_tableIn (tgt := 71) hx hb dX9_count_11 (by rw [c]; decide) (by rw [c]; decide) (by rw [c]; rfl) (by decide) ?_
    refine lv_aload_n hx hb dX9_count_71 rfl (lv_at hl 0 rfl) ?_
    obtain ⟨v13, h14, h⟩ := ob h
    refine xr_getI C0 W0 cl_X4 7 (by decide) fl_X9_133 rfl h14 dX9_count_72 ?_
    exact xr_iret C0 W0 hret (Option.some.inj h) dX9_count_75
  have h := it_f c h
  have cn3 := lv_neT c (show (3 : Int32).toInt = 3 by decide)
  by_cases c : l1 = 4
  · have h := it_t c h
    refine lv_tableIn (tgt := 76) hx hb dX9_count_11 (by rw [c]; decide) (by rw [c]; decide) (by rw [c]; rfl) (by decide) ?_
    refine lv_aload_n hx hb dX9_count_76 rfl (lv_at hl 1 rfl) ?_
    obtain ⟨v15, h16, h⟩ := ob h
    refine xr_getI C0 W0 cl_X9 4 (by decide) fl_X9_28 rfl h16 dX9_count_77 ?_
    exact xr_iret C0 W0 hret (Option.some.inj h) dX9_count_80
  have h := it_f c h
  have cn4 := lv_neT c (show (4 : Int32).toInt = 4 by decide)
  by_cases c : l1 = 5
  · have h := it_t c h
    refine lv_tableIn (tgt := 81) hx hb dX9_count_11 (by rw [c]; decide) (by rw [c]; decide) (by rw [c]; rfl) (by decide) ?_
    refine lv_aload_n hx hb dX9_count_81 rfl (lv_at hl 1 rfl) ?_
    obtain ⟨q17, h18, h⟩ := ob h
    refine xr_getR C0 W0 cl_X9 3 (by decide) fl_X9_24 rfl h18 dX9_count_82 ?_
    refine lv_aload_n hx hb dX9_count_85 rfl (lv_at hl 1 rfl) ?_
    obtain ⟨v19, h20, h⟩ := ob h
    refine xr_getI C0 W0 cl_X9 4 (by decide) fl_X9_28 rfl h20 dX9_count_86 ?_
    obtain ⟨q21, h22, h⟩ := ob h
    refine xr_aldq C0 W0 4 (by decide) rfl rfl h22 dX9_count_89 ?_
    obtain ⟨q23, h24, h⟩ := ob h
    refine xr_getR C0 W0 cl_X2 0 (by decide) fl_X9_130 rfl h24 dX9_count_90 ?_
    obtain ⟨v25, h26, h⟩ := ob h
    refine xr_getI C0 W0 cl_X5 6 (by decide) fl_X9_203 rfl h26 dX9_count_93 ?_
    exact xr_iret C0 W0 hret (Option.some.inj h) dX9_count_96
  have h := it_f c h
  have cn5 := lv_neT c (show (5 : Int32).toInt = 5 by decide)
  by_cases c : l1 = 6
  · have h := it_t c h
    refine lv_tableIn (tgt := 97) hx hb dX9_count_11 (by rw [c]; decide) (by rw [c]; decide) (by rw [c]; rfl) (by decide) ?_
    refine lv_aload_n hx hb dX9_count_97 rfl (lv_at hl 1 rfl) ?_
    obtain ⟨q27, h28, h⟩ := ob h
    refine xr_getR C0 W0 cl_X9 8 (by decide) fl_X9_43 rfl h28 dX9_count_98 ?_
    obtain ⟨v29, h30, h⟩ := ob h
    refine xr_getI C0 W0 cl_X7 1 (by decide) fl_X9_114 rfl h30 dX9_count_101 ?_
    exact xr_iret C0 W0 hret (Option.some.inj h) dX9_count_104
  have h := it_f c h
  have cn6 := lv_neT c (show (6 : Int32).toInt = 6 by decide)
  by_cases c : l1 = 7
  · have h := it_t c h
    refine lv_tableIn (tgt := 105) hx hb dX9_count_11 (by rw [c]; decide) (by rw [c]; decide) (by rw [c]; rfl) (by decide) ?_
    refine lv_aload_n hx hb dX9_count_105 rfl (lv_at hl 0 rfl) ?_
    obtain ⟨u31, h32, h⟩ := ob h
    obtain ⟨r33, h34, h⟩ := ob h
    refine xr_V (As := []) (rest := []) C0 W0 (ctX4_markCount l G h34) (gK_of h32) (rr := (RX4, TX4, 9)) rfl rfl mc_X4_markCount mv_X4_markCount ml_X9_208 ⟨by decide, by decide⟩ rfl hl.1 rfl (Nat.le_of_ble_eq_true rfl) ⟨by decide, by decide⟩ dX9_count_106 (fun H locs W0 => ?_)
    refine W.cs (cells' := 0) (slots' := 0) rfl rfl ?_
    refine W.eq (g2 := F0 m 109 ls [.int r33.1]) rfl ?_
    exact xr_iret C0 W0 hret (Option.some.inj h) dX9_count_109
  have h := it_f c h
  have cn7 := lv_neT c (show (7 : Int32).toInt = 7 by decide)
  refine lv_tableOut (tgt := 110) hx hb dX9_count_11 (by omega) (by decide) ?_
  refine lv_iconst (v := (-1)) hx hb dX9_count_110 (by decide) ?_
  exact xr_iret C0 W0 hret (Option.some.inj h) dX9_count_111
