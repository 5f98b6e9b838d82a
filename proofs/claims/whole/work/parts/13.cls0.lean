def fX0_init (l0 : Nat) (X : XW) : Option (XW) :=
  nA X 1 16 16 >>= fun r1 =>
  pR r1.2 l0 0 0 r1.1 >>= fun X3 =>
  pI X3 l0 0 1 0 >>= fun X5 =>
  some X5
theorem ctX0_init (l : Launch) (G : XG) {l0 : Nat} {X : XW} {r : XW}  (h : fX0_init l0 X = some r) : XM l G yX0_init cX0_init 1 none 1 60 1 16 [.ref l0] X (none, r) := by
  refine xm_of (own := RX0) (by decide) rfl (Nat.le_of_ble_eq_true rfl) ?_
  intro p e s m below meth c ls C0 W0 hret hin hl
  have hx := C0.1
  have hb := C0.2.1
  have hl : lv_has ls 1 [(0, .ref l0)] := hl
  unfold fX0_init at h
  refine lv_aload_n hx hb dX0_init_0 rfl (lv_at hl 0 rfl) ?_
  refine W.objInit hx hb C0.2.2.2.1 (C0.2.2.2.2.1 _ (xws_t 58 (by decide +kernel) rfl)) (C0.2.2.2.2.1 _ xoi1) (C0.2.2.2.2.1 _ xoi2) rfl (by rw [C0.2.2.1]; exact hl.1) rfl dX0_init_1 (by decide) (Nat.le_of_ble_eq_true rfl) ?_
  refine W.eq (g2 := F0 m 4 ls []) rfl ?_
  refine lv_aload_n hx hb dX0_init_4 rfl (lv_at hl 0 rfl) ?_
  refine lv_bipush (v := 16) hx hb dX0_init_5 (by decide) ?_
  obtain ⟨r1, h2, h⟩ := ob h
  refine xr_newa (atype := .int) C0 W0 1 16 rfl (by decide) (by decide) rfl ka_int (fun N => nw_int) (by decide) h2 (by decide) (by decide) dX0_init_7 (fun H W0 => ?_)
  refine W.cs (cells' := 1) (slots' := 16) rfl rfl ?_
  obtain ⟨X3, h4, h⟩ := ob h
  refine xr_putR C0 W0 cl_X0 0 (by decide) fl_X0_9 (Or.inr ⟨rfl, hin, rfl⟩) rfl ⟨rfl, rfl⟩ (by decide) h4 dX0_init_9 (fun H locs W0 => ?_)
  refine lv_aload_n hx hb dX0_init_12 rfl (lv_at hl 0 rfl) ?_
  refine lv_iconst (v := 0) hx hb dX0_init_13 (by decide) ?_
  obtain ⟨X5, h6, h⟩ := ob h
  refine xr_putI C0 W0 cl_X0 1 (by decide) fl_X0_15 rfl rfl rfl (by decide) h6 dX0_init_14 (fun H locs W0 => ?_)
  exact xr_vret C0 W0 hret (Option.some.inj h).symm dX0_init_17
def fX0_push (l0 : Nat) (l1 : Int32) (X : XW) : Option (XW) :=
  gI X l0 0 1 >>= fun v1 =>
  gR X l0 0 0 >>= fun q3 =>
  aE X q3 1 >>= fun v5 =>
  if (v5 ≤ v1 : Prop) then (some X)
  else (gR X l0 0 0 >>= fun q7 =>
    gI X l0 0 1 >>= fun v9 =>
    uI X q7 v9 l1 >>= fun X11 =>
    gI X11 l0 0 1 >>= fun v13 =>
    pI X11 l0 0 1 (v13 + 1) >>= fun X15 =>
    some X15)
theorem ctX0_push (l : Launch) (G : XG) {l0 : Nat} {l1 : Int32} {X : XW} {r : XW}  (h : fX0_push l0 l1 X = some r) : XM l G yX0_push cX0_push 2 none 0 0 0 0 [.ref l0, .int l1] X (none, r) := by
  refine xm_of (own := RX0) (by decide) rfl (Nat.le_of_ble_eq_true rfl) ?_
  intro p e s m below meth c ls C0 W0 hret hnm hl
  have hx := C0.1
  have hb := C0.2.1
  have hl : lv_has ls 2 [(0, .ref l0), (1, .int l1)] := hl
  unfold fX0_push at h
  refine lv_aload_n hx hb dX0_push_0 rfl (lv_at hl 0 rfl) ?_
  obtain ⟨v1, h2, h⟩ := ob h
  refine xr_getI C0 W0 cl_X0 1 (by decide) fl_X0_15 rfl h2 dX0_push_1 ?_
  refine lv_aload_n hx hb dX0_push_4 rfl (lv_at hl 0 rfl) ?_
  obtain ⟨q3, h4, h⟩ := ob h
  refine xr_getR C0 W0 cl_X0 0 (by decide) fl_X0_9 rfl h4 dX0_push_5 ?_
  obtain ⟨v5, h6, h⟩ := ob h
  refine xr_alen C0 W0 1 rfl h6 dX0_push_8 ?_
  refine lv_icmp_ge (tgt := 32) hx hb dX0_push_9 (by decide) (fun hcq => ?_) (fun hcq => ?_)
  · have h := it_t hcq h
    exact xr_vret C0 W0 hret (Option.some.inj h).symm dX0_push_32
  · have h := it_f hcq h
    refine lv_aload_n hx hb dX0_push_12 rfl (lv_at hl 0 rfl) ?_
    obtain ⟨q7, h8, h⟩ := ob h
    refine xr_getR C0 W0 cl_X0 0 (by decide) fl_X0_9 rfl h8 dX0_push_13 ?_
    refine lv_aload_n hx hb dX0_push_16 rfl (lv_at hl 0 rfl) ?_
    obtain ⟨v9, h10, h⟩ := ob h
    refine xr_getI C0 W0 cl_X0 1 (by decide) fl_X0_15 rfl h10 dX0_push_17 ?_
    refine lv_iload_n hx hb dX0_push_20 rfl (lv_at hl 1 rfl) ?_
    obtain ⟨X11, h12, h⟩ := ob h
    refine xr_iast C0 W0 h12 dX0_push_21 (fun H locs W0 => ?_)
    refine lv_aload_n hx hb dX0_push_22 rfl (lv_at hl 0 rfl) ?_
    refine lv_dup hx hb dX0_push_23 rfl ?_
    obtain ⟨v13, h14, h⟩ := ob h
    refine xr_getI C0 W0 cl_X0 1 (by decide) fl_X0_15 rfl h14 dX0_push_24 ?_
    refine lv_iconst (v := 1) hx hb dX0_push_27 (by decide) ?_
    refine lv_iadd hx hb dX0_push_28 ?_
    obtain ⟨X15, h16, h⟩ := ob h
    refine xr_putI C0 W0 cl_X0 1 (by decide) fl_X0_15 rfl rfl rfl (by decide) h16 dX0_push_29 (fun H locs W0 => ?_)
    exact xr_vret C0 W0 hret (Option.some.inj h).symm dX0_push_32
def fX0_pop (l0 : Nat) (X : XW) : Option (Int32 × XW) :=
  gI X l0 0 1 >>= fun v1 =>
  if (0 < v1 : Prop) then (gI X l0 0 1 >>= fun v3 =>
    pI X l0 0 1 (v3 - 1) >>= fun X5 =>
    gR X5 l0 0 0 >>= fun q7 =>
    gI X5 l0 0 1 >>= fun v9 =>
    aI X5 q7 1 v9 >>= fun v11 =>
    some (v11, X5))
  else (some (0, X))
theorem ctX0_pop (l : Launch) (G : XG) {l0 : Nat} {X : XW} {r : Int32 × XW}  (h : fX0_pop l0 X = some r) : XM l G yX0_pop cX0_pop 1 (some .int) 0 0 0 0 [.ref l0] X (some (.int r.1), r.2) := by
  refine xm_of (own := RX0) (by decide) rfl (Nat.le_of_ble_eq_true rfl) ?_
  intro p e s m below meth c ls C0 W0 hret hnm hl
  have hx := C0.1
  have hb := C0.2.1
  have hl : lv_has ls 1 [(0, .ref l0)] := hl
  unfold fX0_pop at h
  refine lv_aload_n hx hb dX0_pop_0 rfl (lv_at hl 0 rfl) ?_
  obtain ⟨v1, h2, h⟩ := ob h
  refine xr_getI C0 W0 cl_X0 1 (by decide) fl_X0_15 rfl h2 dX0_pop_1 ?_
  refine lv_if_gt (tgt := 9) hx hb dX0_pop_4 (by decide) (fun hcq => ?_) (fun hcq => ?_)
  · have h := it_t hcq h
    refine lv_aload_n hx hb dX0_pop_9 rfl (lv_at hl 0 rfl) ?_
    refine lv_dup hx hb dX0_pop_10 rfl ?_
    obtain ⟨v3, h4, h⟩ := ob h
    refine xr_getI C0 W0 cl_X0 1 (by decide) fl_X0_15 rfl h4 dX0_pop_11 ?_
    refine lv_iconst (v := 1) hx hb dX0_pop_14 (by decide) ?_
    refine lv_isub hx hb dX0_pop_15 ?_
    obtain ⟨X5, h6, h⟩ := ob h
    refine xr_putI C0 W0 cl_X0 1 (by decide) fl_X0_15 rfl rfl rfl (by decide) h6 dX0_pop_16 (fun H locs W0 => ?_)
    refine lv_aload_n hx hb dX0_pop_19 rfl (lv_at hl 0 rfl) ?_
    obtain ⟨q7, h8, h⟩ := ob h
    refine xr_getR C0 W0 cl_X0 0 (by decide) fl_X0_9 rfl h8 dX0_pop_20 ?_
    refine lv_aload_n hx hb dX0_pop_23 rfl (lv_at hl 0 rfl) ?_
    obtain ⟨v9, h10, h⟩ := ob h
    refine xr_getI C0 W0 cl_X0 1 (by decide) fl_X0_15 rfl h10 dX0_pop_24 ?_
    obtain ⟨v11, h12, h⟩ := ob h
    refine xr_iald C0 W0 h12 dX0_pop_27 ?_
    exact xr_iret C0 W0 hret (Option.some.inj h) dX0_pop_28
  · have h := it_f hcq h
    refine lv_iconst (v := 0) hx hb dX0_pop_7 (by decide) ?_
    exact xr_iret C0 W0 hret (Option.some.inj h) dX0_pop_8
def fX0_join (l0 : Int32) (l1 : Int32) (l2 : Int32) (X : XW) : Option (Int32 × XW) :=
  if l0 = 19 then (if (l2 ≤ l1 : Prop) then (some (0, X))
    else (some (1, X)))
  else (if l0 = 20 then (if (l1 = l2 : Prop) then (some (1, X))
    else (some (0, X)))
  else (if l0 = 21 then (some ((l1 + l2), X))
  else (if l0 = 22 then (some ((l1 - l2), X))
  else (if (l1 = 0 : Prop) then (some (0, X))
  else (if (l2 = 0 : Prop) then (some (0, X))
    else (some (1, X)))))))
theorem ctX0_join (l : Launch) (G : XG) {l0 : Int32} {l1 : Int32} {l2 : Int32} {X : XW} {r : Int32 × XW}  (h : fX0_join l0 l1 l2 X = some r) : XM l G yX0_join cX0_join 3 (some .int) 0 0 0 0 [.int l0, .int l1, .int l2] X (some (.int r.1), r.2) := by
  refine xm_of (own := RX0) (by decide) rfl (Nat.le_of_ble_eq_true rfl) ?_
  intro p e s m below meth c ls C0 W0 hret hnm hl
  have hx := C0.1
  have hb := C0.2.1
  have hl : lv_has ls 3 [(0, .int l0), (1, .int l1), (2, .int l2)] := hl
  unfold fX0_join at h
  refine lv_iload_n hx hb dX0_join_0 rfl (lv_at hl 0 rfl) ?_
  by_cases c : l0 = 19
  · have h := it_t c h
    refine lv_tableIn (tgt := 40) hx hb dX0_join_1 (by rw [c]; decide) (by rw [c]; decide) (by rw [c]; rfl) (by decide) ?_
    refine lv_iload_n hx hb dX0_join_40 rfl (lv_at hl 1 rfl) ?_
    refine lv_iload_n hx hb dX0_join_41 rfl (lv_at hl 2 rfl) ?_
    refine lv_icmp_ge (tgt := 49) hx hb dX0_join_42 (by decide) (fun hcq => ?_) (fun hcq => ?_)
    · have h := it_t hcq h
      refine lv_iconst (v := 0) hx hb dX0_join_49 (by decide) ?_
      exact xr_iret C0 W0 hret (Option.some.inj h) dX0_join_50
    · have h := it_f hcq h
      refine lv_iconst (v := 1) hx hb dX0_join_45 (by decide) ?_
      refine lv_goto (tgt := 50) hx hb dX0_join_46 (by decide) ?_
      exact xr_iret C0 W0 hret (Option.some.inj h) dX0_join_50
  have h := it_f c h
  have cn0 := lv_neT c (show (19 : Int32).toInt = 19 by decide)
  by_cases c : l0 = 20
  · have h := it_t c h
    refine lv_tableIn (tgt := 51) hx hb dX0_join_1 (by rw [c]; decide) (by rw [c]; decide) (by rw [c]; rfl) (by decide) ?_
    refine lv_iload_n hx hb dX0_join_51 rfl (lv_at hl 1 rfl) ?_
    refine lv_iload_n hx hb dX0_join_52 rfl (lv_at hl 2 rfl) ?_
    refine lv_icmp_ne (tgt := 60) hx hb dX0_join_53 (by decide) (fun hcq => ?_) (fun hcq => ?_)
    · have h := it_f hcq h
      refine lv_iconst (v := 0) hx hb dX0_join_60 (by decide) ?_
      exact xr_iret C0 W0 hret (Option.some.inj h) dX0_join_61
    · have h := it_t hcq h
      refine lv_iconst (v := 1) hx hb dX0_join_56 (by decide) ?_
      refine lv_goto (tgt := 61) hx hb dX0_join_57 (by decide) ?_
      exact xr_iret C0 W0 hret (Option.some.inj h) dX0_join_61
  have h := it_f c h
  have cn1 := lv_neT c (show (20 : Int32).toInt = 20 by decide)
  by_cases c : l0 = 21
  · have h := it_t c h
    refine lv_tableIn (tgt := 32) hx hb dX0_join_1 (by rw [c]; decide) (by rw [c]; decide) (by rw [c]; rfl) (by decide) ?_
    refine lv_iload_n hx hb dX0_join_32 rfl (lv_at hl 1 rfl) ?_
    refine lv_iload_n hx hb dX0_join_33 rfl (lv_at hl 2 rfl) ?_
    refine lv_iadd hx hb dX0_join_34 ?_
    exact xr_iret C0 W0 hret (Option.some.inj h) dX0_join_35
  have h := it_f c h
  have cn2 := lv_neT c (show (21 : Int32).toInt = 21 by decide)
  by_cases c : l0 = 22
  · have h := it_t c h
    refine lv_tableIn (tgt := 36) hx hb dX0_join_1 (by rw [c]; decide) (by rw [c]; decide) (by rw [c]; rfl) (by decide) ?_
    refine lv_iload_n hx hb dX0_join_36 rfl (lv_at hl 1 rfl) ?_
    refine lv_iload_n hx hb dX0_join_37 rfl (lv_at hl 2 rfl) ?_
    refine lv_isub hx hb dX0_join_38 ?_
    exact xr_iret C0 W0 hret (Option.some.inj h) dX0_join_39
  have h := it_f c h
  have cn3 := lv_neT c (show (22 : Int32).toInt = 22 by decide)
  refine lv_tableOut (tgt := 62) hx hb dX0_join_1 (by omega) (by decide) ?_
  refine lv_iload_n hx hb dX0_join_62 rfl (lv_at hl 1 rfl) ?_
  refine lv_if_eq (tgt := 74) hx hb dX0_join_63 (by decide) (fun hcq => ?_) (fun hcq => ?_)
  · have h := it_t hcq h
    refine lv_iconst (v := 0) hx hb dX0_join_74 (by decide) ?_
    exact xr_iret C0 W0 hret (Option.some.inj h) dX0_join_75
  · have h := it_f hcq h
    refine lv_iload_n hx hb dX0_join_66 rfl (lv_at hl 2 rfl) ?_
    refine lv_if_eq (tgt := 74) hx hb dX0_join_67 (by decide) (fun hcq => ?_) (fun hcq => ?_)
    · have h := it_t hcq h
      refine lv_iconst (v := 0) hx hb dX0_join_74 (by decide) ?_
      exact xr_iret C0 W0 hret (Option.some.inj h) dX0_join_75
    · have h := it_f hcq h
      refine lv_iconst (v := 1) hx hb dX0_join_70 (by decide) ?_
      refine lv_goto (tgt := 75) hx hb dX0_join_71 (by decide) ?_
      exact xr_iret C0 W0 hret (Option.some.inj h) dX0_join_75
def fX0_workOut_j91 (rec : Int32 → XW → Option (XW)) (l0 : Nat) (l1 : Nat) (l3 : Int32) (l4 : Nat) (l5 : Int32) (l6 : Int32) (X : XW) : Option (XW) :=
  rec (l6 + 1) X
def fX0_workOut_l8_b (rec : Int32 → XW → Option (XW)) (l0 : Nat) (l1 : Nat) (l3 : Int32) (l4 : Nat) (l5 : Int32) (l6 : Int32) (X : XW) : Option (XW) :=
  if (l3 ≤ l6 : Prop) then (some (X))
  else (aI X l1 1 l6 >>= fun v1 =>
    if (v1 < 0 : Prop) then (aI X l1 1 l6 >>= fun v3 =>
      if (12 < ((-1) - v3) : Prop) then (gK X l0 0 >>= fun u5 =>
        fX0_pop l0 X >>= fun r7 =>
        gK r7.2 l0 0 >>= fun u9 =>
        fX0_pop l0 r7.2 >>= fun r11 =>
        aI r11.2 l1 1 l6 >>= fun v13 =>
        fX0_join ((-1) - v13) r11.1 r7.1 r11.2 >>= fun r15 =>
        gK r15.2 l0 0 >>= fun u17 =>
        fX0_push l0 r15.1 r15.2 >>= fun X19 =>
        fX0_workOut_j91 rec l0 l1 l3 l4 l5 l6 X19)
      else (aI X l1 1 l6 >>= fun v21 =>
        aQ X l4 6 ((-1) - v21) >>= fun q23 =>
        aI X q23 1 l5 >>= fun v25 =>
        gK X l0 0 >>= fun u27 =>
        fX0_push l0 v25 X >>= fun X29 =>
        fX0_workOut_j91 rec l0 l1 l3 l4 l5 l6 X29))
    else (aI X l1 1 l6 >>= fun v31 =>
      gK X l0 0 >>= fun u33 =>
      fX0_push l0 v31 X >>= fun X35 =>
      fX0_workOut_j91 rec l0 l1 l3 l4 l5 l6 X35))
def fX0_workOut_l8 (l0 : Nat) (l1 : Nat) (l3 : Int32) (l4 : Nat) (l5 : Int32) (n : Nat) : Int32 → XW → Option (XW) := iter (fun rec => fX0_workOut_l8_b rec l0 l1 l3 l4 l5) (fun _ _ => none) n
def fX0_workOut (l0 : Nat) (l1 : Nat) (l2 : Int32) (l3 : Int32) (l4 : Nat) (l5 : Int32) (X : XW) : Option (Int32 × XW) :=
  pI X l0 0 1 0 >>= fun X1 =>
  fX0_workOut_l8 l0 l1 l3 l4 l5 FU l2 X1 >>= fun r3 =>
  gK r3 l0 0 >>= fun u5 =>
  fX0_pop l0 r3 >>= fun r7 =>
  some (r7.1, r7.2)
theorem tX0_workOut_j91 {p : Program} {l : Launch} {e : Env} {s : State} {m : MethodId} {args : Array Value} {below : List Frame} {meth : Method} {c : Code} {G : XG} {X0 : XW} (C0 : XC p s m args meth c RX0 cX0_workOut 9 G) (hret : meth.sig.returnType = (some .int)) {r : XW} {l0 : Nat} {l1 : Nat} {l3 : Int32} {l4 : Nat} {l5 : Int32} {Q : State → Prop} {rec : Int32 → XW → Option (XW)} (hrec : ∀ {y6 : Int32} {X : XW} {H : Heap} {locs : List Loc} {ls : Array Slot}, XD G X0 X s H locs → lv_has ls 9 [(0, .ref l0), (1, .ref l1), (3, .int l3), (4, .ref l4), (5, .int l5), (6, .int y6)] → rec y6 X = some r → W p l e { frames := 1, cells := 0, slots := 0, locals := 60 } s m args below meth c H locs 0 0 Q (F0 m 8 ls [])) (hK : ∀ {H : Heap} {locs : List Loc} {ls : Array Slot}, XD G X0 r s H locs → lv_has ls 9 [(0, .ref l0)] → W p l e { frames := 1, cells := 0, slots := 0, locals := 60 } s m args below meth c H locs 0 0 Q (F0 m 97 ls []))  {l6 : Int32} {X : XW} {H : Heap} {locs : List Loc} {ls : Array Slot} (W0 : XD G X0 X s H locs) (hl : lv_has ls 9 [(0, .ref l0), (1, .ref l1), (3, .int l3), (4, .ref l4), (5, .int l5), (6, .int l6)]) (h : fX0_workOut_j91 rec l0 l1 l3 l4 l5 l6 X = some r) : W p l e { frames := 1, cells := 0, slots := 0, locals := 60 } s m args below meth c H locs 0 0 Q (F0 m 91 ls []) := by
  have hx := C0.1
  have hb := C0.2.1
  unfold fX0_workOut_j91 at h
  refine lv_iinc (v := (l6 + 1)) (lv' := [(6, .int (l6 + 1)), (0, .ref l0), (1, .ref l1), (3, .int l3), (4, .ref l4), (5, .int l5)]) hx hb dX0_workOut_91 hl (k := 5) rfl (ii (by decide)) (by decide) rfl (fun ls hl => ?_)
  refine lv_goto (tgt := 8) hx hb dX0_workOut_94 (by decide) ?_
  exact hrec W0 (lv_sub hl [1, 2, 3, 4, 5, 0] rfl) h
theorem tX0_workOut_l8_b {p : Program} {l : Launch} {e : Env} {s : State} {m : MethodId} {args : Array Value} {below : List Frame} {meth : Method} {c : Code} {G : XG} {X0 : XW} (C0 : XC p s m args meth c RX0 cX0_workOut 9 G) (hret : meth.sig.returnType = (some .int)) {r : XW} {l0 : Nat} {l1 : Nat} {l3 : Int32} {l4 : Nat} {l5 : Int32} {Q : State → Prop} {rec : Int32 → XW → Option (XW)} (hrec : ∀ {y6 : Int32} {X : XW} {H : Heap} {locs : List Loc} {ls : Array Slot}, XD G X0 X s H locs → lv_has ls 9 [(0, .ref l0), (1, .ref l1), (3, .int l3), (4, .ref l4), (5, .int l5), (6, .int y6)] → rec y6 X = some r → W p l e { frames := 1, cells := 0, slots := 0, locals := 60 } s m args below meth c H locs 0 0 Q (F0 m 8 ls [])) (hK : ∀ {H : Heap} {locs : List Loc} {ls : Array Slot}, XD G X0 r s H locs → lv_has ls 9 [(0, .ref l0)] → W p l e { frames := 1, cells := 0, slots := 0, locals := 60 } s m args below meth c H locs 0 0 Q (F0 m 97 ls []))  {l6 : Int32} {X : XW} {H : Heap} {locs : List Loc} {ls : Array Slot} (W0 : XD G X0 X s H locs) (hl : lv_has ls 9 [(0, .ref l0), (1, .ref l1), (3, .int l3), (4, .ref l4), (5, .int l5), (6, .int l6)]) (h : fX0_workOut_l8_b rec l0 l1 l3 l4 l5 l6 X = some r) : W p l e { frames := 1, cells := 0, slots := 0, locals := 60 } s m args below meth c H locs 0 0 Q (F0 m 8 ls []) := by
  have hx := C0.1
  have hb := C0.2.1
  unfold fX0_workOut_l8_b at h
  refine lv_iload hx hb dX0_workOut_8 (lv_at hl 5 rfl) ?_
  refine lv_iload_n hx hb dX0_workOut_10 rfl (lv_at hl 2 rfl) ?_
  refine lv_icmp_ge (tgt := 97) hx hb dX0_workOut_11 (by decide) (fun hcq => ?_) (fun hcq => ?_)
  · have h := it_t hcq h
    cases h
    exact hK W0 (lv_sub hl [0] rfl)
  · have h := it_f hcq h
    refine lv_aload_n hx hb dX0_workOut_14 rfl (lv_at hl 1 rfl) ?_
    refine lv_iload hx hb dX0_workOut_15 (lv_at hl 5 rfl) ?_
    obtain ⟨v1, h2, h⟩ := ob h
    refine xr_iald C0 W0 h2 dX0_workOut_17 ?_
    refine lv_if_lt (tgt := 32) hx hb dX0_workOut_18 (by decide) (fun hcq => ?_) (fun hcq => ?_)
    · have h := it_t hcq h
      refine lv_iconst (v := (-1)) hx hb dX0_workOut_32 (by decide) ?_
      refine lv_aload_n hx hb dX0_workOut_33 rfl (lv_at hl 1 rfl) ?_
      refine lv_iload hx hb dX0_workOut_34 (lv_at hl 5 rfl) ?_
      obtain ⟨v3, h4, h⟩ := ob h
      refine xr_iald C0 W0 h4 dX0_workOut_36 ?_
      refine lv_isub hx hb dX0_workOut_37 ?_
      refine lv_bipush (v := 12) hx hb dX0_workOut_38 (by decide) ?_
      refine lv_icmp_gt (tgt := 62) hx hb dX0_workOut_40 (by decide) (fun hcq => ?_) (fun hcq => ?_)
      · have h := it_t hcq h
        refine lv_aload_n hx hb dX0_workOut_62 rfl (lv_at hl 0 rfl) ?_
        obtain ⟨u5, h6, h⟩ := ob h
        obtain ⟨r7, h8, h⟩ := ob h
        refine xr_V (As := []) (rest := []) C0 W0 (ctX0_pop l G h8) (gK_of h6) (rr := (RX0, TX0, 2)) rfl rfl mc_X0_pop mv_X0_pop ml_X0_23 ⟨by decide, by decide⟩ rfl hl.1 rfl (Nat.le_of_ble_eq_true rfl) ⟨by decide, by decide⟩ dX0_workOut_63 (fun H locs W0 => ?_)
        refine W.cs (cells' := 0) (slots' := 0) rfl rfl ?_
        refine W.eq (g2 := F0 m 66 ls [.int r7.1]) rfl ?_
        refine lv_istore (lv' := [(7, .int r7.1), (0, .ref l0), (1, .ref l1), (3, .int l3), (4, .ref l4), (5, .int l5), (6, .int l6)]) hx hb dX0_workOut_66 hl (by decide) rfl (fun ls hl => ?_)
        refine lv_aload_n hx hb dX0_workOut_68 rfl (lv_at hl 1 rfl) ?_
        obtain ⟨u9, h10, h⟩ := ob h
        obtain ⟨r11, h12, h⟩ := ob h
        refine xr_V (As := []) (rest := []) C0 W0 (ctX0_pop l G h12) (gK_of h10) (rr := (RX0, TX0, 2)) rfl rfl mc_X0_pop mv_X0_pop ml_X0_23 ⟨by decide, by decide⟩ rfl hl.1 rfl (Nat.le_of_ble_eq_true rfl) ⟨by decide, by decide⟩ dX0_workOut_69 (fun H locs W0 => ?_)
        refine W.cs (cells' := 0) (slots' := 0) rfl rfl ?_
        refine W.eq (g2 := F0 m 72 ls [.int r11.1]) rfl ?_
        refine lv_istore (lv' := [(8, .int r11.1), (7, .int r7.1), (0, .ref l0), (1, .ref l1), (3, .int l3), (4, .ref l4), (5, .int l5), (6, .int l6)]) hx hb dX0_workOut_72 hl (by decide) rfl (fun ls hl => ?_)
        refine lv_aload_n hx hb dX0_workOut_74 rfl (lv_at hl 2 rfl) ?_
        refine lv_iconst (v := (-1)) hx hb dX0_workOut_75 (by decide) ?_
        refine lv_aload_n hx hb dX0_workOut_76 rfl (lv_at hl 3 rfl) ?_
        refine lv_iload hx hb dX0_workOut_77 (lv_at hl 7 rfl) ?_
        obtain ⟨v13, h14, h⟩ := ob h
        refine xr_iald C0 W0 h14 dX0_workOut_79 ?_
        refine lv_isub hx hb dX0_workOut_80 ?_
        refine lv_iload hx hb dX0_workOut_81 (lv_at hl 0 rfl) ?_
        refine lv_iload hx hb dX0_workOut_83 (lv_at hl 1 rfl) ?_
        obtain ⟨r15, h16, h⟩ := ob h
        refine xr_S (As := [.int ((-1) - v13), .int r11.1, .int r7.1]) (rest := [.ref l0]) C0 W0 (ctX0_join l G h16) mc_X0_join ms_X0_join ml_X0_27 ⟨by decide, by decide⟩ rfl hl.1 rfl (Nat.le_of_ble_eq_true rfl) ⟨by decide, by decide⟩ dX0_workOut_85 (fun H locs W0 => ?_)
        refine W.cs (cells' := 0) (slots' := 0) rfl rfl ?_
        refine W.eq (g2 := F0 m 88 ls [.int r15.1, .ref l0]) rfl ?_
        obtain ⟨u17, h18, h⟩ := ob h
        obtain ⟨X19, h20, h⟩ := ob h
        refine xr_V (As := [.int r15.1]) (rest := []) C0 W0 (ctX0_push l G h20) (gK_of h18) (rr := (RX0, TX0, 2)) rfl rfl mc_X0_push mv_X0_push ml_X0_19 ⟨by decide, by decide⟩ rfl hl.1 rfl (Nat.le_of_ble_eq_true rfl) ⟨by decide, by decide⟩ dX0_workOut_88 (fun H locs W0 => ?_)
        refine W.cs (cells' := 0) (slots' := 0) rfl rfl ?_
        refine W.eq (g2 := F0 m 91 ls []) rfl ?_
        exact tX0_workOut_j91 C0 hret hrec hK W0 (lv_sub hl [2, 3, 4, 5, 6, 7] rfl) h
      · have h := it_f hcq h
        refine lv_aload_n hx hb dX0_workOut_43 rfl (lv_at hl 0 rfl) ?_
        refine lv_aload hx hb dX0_workOut_44 (lv_at hl 3 rfl) ?_
        refine lv_iconst (v := (-1)) hx hb dX0_workOut_46 (by decide) ?_
        refine lv_aload_n hx hb dX0_workOut_47 rfl (lv_at hl 1 rfl) ?_
        refine lv_iload hx hb dX0_workOut_48 (lv_at hl 5 rfl) ?_
        obtain ⟨v21, h22, h⟩ := ob h
        refine xr_iald C0 W0 h22 dX0_workOut_50 ?_
        refine lv_isub hx hb dX0_workOut_51 ?_
        obtain ⟨q23, h24, h⟩ := ob h
        refine xr_aldq C0 W0 6 (by decide) rfl rfl h24 dX0_workOut_52 ?_
        refine lv_iload hx hb dX0_workOut_53 (lv_at hl 4 rfl) ?_
        obtain ⟨v25, h26, h⟩ := ob h
        refine xr_iald C0 W0 h26 dX0_workOut_55 ?_
        obtain ⟨u27, h28, h⟩ := ob h
        obtain ⟨X29, h30, h⟩ := ob h
        refine xr_V (As := [.int v25]) (rest := []) C0 W0 (ctX0_push l G h30) (gK_of h28) (rr := (RX0, TX0, 2)) rfl rfl mc_X0_push mv_X0_push ml_X0_19 ⟨by decide, by decide⟩ rfl hl.1 rfl (Nat.le_of_ble_eq_true rfl) ⟨by decide, by decide⟩ dX0_workOut_56 (fun H locs W0 => ?_)
        refine W.cs (cells' := 0) (slots' := 0) rfl rfl ?_
        refine W.eq (g2 := F0 m 59 ls []) rfl ?_
        refine lv_goto (tgt := 91) hx hb dX0_workOut_59 (by decide) ?_
        exact tX0_workOut_j91 C0 hret hrec hK W0 (lv_sub hl [0, 1, 2, 3, 4, 5] rfl) h
    · have h := it_f hcq h
      refine lv_aload_n hx hb dX0_workOut_21 rfl (lv_at hl 0 rfl) ?_
      refine lv_aload_n hx hb dX0_workOut_22 rfl (lv_at hl 1 rfl) ?_
      refine lv_iload hx hb dX0_workOut_23 (lv_at hl 5 rfl) ?_
      obtain ⟨v31, h32, h⟩ := ob h
      refine xr_iald C0 W0 h32 dX0_workOut_25 ?_
      obtain ⟨u33, h34, h⟩ := ob h
      obtain ⟨X35, h36, h⟩ := ob h
      refine xr_V (As := [.int v31]) (rest := []) C0 W0 (ctX0_push l G h36) (gK_of h34) (rr := (RX0, TX0, 2)) rfl rfl mc_X0_push mv_X0_push ml_X0_19 ⟨by decide, by decide⟩ rfl hl.1 rfl (Nat.le_of_ble_eq_true rfl) ⟨by decide, by decide⟩ dX0_workOut_26 (fun H locs W0 => ?_)
      refine W.cs (cells' := 0) (slots' := 0) rfl rfl ?_
      refine W.eq (g2 := F0 m 29 ls []) rfl ?_
      refine lv_goto (tgt := 91) hx hb dX0_workOut_29 (by decide) ?_
      exact tX0_workOut_j91 C0 hret hrec hK W0 (lv_sub hl [0, 1, 2, 3, 4, 5] rfl) h
theorem tX0_workOut_l8 {p : Program} {l : Launch} {e : Env} {s : State} {m : MethodId} {args : Array Value} {below : List Frame} {meth : Method} {c : Code} {G : XG} {X0 : XW} (C0 : XC p s m args meth c RX0 cX0_workOut 9 G) (hret : meth.sig.returnType = (some .int)) {r : XW} {l0 : Nat} {l1 : Nat} {l3 : Int32} {l4 : Nat} {l5 : Int32} {Q : State → Prop} (hK : ∀ {H : Heap} {locs : List Loc} {ls : Array Slot}, XD G X0 r s H locs → lv_has ls 9 [(0, .ref l0)] → W p l e { frames := 1, cells := 0, slots := 0, locals := 60 } s m args below meth c H locs 0 0 Q (F0 m 97 ls [])) : ∀ (n : Nat) {y6 : Int32} {X : XW} {H : Heap} {locs : List Loc} {ls : Array Slot}, XD G X0 X s H locs → lv_has ls 9 [(0, .ref l0), (1, .ref l1), (3, .int l3), (4, .ref l4), (5, .int l5), (6, .int y6)] → fX0_workOut_l8 l0 l1 l3 l4 l5 n y6 X = some r → W p l e { frames := 1, cells := 0, slots := 0, locals := 60 } s m args below meth c H locs 0 0 Q (F0 m 8 ls []) := by
  intro n
  induction n with
  | zero =>
    intro y6 X H locs ls W0 hl h
    cases h
  | succ n ih =>
    intro y6 X H locs ls W0 hl h
    exact tX0_workOut_l8_b C0 hret (rec := fX0_workOut_l8 l0 l1 l3 l4 l5 n) (fun W0 hl h => ih W0 hl h) hK W0 hl h
theorem ctX0_workOut (l : Launch) (G : XG) {l0 : Nat} {l1 : Nat} {l2 : Int32} {l3 : Int32} {l4 : Nat} {l5 : Int32} {X : XW} {r : Int32 × XW}  (h : fX0_workOut l0 l1 l2 l3 l4 l5 X = some r) : XM l G yX0_workOut cX0_workOut 9 (some .int) 1 60 0 0 [.ref l0, .ref l1, .int l2, .int l3, .ref l4, .int l5] X (some (.int r.1), r.2) := by
  refine xm_of (own := RX0) (by decide) rfl (Nat.le_of_ble_eq_true rfl) ?_
  intro p e s m below meth c ls C0 W0 hret hnm hl
  have hx := C0.1
  have hb := C0.2.1
  have hl : lv_has ls 9 [(0, .ref l0), (1, .ref l1), (2, .int l2), (3, .int l3), (4, .ref l4), (5, .int l5)] := hl
  unfold fX0_workOut at h
  refine lv_aload_n hx hb dX0_workOut_0 rfl (lv_at hl 0 rfl) ?_
  refine lv_iconst (v := 0) hx hb dX0_workOut_1 (by decide) ?_
  obtain ⟨X1, h2, h⟩ := ob h
  refine xr_putI C0 W0 cl_X0 1 (by decide) fl_X0_15 rfl rfl rfl (by decide) h2 dX0_workOut_2 (fun H locs W0 => ?_)
  refine lv_iload_n hx hb dX0_workOut_5 rfl (lv_at hl 2 rfl) ?_
  refine lv_istore (lv' := [(6, .int l2), (0, .ref l0), (1, .ref l1), (2, .int l2), (3, .int l3), (4, .ref l4), (5, .int l5)]) hx hb dX0_workOut_6 hl (by decide) rfl (fun ls hl => ?_)
  obtain ⟨r3, h4, h⟩ := ob h
  refine tX0_workOut_l8 C0 hret (fun {H} {locs} {ls} W0 hl => ?_) FU W0 (lv_sub hl [1, 2, 4, 5, 6, 0] rfl) h4
  refine lv_aload_n hx hb dX0_workOut_97 rfl (lv_at hl 0 rfl) ?_
  obtain ⟨u5, h6, h⟩ := ob h
  obtain ⟨r7, h8, h⟩ := ob h
  refine xr_V (As := []) (rest := []) C0 W0 (ctX0_pop l G h8) (gK_of h6) (rr := (RX0, TX0, 2)) rfl rfl mc_X0_pop mv_X0_pop ml_X0_23 ⟨by decide, by decide⟩ rfl hl.1 rfl (Nat.le_of_ble_eq_true rfl) ⟨by decide, by decide⟩ dX0_workOut_98 (fun H locs W0 => ?_)
  refine W.cs (cells' := 0) (slots' := 0) rfl rfl ?_
  refine W.eq (g2 := F0 m 101 ls [.int r7.1]) rfl ?_
  exact xr_iret C0 W0 hret (Option.some.inj h) dX0_workOut_101
def fX5_init (l0 : Nat) (l1 : Int32) (X : XW) : Option (XW) :=
  nA X 3 24 24 >>= fun r1 =>
  pR r1.2 l0 5 0 r1.1 >>= fun X3 =>
  nA X3 1 24 24 >>= fun r5 =>
  pR r5.2 l0 5 1 r5.1 >>= fun X7 =>
  nA X7 1 24 24 >>= fun r9 =>
  pR r9.2 l0 5 2 r9.1 >>= fun X11 =>
  nA X11 1 24 24 >>= fun r13 =>
  pR r13.2 l0 5 3 r13.1 >>= fun X15 =>
  nA X15 1 24 24 >>= fun r17 =>
  pR r17.2 l0 5 4 r17.1 >>= fun X19 =>
  pI X19 l0 5 6 0 >>= fun X21 =>
  pI X21 l0 5 7 0 >>= fun X23 =>
  nA X23 1 1000 (iMx 0 l1) >>= fun r25 =>
  pR r25.2 l0 5 5 r25.1 >>= fun X27 =>
  some X27
theorem ctX5_init (l : Launch) (G : XG) {l0 : Nat} {l1 : Int32} {X : XW} {r : XW}  (h : fX5_init l0 l1 X = some r) : XM l G yX5_init cX5_init 2 none 1 60 6 1120 [.ref l0, .int l1] X (none, r) := by
  refine xm_of (own := RX5) (by decide) rfl (Nat.le_of_ble_eq_true rfl) ?_
  intro p e s m below meth c ls C0 W0 hret hin hl
  have hx := C0.1
  have hb := C0.2.1
  have hl : lv_has ls 2 [(0, .ref l0), (1, .int l1)] := hl
  unfold fX5_init at h
  refine lv_aload_n hx hb dX5_init_0 rfl (lv_at hl 0 rfl) ?_
  refine W.objInit hx hb C0.2.2.2.1 (C0.2.2.2.2.1 _ (xws_t 206 (by decide +kernel) rfl)) (C0.2.2.2.2.1 _ xoi1) (C0.2.2.2.2.1 _ xoi2) rfl (by rw [C0.2.2.1]; exact hl.1) rfl dX5_init_1 (by decide) (Nat.le_of_ble_eq_true rfl) ?_
  refine W.eq (g2 := F0 m 4 ls []) rfl ?_
  refine lv_aload_n hx hb dX5_init_4 rfl (lv_at hl 0 rfl) ?_
  refine lv_bipush (v := 24) hx hb dX5_init_5 (by decide) ?_
  obtain ⟨r1, h2, h⟩ := ob h
  refine xr_newa (atype := .boolean) C0 W0 3 24 rfl (by decide) (by decide) rfl ka_boolean (fun N => nw_boolean) (by decide) h2 (by decide) (by decide) dX5_init_7 (fun H W0 => ?_)
  refine W.cs (cells' := 1) (slots' := 24) rfl rfl ?_
  obtain ⟨X3, h4, h⟩ := ob h
  refine xr_putR C0 W0 cl_X5 0 (by decide) fl_X5_9 (Or.inr ⟨rfl, hin, rfl⟩) rfl ⟨rfl, rfl⟩ (by decide) h4 dX5_init_9 (fun H locs W0 => ?_)
  refine lv_aload_n hx hb dX5_init_12 rfl (lv_at hl 0 rfl) ?_
  refine lv_bipush (v := 24) hx hb dX5_init_13 (by decide) ?_
  obtain ⟨r5, h6, h⟩ := ob h
  refine xr_newa (atype := .int) C0 W0 1 24 rfl (by decide) (by decide) rfl ka_int (fun N => nw_int) (by decide) h6 (by decide) (by decide) dX5_init_15 (fun H W0 => ?_)
  refine W.cs (cells' := 2) (slots' := 48) rfl rfl ?_
  obtain ⟨X7, h8, h⟩ := ob h
  refine xr_putR C0 W0 cl_X5 1 (by decide) fl_X5_15 (Or.inr ⟨rfl, hin, rfl⟩) rfl ⟨rfl, rfl⟩ (by decide) h8 dX5_init_17 (fun H locs W0 => ?_)
  refine lv_aload_n hx hb dX5_init_20 rfl (lv_at hl 0 rfl) ?_
  refine lv_bipush (v := 24) hx hb dX5_init_21 (by decide) ?_
  obtain ⟨r9, h10, h⟩ := ob h
  refine xr_newa (atype := .int) C0 W0 1 24 rfl (by decide) (by decide) rfl ka_int (fun N => nw_int) (by decide) h10 (by decide) (by decide) dX5_init_23 (fun H W0 => ?_)
  refine W.cs (cells' := 3) (slots' := 72) rfl rfl ?_
  obtain ⟨X11, h12, h⟩ := ob h
  refine xr_putR C0 W0 cl_X5 2 (by decide) fl_X5_19 (Or.inr ⟨rfl, hin, rfl⟩) rfl ⟨rfl, rfl⟩ (by decide) h12 dX5_init_25 (fun H locs W0 => ?_)
  refine lv_aload_n hx hb dX5_init_28 rfl (lv_at hl 0 rfl) ?_
  refine lv_bipush (v := 24) hx hb dX5_init_29 (by decide) ?_
  obtain ⟨r13, h14, h⟩ := ob h
  refine xr_newa (atype := .int) C0 W0 1 24 rfl (by decide) (by decide) rfl ka_int (fun N => nw_int) (by decide) h14 (by decide) (by decide) dX5_init_31 (fun H W0 => ?_)
  refine W.cs (cells' := 4) (slots' := 96) rfl rfl ?_
  obtain ⟨X15, h16, h⟩ := ob h
  refine xr_putR C0 W0 cl_X5 3 (by decide) fl_X5_22 (Or.inr ⟨rfl, hin, rfl⟩) rfl ⟨rfl, rfl⟩ (by decide) h16 dX5_init_33 (fun H locs W0 => ?_)
  refine lv_aload_n hx hb dX5_init_36 rfl (lv_at hl 0 rfl) ?_
  refine lv_bipush (v := 24) hx hb dX5_init_37 (by decide) ?_
  obtain ⟨r17, h18, h⟩ := ob h
  refine xr_newa (atype := .int) C0 W0 1 24 rfl (by decide) (by decide) rfl ka_int (fun N => nw_int) (by decide) h18 (by decide) (by decide) dX5_init_39 (fun H W0 => ?_)
  refine W.cs (cells' := 5) (slots' := 120) rfl rfl ?_
  obtain ⟨X19, h20, h⟩ := ob h
  refine xr_putR C0 W0 cl_X5 4 (by decide) fl_X5_25 (Or.inr ⟨rfl, hin, rfl⟩) rfl ⟨rfl, rfl⟩ (by decide) h20 dX5_init_41 (fun H locs W0 => ?_)
  refine lv_aload_n hx hb dX5_init_44 rfl (lv_at hl 0 rfl) ?_
  refine lv_iconst (v := 0) hx hb dX5_init_45 (by decide) ?_
  obtain ⟨X21, h22, h⟩ := ob h
  refine xr_putI C0 W0 cl_X5 6 (by decide) fl_X5_28 rfl rfl rfl (by decide) h22 dX5_init_46 (fun H locs W0 => ?_)
  refine lv_aload_n hx hb dX5_init_49 rfl (lv_at hl 0 rfl) ?_
  refine lv_iconst (v := 0) hx hb dX5_init_50 (by decide) ?_
  obtain ⟨X23, h24, h⟩ := ob h
  refine xr_putI C0 W0 cl_X5 7 (by decide) fl_X5_32 rfl rfl rfl (by decide) h24 dX5_init_51 (fun H locs W0 => ?_)
  refine lv_aload_n hx hb dX5_init_54 rfl (lv_at hl 0 rfl) ?_
  refine lv_iconst (v := 0) hx hb dX5_init_55 (by decide) ?_
  refine lv_iload_n hx hb dX5_init_56 rfl (lv_at hl 1 rfl) ?_
  refine xr_mmax C0 hl.1 (xws_t 207 (by decide +kernel) rfl) (by decide) (Nat.le_of_ble_eq_true rfl) (Nat.le_of_ble_eq_true rfl) (Nat.le_of_ble_eq_true rfl) dX5_init_57 ?_
  obtain ⟨r25, h26, h⟩ := ob h
  refine xr_newa (atype := .int) C0 W0 1 1000 rfl (by decide) (by decide) rfl ka_int (fun N => nw_int) (by decide) h26 (by decide) (by decide) dX5_init_60 (fun H W0 => ?_)
  refine W.cs (cells' := 6) (slots' := 1120) rfl rfl ?_
  obtain ⟨X27, h28, h⟩ := ob h
  refine xr_putR C0 W0 cl_X5 5 (by decide) fl_X5_41 (Or.inr ⟨rfl, hin, rfl⟩) rfl ⟨rfl, rfl⟩ (by decide) h28 dX5_init_62 (fun H locs W0 => ?_)
  exact xr_vret C0 W0 hret (Option.some.inj h).symm dX5_init_65
def fX8_init (l0 : Nat) (l1 : Int32) (X : XW) : Option (XW) :=
  pI X l0 8 2 0 >>= fun X1 =>
  nA X1 1 1001 ((iMx 0 l1) + 1) >>= fun r3 =>
  pR r3.2 l0 8 0 r3.1 >>= fun X5 =>
  nA X5 1 1001 ((iMx 0 l1) + 1) >>= fun r7 =>
  pR r7.2 l0 8 1 r7.1 >>= fun X9 =>
  some X9
theorem ctX8_init (l : Launch) (G : XG) {l0 : Nat} {l1 : Int32} {X : XW} {r : XW}  (h : fX8_init l0 l1 X = some r) : XM l G yX8_init cX8_init 2 none 1 60 2 2002 [.ref l0, .int l1] X (none, r) := by
  refine xm_of (own := RX8) (by decide) rfl (Nat.le_of_ble_eq_true rfl) ?_
  intro p e s m below meth c ls C0 W0 hret hin hl
  have hx := C0.1
  have hb := C0.2.1
  have hl : lv_has ls 2 [(0, .ref l0), (1, .int l1)] := hl
  unfold fX8_init at h
  refine lv_aload_n hx hb dX8_init_0 rfl (lv_at hl 0 rfl) ?_
  refine W.objInit hx hb C0.2.2.2.1 (C0.2.2.2.2.1 _ (xws_t 388 (by decide +kernel) rfl)) (C0.2.2.2.2.1 _ xoi1) (C0.2.2.2.2.1 _ xoi2) rfl (by rw [C0.2.2.1]; exact hl.1) rfl dX8_init_1 (by decide) (Nat.le_of_ble_eq_true rfl) ?_
  refine W.eq (g2 := F0 m 4 ls []) rfl ?_
  refine lv_aload_n hx hb dX8_init_4 rfl (lv_at hl 0 rfl) ?_
  refine lv_iconst (v := 0) hx hb dX8_init_5 (by decide) ?_
  obtain ⟨X1, h2, h⟩ := ob h
  refine xr_putI C0 W0 cl_X8 2 (by decide) fl_X8_9 rfl rfl rfl (by decide) h2 dX8_init_6 (fun H locs W0 => ?_)
  refine lv_aload_n hx hb dX8_init_9 rfl (lv_at hl 0 rfl) ?_
  refine lv_iconst (v := 0) hx hb dX8_init_10 (by decide) ?_
  refine lv_iload_n hx hb dX8_init_11 rfl (lv_at hl 1 rfl) ?_
  refine xr_mmax C0 hl.1 (xws_t 389 (by decide +kernel) rfl) (by decide) (Nat.le_of_ble_eq_true rfl) (Nat.le_of_ble_eq_true rfl) (Nat.le_of_ble_eq_true rfl) dX8_init_12 ?_
  refine lv_iconst (v := 1) hx hb dX8_init_15 (by decide) ?_
  refine lv_iadd hx hb dX8_init_16 ?_
  obtain ⟨r3, h4, h⟩ := ob h
  refine xr_newa (atype := .int) C0 W0 1 1001 rfl (by decide) (by decide) rfl ka_int (fun N => nw_int) (by decide) h4 (by decide) (by decide) dX8_init_17 (fun H W0 => ?_)
  refine W.cs (cells' := 1) (slots' := 1001) rfl rfl ?_
  obtain ⟨X5, h6, h⟩ := ob h
  refine xr_putR C0 W0 cl_X8 0 (by decide) fl_X8_21 (Or.inr ⟨rfl, hin, rfl⟩) rfl ⟨rfl, rfl⟩ (by decide) h6 dX8_init_19 (fun H locs W0 => ?_)
  refine lv_aload_n hx hb dX8_init_22 rfl (lv_at hl 0 rfl) ?_
  refine lv_iconst (v := 0) hx hb dX8_init_23 (by decide) ?_
  refine lv_iload_n hx hb dX8_init_24 rfl (lv_at hl 1 rfl) ?_
  refine xr_mmax C0 hl.1 (xws_t 389 (by decide +kernel) rfl) (by decide) (Nat.le_of_ble_eq_true rfl) (Nat.le_of_ble_eq_true rfl) (Nat.le_of_ble_eq_true rfl) dX8_init_25 ?_
  refine lv_iconst (v := 1) hx hb dX8_init_28 (by decide) ?_
  refine lv_iadd hx hb dX8_init_29 ?_
  obtain ⟨r7, h8, h⟩ := ob h
  refine xr_newa (atype := .int) C0 W0 1 1001 rfl (by decide) (by decide) rfl ka_int (fun N => nw_int) (by decide) h8 (by decide) (by decide) dX8_init_30 (fun H W0 => ?_)
  refine W.cs (cells' := 2) (slots' := 2002) rfl rfl ?_
  obtain ⟨X9, h10, h⟩ := ob h
  refine xr_putR C0 W0 cl_X8 1 (by decide) fl_X8_25 (Or.inr ⟨rfl, hin, rfl⟩) rfl ⟨rfl, rfl⟩ (by decide) h10 dX8_init_32 (fun H locs W0 => ?_)
  exact xr_vret C0 W0 hret (Option.some.inj h).symm dX8_init_35
def fX1_init (l0 : Nat) (l1 : Int32) (X : XW) : Option (XW) :=
  pI X l0 1 2 0 >>= fun X1 =>
  pI X1 l0 1 3 24 >>= fun X3 =>
  pI X3 l0 1 4 0 >>= fun X5 =>
  fX5_init ((nO X5 5).1) l1 (nO X5 5).2 >>= fun X7 =>
  pR X7 l0 1 0 ((nO X5 5).1) >>= fun X9 =>
  fX8_init ((nO X9 8).1) l1 (nO X9 8).2 >>= fun X11 =>
  pR X11 l0 1 1 ((nO X9 8).1) >>= fun X13 =>
  some X13
theorem ctX1_init (l : Launch) (G : XG) {l0 : Nat} {l1 : Int32} {X : XW} {r : XW}  (h : fX1_init l0 l1 X = some r) : XM l G yX1_init cX1_init 2 none 2 120 10 3133 [.ref l0, .int l1] X (none, r) := by
  refine xm_of (own := RX1) (by decide) rfl (Nat.le_of_ble_eq_true rfl) ?_
  intro p e s m below meth c ls C0 W0 hret hin hl
  have hx := C0.1
  have hb := C0.2.1
  have hl : lv_has ls 2 [(0, .ref l0), (1, .int l1)] := hl
  unfold fX1_init at h
  refine lv_aload_n hx hb dX1_init_0 rfl (lv_at hl 0 rfl) ?_
  refine W.objInit hx hb C0.2.2.2.1 (C0.2.2.2.2.1 _ (xws_t 380 (by decide +kernel) rfl)) (C0.2.2.2.2.1 _ xoi1) (C0.2.2.2.2.1 _ xoi2) rfl (by rw [C0.2.2.1]; exact hl.1) rfl dX1_init_1 (by decide) (Nat.le_of_ble_eq_true rfl) ?_
  refine W.eq (g2 := F0 m 4 ls []) rfl ?_
  refine lv_aload_n hx hb dX1_init_4 rfl (lv_at hl 0 rfl) ?_
  refine lv_iconst (v := 0) hx hb dX1_init_5 (by decide) ?_
  obtain ⟨X1, h2, h⟩ := ob h
  refine xr_putI C0 W0 cl_X1 2 (by decide) fl_X1_9 rfl rfl rfl (by decide) h2 dX1_init_6 (fun H locs W0 => ?_)
  refine lv_aload_n hx hb dX1_init_9 rfl (lv_at hl 0 rfl) ?_
  refine lv_bipush (v := 24) hx hb dX1_init_10 (by decide) ?_
  obtain ⟨X3, h4, h⟩ := ob h
  refine xr_putI C0 W0 cl_X1 3 (by decide) fl_X1_15 rfl rfl rfl (by decide) h4 dX1_init_12 (fun H locs W0 => ?_)
  refine lv_aload_n hx hb dX1_init_15 rfl (lv_at hl 0 rfl) ?_
  refine lv_iconst (v := 0) hx hb dX1_init_16 (by decide) ?_
  obtain ⟨X5, h6, h⟩ := ob h
  refine xr_putI C0 W0 cl_X1 4 (by decide) fl_X1_18 rfl rfl rfl (by decide) h6 dX1_init_17 (fun H locs W0 => ?_)
  refine lv_aload_n hx hb dX1_init_20 rfl (lv_at hl 0 rfl) ?_
  refine xr_new C0 W0 cl_X5 (by decide) dv_X5 kl_X1_21 kn_X5.1 kn_X5.2 (by decide) (by decide) dX1_init_21 (fun H W0 => ?_)
  refine W.cs (cells' := 1) (slots' := 8) rfl rfl ?_
  refine lv_dup hx hb dX1_init_24 rfl ?_
  refine lv_iload_n hx hb dX1_init_25 rfl (lv_at hl 1 rfl) ?_
  obtain ⟨X7, h8, h⟩ := ob h
  refine xr_I (As := [.int l1]) (rest := [.ref ((nO X5 5).1), .ref l0]) C0 W0 (ctX5_init l G h8) mc_X5_init mi_X5_init ml_X1_23 ⟨by decide, by decide⟩ rfl hl.1 rfl (Nat.le_of_ble_eq_true rfl) ⟨by decide, by decide⟩ dX1_init_26 (fun H locs W0 => ?_)
  refine W.cs (cells' := 7) (slots' := 1128) rfl rfl ?_
  refine W.eq (g2 := F0 m 29 ls [.ref ((nO X5 5).1), .ref l0]) rfl ?_
  obtain ⟨X9, h10, h⟩ := ob h
  refine xr_putR C0 W0 cl_X1 0 (by decide) fl_X1_26 (Or.inr ⟨rfl, hin, rfl⟩) rfl ⟨rfl, rfl⟩ (by decide) h10 dX1_init_29 (fun H locs W0 => ?_)
  refine lv_aload_n hx hb dX1_init_32 rfl (lv_at hl 0 rfl) ?_
  refine xr_new C0 W0 cl_X8 (by decide) dv_X8 kl_X1_30 kn_X8.1 kn_X8.2 (by decide) (by decide) dX1_init_33 (fun H W0 => ?_)
  refine W.cs (cells' := 8) (slots' := 1131) rfl rfl ?_
  refine lv_dup hx hb dX1_init_36 rfl ?_
  refine lv_iload_n hx hb dX1_init_37 rfl (lv_at hl 1 rfl) ?_
  obtain ⟨X11, h12, h⟩ := ob h
  refine xr_I (As := [.int l1]) (rest := [.ref ((nO X9 8).1), .ref l0]) C0 W0 (ctX8_init l G h12) mc_X8_init mi_X8_init ml_X1_32 ⟨by decide, by decide⟩ rfl hl.1 rfl (Nat.le_of_ble_eq_true rfl) ⟨by decide, by decide⟩ dX1_init_38 (fun H locs W0 => ?_)
  refine W.cs (cells' := 10) (slots' := 3133) rfl rfl ?_
  refine W.eq (g2 := F0 m 41 ls [.ref ((nO X9 8).1), .ref l0]) rfl ?_
  obtain ⟨X13, h14, h⟩ := ob h
  refine xr_putR C0 W0 cl_X1 1 (by decide) fl_X1_33 (Or.inr ⟨rfl, hin, rfl⟩) rfl ⟨rfl, rfl⟩ (by decide) h14 dX1_init_41 (fun H locs W0 => ?_)
  exact xr_vret C0 W0 hret (Option.some.inj h).symm dX1_init_44
def fX9_isWithin (l0 : Int32) (l1 : Int32) (l2 : Int32) (X : XW) : Option (Int32 × XW) :=
  if (l0 < l1 : Prop) then (some (0, X))
  else (if (l2 < l0 : Prop) then (some (0, X))
    else (some (1, X)))
theorem ctX9_isWithin (l : Launch) (G : XG) {l0 : Int32} {l1 : Int32} {l2 : Int32} {X : XW} {r : Int32 × XW}  (h : fX9_isWithin l0 l1 l2 X = some r) : XM l G yX9_isWithin cX9_isWithin 3 (some .boolean) 0 0 0 0 [.int l0, .int l1, .int l2] X (some (.int r.1), r.2) := by
  refine xm_of (own := RX9) (by decide) rfl (Nat.le_of_ble_eq_true rfl) ?_
  intro p e s m below meth c ls C0 W0 hret hnm hl
  have hx := C0.1
  have hb := C0.2.1
  have hl : lv_has ls 3 [(0, .int l0), (1, .int l1), (2, .int l2)] := hl
  unfold fX9_isWithin at h
  refine lv_iload_n hx hb dX9_isWithin_0 rfl (lv_at hl 0 rfl) ?_
  refine lv_iload_n hx hb dX9_isWithin_1 rfl (lv_at hl 1 rfl) ?_
  refine lv_icmp_lt (tgt := 14) hx hb dX9_isWithin_2 (by decide) (fun hcq => ?_) (fun hcq => ?_)
  · have h := it_t hcq h
    refine lv_iconst (v := 0) hx hb dX9_isWithin_14 (by decide) ?_
    exact xr_zret C0 W0 hret (by decide) (Option.some.inj h) dX9_isWithin_15
  · have h := it_f hcq h
    refine lv_iload_n hx hb dX9_isWithin_5 rfl (lv_at hl 0 rfl) ?_
    refine lv_iload_n hx hb dX9_isWithin_6 rfl (lv_at hl 2 rfl) ?_
    refine lv_icmp_gt (tgt := 14) hx hb dX9_isWithin_7 (by decide) (fun hcq => ?_) (fun hcq => ?_)
    · have h := it_t hcq h
      refine lv_iconst (v := 0) hx hb dX9_isWithin_14 (by decide) ?_
      exact xr_zret C0 W0 hret (by decide) (Option.some.inj h) dX9_isWithin_15
    · have h := it_f hcq h
      refine lv_iconst (v := 1) hx hb dX9_isWithin_10 (by decide) ?_
      refine lv_goto (tgt := 15) hx hb dX9_isWithin_11 (by decide) ?_
      exact xr_zret C0 W0 hret (by decide) (Option.some.inj h) dX9_isWithin_15
def fX8_isLetter (l0 : Int32) (X : XW) : Option (Int32 × XW) :=
  fX9_isWithin l0 97 122 X >>= fun r1 =>
  zG r1.1 >>= fun u3 =>
  some (r1.1, r1.2)
theorem ctX8_isLetter (l : Launch) (G : XG) {l0 : Int32} {X : XW} {r : Int32 × XW}  (h : fX8_isLetter l0 X = some r) : XM l G yX8_isLetter cX8_isLetter 1 (some .boolean) 1 60 0 0 [.int l0] X (some (.int r.1), r.2) := by
  refine xm_of (own := RX8) (by decide) rfl (Nat.le_of_ble_eq_true rfl) ?_
  intro p e s m below meth c ls C0 W0 hret hnm hl
  have hx := C0.1
  have hb := C0.2.1
  have hl : lv_has ls 1 [(0, .int l0)] := hl
  unfold fX8_isLetter at h
  refine lv_iload_n hx hb dX8_isLetter_0 rfl (lv_at hl 0 rfl) ?_
  refine lv_bipush (v := 97) hx hb dX8_isLetter_1 (by decide) ?_
  refine lv_bipush (v := 122) hx hb dX8_isLetter_3 (by decide) ?_
  obtain ⟨r1, h2, h⟩ := ob h
  refine xr_SN (As := [.int l0, .int 97, .int 122]) (rest := []) C0 W0 (ctX9_isWithin l G h2) mc_X9_isWithin ms_X9_isWithin (xnw_434 C0.2.2.2.2.2.1.2) ⟨by decide, by decide⟩ rfl hl.1 rfl (Nat.le_of_ble_eq_true rfl) ⟨by decide, by decide⟩ dX8_isLetter_5 (fun H locs W0 => ?_)
  refine W.cs (cells' := 0) (slots' := 0) rfl rfl ?_
  refine W.eq (g2 := F0 m 8 ls [.int r1.1]) rfl ?_
  obtain ⟨u3, h4, h⟩ := ob h
  exact xr_zret C0 W0 hret (zG_of h4) (Option.some.inj h) dX8_isLetter_8
def fX8_endOfRun_l3_b (rec : Int32 → XW → Option (Int32 × XW)) (l0 : Nat) (l2 : Int32) (l3 : Int32) (l4 : Int32) (X : XW) : Option (Int32 × XW) :=
  gI X l0 7 1 >>= fun v1 =>
  if (v1 ≤ l4 : Prop) then (gI X l0 7 1 >>= fun v3 =>
    some (v3, X))
  else (gR X l0 7 0 >>= fun q5 =>
    aI X q5 0 l4 >>= fun v7 =>
    fX9_isWithin v7 l2 l3 X >>= fun r9 =>
    if (r9.1 = 0 : Prop) then (some (l4, r9.2))
    else (rec (l4 + 1) r9.2))
def fX8_endOfRun_l3 (l0 : Nat) (l2 : Int32) (l3 : Int32) (n : Nat) : Int32 → XW → Option (Int32 × XW) := iter (fun rec => fX8_endOfRun_l3_b rec l0 l2 l3) (fun _ _ => none) n
def fX8_endOfRun (l0 : Nat) (l1 : Int32) (l2 : Int32) (l3 : Int32) (X : XW) : Option (Int32 × XW) :=
  fX8_endOfRun_l3 l0 l2 l3 FU l1 X
theorem tX8_endOfRun_l3_b {p : Program} {l : Launch} {e : Env} {s : State} {m : MethodId} {args : Array Value} {below : List Frame} {meth : Method} {c : Code} {G : XG} {X0 : XW} (C0 : XC p s m args meth c RX8 cX8_endOfRun 5 G) (hret : meth.sig.returnType = (some .int)) {r : Int32 × XW} {l0 : Nat} {l2 : Int32} {l3 : Int32}  {rec : Int32 → XW → Option (Int32 × XW)} (hrec : ∀ {y4 : Int32} {X : XW} {H : Heap} {locs : List Loc} {ls : Array Slot}, XD G X0 X s H locs → lv_has ls 5 [(0, .ref l0), (2, .int l2), (3, .int l3), (4, .int y4)] → rec y4 X = some r → W p l e { frames := 1, cells := 0, slots := 0, locals := 60 } s m args below meth c H locs 0 0 (MQ below (XQ G X0 (some (.int r.1), r.2)) args s 0 0 (xAd X0)) (F0 m 3 ls []))  {l4 : Int32} {X : XW} {H : Heap} {locs : List Loc} {ls : Array Slot} (W0 : XD G X0 X s H locs) (hl : lv_has ls 5 [(0, .ref l0), (2, .int l2), (3, .int l3), (4, .int l4)]) (h : fX8_endOfRun_l3_b rec l0 l2 l3 l4 X = some r) : W p l e { frames := 1, cells := 0, slots := 0, locals := 60 } s m args below meth c H locs 0 0 (MQ below (XQ G X0 (some (.int r.1), r.2)) args s 0 0 (xAd X0)) (F0 m 3 ls []) := by
  have hx := C0.1
  have hb := C0.2.1
  unfold fX8_endOfRun_l3_b at h
  refine lv_iload hx hb dX8_endOfRun_3 (lv_at hl 3 rfl) ?_
  refine lv_aload_n hx hb dX8_endOfRun_5 rfl (lv_at hl 0 rfl) ?_
  obtain ⟨v1, h2, h⟩ := ob h
  refine xr_getI C0 W0 cl_X7 1 (by decide) fl_X8_28 rfl h2 dX8_endOfRun_6 ?_
  refine lv_icmp_ge (tgt := 36) hx hb dX8_endOfRun_9 (by decide) (fun hcq => ?_) (fun hcq => ?_)
  · have h := it_t hcq h
    refine lv_aload_n hx hb dX8_endOfRun_36 rfl (lv_at hl 0 rfl) ?_
    obtain ⟨v3, h4, h⟩ := ob h
    refine xr_getI C0 W0 cl_X7 1 (by decide) fl_X8_28 rfl h4 dX8_endOfRun_37 ?_
    exact xr_iret C0 W0 hret (Option.some.inj h) dX8_endOfRun_40
  · have h := it_f hcq h
    refine lv_aload_n hx hb dX8_endOfRun_12 rfl (lv_at hl 0 rfl) ?_
    obtain ⟨q5, h6, h⟩ := ob h
    refine xr_getR C0 W0 cl_X7 0 (by decide) fl_X8_41 rfl h6 dX8_endOfRun_13 ?_
    refine lv_iload hx hb dX8_endOfRun_16 (lv_at hl 3 rfl) ?_
    obtain ⟨v7, h8, h⟩ := ob h
    refine xr_bald C0 W0 h8 dX8_endOfRun_18 ?_
    refine lv_iload_n hx hb dX8_endOfRun_19 rfl (lv_at hl 1 rfl) ?_
    refine lv_iload_n hx hb dX8_endOfRun_20 rfl (lv_at hl 2 rfl) ?_
    obtain ⟨r9, h10, h⟩ := ob h
    refine xr_SN (As := [.int v7, .int l2, .int l3]) (rest := []) C0 W0 (ctX9_isWithin l G h10) mc_X9_isWithin ms_X9_isWithin (xnw_434 C0.2.2.2.2.2.1.2) ⟨by decide, by decide⟩ rfl hl.1 rfl (Nat.le_of_ble_eq_true rfl) ⟨by decide, by decide⟩ dX8_endOfRun_21 (fun H locs W0 => ?_)
    refine W.cs (cells' := 0) (slots' := 0) rfl rfl ?_
    refine W.eq (g2 := F0 m 24 ls [.int r9.1]) rfl ?_
    refine lv_if_ne (tgt := 30) hx hb dX8_endOfRun_24 (by decide) (fun hcq => ?_) (fun hcq => ?_)
    · have h := it_f hcq h
      refine lv_iinc (v := (l4 + 1)) (lv' := [(4, .int (l4 + 1)), (0, .ref l0), (2, .int l2), (3, .int l3)]) hx hb dX8_endOfRun_30 hl (k := 3) rfl (ii (by decide)) (by decide) rfl (fun ls hl => ?_)
      refine lv_goto (tgt := 3) hx hb dX8_endOfRun_33 (by decide) ?_
      exact hrec W0 (lv_sub hl [1, 2, 3, 0] rfl) h
    · have h := it_t hcq h
      refine lv_iload hx hb dX8_endOfRun_27 (lv_at hl 3 rfl) ?_
      exact xr_iret C0 W0 hret (Option.some.inj h) dX8_endOfRun_29
theorem tX8_endOfRun_l3 {p : Program} {l : Launch} {e : Env} {s : State} {m : MethodId} {args : Array Value} {below : List Frame} {meth : Method} {c : Code} {G : XG} {X0 : XW} (C0 : XC p s m args meth c RX8 cX8_endOfRun 5 G) (hret : meth.sig.returnType = (some .int)) {r : Int32 × XW} {l0 : Nat} {l2 : Int32} {l3 : Int32}  : ∀ (n : Nat) {y4 : Int32} {X : XW} {H : Heap} {locs : List Loc} {ls : Array Slot}, XD G X0 X s H locs → lv_has ls 5 [(0, .ref l0), (2, .int l2), (3, .int l3), (4, .int y4)] → fX8_endOfRun_l3 l0 l2 l3 n y4 X = some r → W p l e { frames := 1, cells := 0, slots := 0, locals := 60 } s m args below meth c H locs 0 0 (MQ below (XQ G X0 (some (.int r.1), r.2)) args s 0 0 (xAd X0)) (F0 m 3 ls []) := by
  intro n
  induction n with
  | zero =>
    intro y4 X H locs ls W0 hl h
    cases h
  | succ n ih =>
    intro y4 X H locs ls W0 hl h
    exact tX8_endOfRun_l3_b C0 hret (rec := fX8_endOfRun_l3 l0 l2 l3 n) (fun W0 hl h => ih W0 hl h) W0 hl h
theorem ctX8_endOfRun (l : Launch) (G : XG) {l0 : Nat} {l1 : Int32} {l2 : Int32} {l3 : Int32} {X : XW} {r : Int32 × XW}  (h : fX8_endOfRun l0 l1 l2 l3 X = some r) : XM l G yX8_endOfRun cX8_endOfRun 5 (some .int) 1 60 0 0 [.ref l0, .int l1, .int l2, .int l3] X (some (.int r.1), r.2) := by
  refine xm_of (own := RX8) (by decide) rfl (Nat.le_of_ble_eq_true rfl) ?_
  intro p e s m below meth c ls C0 W0 hret hnm hl
  have hx := C0.1
  have hb := C0.2.1
  have hl : lv_has ls 5 [(0, .ref l0), (1, .int l1), (2, .int l2), (3, .int l3)] := hl
  unfold fX8_endOfRun at h
  refine lv_iload_n hx hb dX8_endOfRun_0 rfl (lv_at hl 1 rfl) ?_
  refine lv_istore (lv' := [(4, .int l1), (0, .ref l0), (1, .int l1), (2, .int l2), (3, .int l3)]) hx hb dX8_endOfRun_1 hl (by decide) rfl (fun ls hl => ?_)
  exact tX8_endOfRun_l3 C0 hret FU W0 (lv_sub hl [1, 3, 4, 0] rfl) h
def fX8_isName_j32 (rec : Int32 → XW → Option (Int32 × XW)) (l0 : Int32) (l1 : Nat) (l2 : Int32) (l3 : Int32) (l4 : Int32) (s0 : Int32) (X : XW) : Option (Int32 × XW) :=
  fJ0_charAt_5068e_s0 ((l0 * 8) + l4) X >>= fun r1 =>
  if (r1.1 = s0 : Prop) then (rec (l4 + 1) r1.2)
  else (some (0, r1.2))
def fX8_isName_l3_b (rec : Int32 → XW → Option (Int32 × XW)) (l0 : Int32) (l1 : Nat) (l2 : Int32) (l3 : Int32) (l4 : Int32) (X : XW) : Option (Int32 × XW) :=
  if (8 ≤ l4 : Prop) then (some (1, X))
  else (if (l3 ≤ (l2 + l4) : Prop) then (fX8_isName_j32 rec l0 l1 l2 l3 l4 32 X)
    else (gR X l1 7 0 >>= fun q1 =>
      aI X q1 0 (l2 + l4) >>= fun v3 =>
      fX8_isName_j32 rec l0 l1 l2 l3 l4 v3 X))
def fX8_isName_l3 (l0 : Int32) (l1 : Nat) (l2 : Int32) (l3 : Int32) (n : Nat) : Int32 → XW → Option (Int32 × XW) := iter (fun rec => fX8_isName_l3_b rec l0 l1 l2 l3) (fun _ _ => none) n
def fX8_isName (l0 : Int32) (l1 : Nat) (l2 : Int32) (l3 : Int32) (X : XW) : Option (Int32 × XW) :=
  fX8_isName_l3 l0 l1 l2 l3 FU 0 X
theorem tX8_isName_j32 {p : Program} {l : Launch} {e : Env} {s : State} {m : MethodId} {args : Array Value} {below : List Frame} {meth : Method} {c : Code} {G : XG} {X0 : XW} (C0 : XC p s m args meth c RX8 cX8_isName 6 G) (hret : meth.sig.returnType = (some .boolean)) {r : Int32 × XW} {l0 : Int32} {l1 : Nat} {l2 : Int32} {l3 : Int32}  {rec : Int32 → XW → Option (Int32 × XW)} (hrec : ∀ {y4 : Int32} {X : XW} {H : Heap} {locs : List Loc} {ls : Array Slot}, XD G X0 X s H locs → lv_has ls 6 [(0, .int l0), (1, .ref l1), (2, .int l2), (3, .int l3), (4, .int y4)] → rec y4 X = some r → W p l e { frames := 4, cells := 0, slots := 0, locals := 240 } s m args below meth c H locs 0 0 (MQ below (XQ G X0 (some (.int r.1), r.2)) args s 0 0 (xAd X0)) (F0 m 3 ls []))  {l4 : Int32} {s0 : Int32} {X : XW} {H : Heap} {locs : List Loc} {ls : Array Slot} (W0 : XD G X0 X s H locs) (hl : lv_has ls 6 [(0, .int l0), (1, .ref l1), (2, .int l2), (3, .int l3), (4, .int l4)]) (h : fX8_isName_j32 rec l0 l1 l2 l3 l4 s0 X = some r) : W p l e { frames := 4, cells := 0, slots := 0, locals := 240 } s m args below meth c H locs 0 0 (MQ below (XQ G X0 (some (.int r.1), r.2)) args s 0 0 (xAd X0)) (F0 m 32 ls [.int s0]) := by
  have hx := C0.1
  have hb := C0.2.1
  unfold fX8_isName_j32 at h
  refine lv_istore (lv' := [(5, .int s0), (0, .int l0), (1, .ref l1), (2, .int l2), (3, .int l3), (4, .int l4)]) hx hb dX8_isName_32 hl (by decide) rfl (fun ls hl => ?_)
  refine xr_ldcS C0 W0.2.2.2.2.2.2.1 dX8_isName_34 ?_
  refine lv_iload_n hx hb dX8_isName_36 rfl (lv_at hl 1 rfl) ?_
  refine lv_bipush (v := 8) hx hb dX8_isName_37 (by decide) ?_
  refine lv_imul hx hb dX8_isName_39 ?_
  refine lv_iload hx hb dX8_isName_40 (lv_at hl 5 rfl) ?_
  refine lv_iadd hx hb dX8_isName_42 ?_
  obtain ⟨r1, h2, h⟩ := ob h
  refine xr_VT (As := [.int ((l0 * 8) + l4)]) (rest := []) C0 W0 (ctJ0_charAt_5068e_s0 l G h2) (by decide) rfl mc_J0_charAt_5068e mv_J0_charAt_5068e ml_X8_82 ⟨by decide, by decide⟩ rfl hl.1 rfl (Nat.le_of_ble_eq_true rfl) ⟨by decide, by decide⟩ dX8_isName_43 (fun H locs W0 => ?_)
  refine W.cs (cells' := 0) (slots' := 0) rfl rfl ?_
  refine W.eq (g2 := F0 m 46 ls [.int r1.1]) rfl ?_
  refine lv_iload hx hb dX8_isName_46 (lv_at hl 0 rfl) ?_
  refine lv_icmp_eq (tgt := 53) hx hb dX8_isName_48 (by decide) (fun hcq => ?_) (fun hcq => ?_)
  · have h := it_t hcq h
    refine lv_iinc (v := (l4 + 1)) (lv' := [(4, .int (l4 + 1)), (5, .int s0), (0, .int l0), (1, .ref l1), (2, .int l2), (3, .int l3)]) hx hb dX8_isName_53 hl (k := 5) rfl (ii (by decide)) (by decide) rfl (fun ls hl => ?_)
    refine lv_goto (tgt := 3) hx hb dX8_isName_56 (by decide) ?_
    exact hrec W0 (lv_sub hl [2, 3, 4, 5, 0] rfl) h
  · have h := it_f hcq h
    refine lv_iconst (v := 0) hx hb dX8_isName_51 (by decide) ?_
    exact xr_zret C0 W0 hret (by decide) (Option.some.inj h) dX8_isName_52
theorem tX8_isName_l3_b {p : Program} {l : Launch} {e : Env} {s : State} {m : MethodId} {args : Array Value} {below : List Frame} {meth : Method} {c : Code} {G : XG} {X0 : XW} (C0 : XC p s m args meth c RX8 cX8_isName 6 G) (hret : meth.sig.returnType = (some .boolean)) {r : Int32 × XW} {l0 : Int32} {l1 : Nat} {l2 : Int32} {l3 : Int32}  {rec : Int32 → XW → Option (Int32 × XW)} (hrec : ∀ {y4 : Int32} {X : XW} {H : Heap} {locs : List Loc} {ls : Array Slot}, XD G X0 X s H locs → lv_has ls 6 [(0, .int l0), (1, .ref l1), (2, .int l2), (3, .int l3), (4, .int y4)] → rec y4 X = some r → W p l e { frames := 4, cells := 0, slots := 0, locals := 240 } s m args below meth c H locs 0 0 (MQ below (XQ G X0 (some (.int r.1), r.2)) args s 0 0 (xAd X0)) (F0 m 3 ls []))  {l4 : Int32} {X : XW} {H : Heap} {locs : List Loc} {ls : Array Slot} (W0 : XD G X0 X s H locs) (hl : lv_has ls 6 [(0, .int l0), (1, .ref l1), (2, .int l2), (3, .int l3), (4, .int l4)]) (h : fX8_isName_l3_b rec l0 l1 l2 l3 l4 X = some r) : W p l e { frames := 4, cells := 0, slots := 0, locals := 240 } s m args below meth c H locs 0 0 (MQ below (XQ G X0 (some (.int r.1), r.2)) args s 0 0 (xAd X0)) (F0 m 3 ls []) := by
  have hx := C0.1
  have hb := C0.2.1
  unfold fX8_isName_l3_b at h
  refine lv_iload hx hb dX8_isName_3 (lv_at hl 4 rfl) ?_
  refine lv_bipush (v := 8) hx hb dX8_isName_5 (by decide) ?_
  refine lv_icmp_ge (tgt := 59) hx hb dX8_isName_7 (by decide) (fun hcq => ?_) (fun hcq => ?_)
  · have h := it_t hcq h
    refine lv_iconst (v := 1) hx hb dX8_isName_59 (by decide) ?_
    exact xr_zret C0 W0 hret (by decide) (Option.some.inj h) dX8_isName_60
  · have h := it_f hcq h
    refine lv_iload_n hx hb dX8_isName_10 rfl (lv_at hl 2 rfl) ?_
    refine lv_iload hx hb dX8_isName_11 (lv_at hl 4 rfl) ?_
    refine lv_iadd hx hb dX8_isName_13 ?_
    refine lv_iload_n hx hb dX8_isName_14 rfl (lv_at hl 3 rfl) ?_
    refine lv_icmp_ge (tgt := 30) hx hb dX8_isName_15 (by decide) (fun hcq => ?_) (fun hcq => ?_)
    · have h := it_t hcq h
      refine lv_bipush (v := 32) hx hb dX8_isName_30 (by decide) ?_
      exact tX8_isName_j32 C0 hret hrec W0 (lv_sub hl [0, 1, 2, 3, 4] rfl) h
    · have h := it_f hcq h
      refine lv_aload_n hx hb dX8_isName_18 rfl (lv_at hl 1 rfl) ?_
      obtain ⟨q1, h2, h⟩ := ob h
      refine xr_getR C0 W0 cl_X7 0 (by decide) fl_X8_41 rfl h2 dX8_isName_19 ?_
      refine lv_iload_n hx hb dX8_isName_22 rfl (lv_at hl 2 rfl) ?_
      refine lv_iload hx hb dX8_isName_23 (lv_at hl 4 rfl) ?_
      refine lv_iadd hx hb dX8_isName_25 ?_
      obtain ⟨v3, h4, h⟩ := ob h
      refine xr_bald C0 W0 h4 dX8_isName_26 ?_
      refine lv_goto (tgt := 32) hx hb dX8_isName_27 (by decide) ?_
      exact tX8_isName_j32 C0 hret hrec W0 (lv_sub hl [0, 1, 2, 3, 4] rfl) h
theorem tX8_isName_l3 {p : Program} {l : Launch} {e : Env} {s : State} {m : MethodId} {args : Array Value} {below : List Frame} {meth : Method} {c : Code} {G : XG} {X0 : XW} (C0 : XC p s m args meth c RX8 cX8_isName 6 G) (hret : meth.sig.returnType = (some .boolean)) {r : Int32 × XW} {l0 : Int32} {l1 : Nat} {l2 : Int32} {l3 : Int32}  : ∀ (n : Nat) {y4 : Int32} {X : XW} {H : Heap} {locs : List Loc} {ls : Array Slot}, XD G X0 X s H locs → lv_has ls 6 [(0, .int l0), (1, .ref l1), (2, .int l2), (3, .int l3), (4, .int y4)] → fX8_isName_l3 l0 l1 l2 l3 n y4 X = some r → W p l e { frames := 4, cells := 0, slots := 0, locals := 240 } s m args below meth c H locs 0 0 (MQ below (XQ G X0 (some (.int r.1), r.2)) args s 0 0 (xAd X0)) (F0 m 3 ls []) := by
  intro n
  induction n with
  | zero =>
    intro y4 X H locs ls W0 hl h
    cases h
  | succ n ih =>
    intro y4 X H locs ls W0 hl h
    exact tX8_isName_l3_b C0 hret (rec := fX8_isName_l3 l0 l1 l2 l3 n) (fun W0 hl h => ih W0 hl h) W0 hl h
theorem ctX8_isName (l : Launch) (G : XG) {l0 : Int32} {l1 : Nat} {l2 : Int32} {l3 : Int32} {X : XW} {r : Int32 × XW}  (h : fX8_isName l0 l1 l2 l3 X = some r) : XM l G yX8_isName cX8_isName 6 (some .boolean) 4 240 0 0 [.int l0, .ref l1, .int l2, .int l3] X (some (.int r.1), r.2) := by
  refine xm_of (own := RX8) (by decide) rfl (Nat.le_of_ble_eq_true rfl) ?_
  intro p e s m below meth c ls C0 W0 hret hnm hl
  have hx := C0.1
  have hb := C0.2.1
  have hl : lv_has ls 6 [(0, .int l0), (1, .ref l1), (2, .int l2), (3, .int l3)] := hl
  unfold fX8_isName at h
  refine lv_iconst (v := 0) hx hb dX8_isName_0 (by decide) ?_
  refine lv_istore (lv' := [(4, .int 0), (0, .int l0), (1, .ref l1), (2, .int l2), (3, .int l3)]) hx hb dX8_isName_1 hl (by decide) rfl (fun ls hl => ?_)
  exact tX8_isName_l3 C0 hret FU W0 (lv_sub hl [1, 2, 3, 4, 0] rfl) h
def fX8_nameAt_l10_b (rec : Int32 → XW → Option (Int32 × XW)) (l0 : Nat) (l1 : Int32) (l2 : Int32) (l3 : Int32) (X : XW) : Option (Int32 × XW) :=
  fJ0_length_8abf5_s0  X >>= fun r1 =>
  iD r1.1 8 >>= fun v3 =>
  if (v3 ≤ l3 : Prop) then (some (25, r1.2))
  else (fX8_isName l3 l0 l1 l2 r1.2 >>= fun r5 =>
    if (r5.1 = 0 : Prop) then (rec (l3 + 1) r5.2)
    else (some (l3, r5.2)))
def fX8_nameAt_l10 (l0 : Nat) (l1 : Int32) (l2 : Int32) (n : Nat) : Int32 → XW → Option (Int32 × XW) := iter (fun rec => fX8_nameAt_l10_b rec l0 l1 l2) (fun _ _ => none) n
def fX8_nameAt (l0 : Nat) (l1 : Int32) (l2 : Int32) (X : XW) : Option (Int32 × XW) :=
  if (8 < (l2 - l1) : Prop) then (some (25, X))
  else (fX8_nameAt_l10 l0 l1 l2 FU 0 X)
theorem tX8_nameAt_l10_b {p : Program} {l : Launch} {e : Env} {s : State} {m : MethodId} {args : Array Value} {below : List Frame} {meth : Method} {c : Code} {G : XG} {X0 : XW} (C0 : XC p s m args meth c RX8 cX8_nameAt 4 G) (hret : meth.sig.returnType = (some .int)) {r : Int32 × XW} {l0 : Nat} {l1 : Int32} {l2 : Int32}  {rec : Int32 → XW → Option (Int32 × XW)} (hrec : ∀ {y3 : Int32} {X : XW} {H : Heap} {locs : List Loc} {ls : Array Slot}, XD G X0 X s H locs → lv_has ls 4 [(0, .ref l0), (1, .int l1), (2, .int l2), (3, .int y3)] → rec y3 X = some r → W p l e { frames := 5, cells := 0, slots := 0, locals := 300 } s m args below meth c H locs 0 0 (MQ below (XQ G X0 (some (.int r.1), r.2)) args s 0 0 (xAd X0)) (F0 m 10 ls []))  {l3 : Int32} {X : XW} {H : Heap} {locs : List Loc} {ls : Array Slot} (W0 : XD G X0 X s H locs) (hl : lv_has ls 4 [(0, .ref l0), (1, .int l1), (2, .int l2), (3, .int l3)]) (h : fX8_nameAt_l10_b rec l0 l1 l2 l3 X = some r) : W p l e { frames := 5, cells := 0, slots := 0, locals := 300 } s m args below meth c H locs 0 0 (MQ below (XQ G X0 (some (.int r.1), r.2)) args s 0 0 (xAd X0)) (F0 m 10 ls []) := by
  have hx := C0.1
  have hb := C0.2.1
  unfold fX8_nameAt_l10_b at h
  refine lv_iload_n hx hb dX8_nameAt_10 rfl (lv_at hl 3 rfl) ?_
  refine xr_ldcS C0 W0.2.2.2.2.2.2.1 dX8_nameAt_11 ?_
  obtain ⟨r1, h2, h⟩ := ob h
  refine xr_VT (As := []) (rest := [.int l3]) C0 W0 (ctJ0_length_8abf5_s0 l G h2) (by decide) rfl mc_J0_length_8abf5 mv_J0_length_8abf5 ml_X8_74 ⟨by decide, by decide⟩ rfl hl.1 rfl (Nat.le_of_ble_eq_true rfl) ⟨by decide, by decide⟩ dX8_nameAt_13 (fun H locs W0 => ?_)
  refine W.cs (cells' := 0) (slots' := 0) rfl rfl ?_
  refine W.eq (g2 := F0 m 16 ls [.int r1.1, .int l3]) rfl ?_
  refine lv_bipush (v := 8) hx hb dX8_nameAt_16 (by decide) ?_
  obtain ⟨v3, h4, h⟩ := ob h
  refine xr_idiv C0 h4 dX8_nameAt_18 ?_
  refine lv_icmp_ge (tgt := 40) hx hb dX8_nameAt_19 (by decide) (fun hcq => ?_) (fun hcq => ?_)
  · have h := it_t hcq h
    refine lv_bipush (v := 25) hx hb dX8_nameAt_40 (by decide) ?_
    exact xr_iret C0 W0 hret (Option.some.inj h) dX8_nameAt_42
  · have h := it_f hcq h
    refine lv_iload_n hx hb dX8_nameAt_22 rfl (lv_at hl 3 rfl) ?_
    refine lv_aload_n hx hb dX8_nameAt_23 rfl (lv_at hl 0 rfl) ?_
    refine lv_iload_n hx hb dX8_nameAt_24 rfl (lv_at hl 1 rfl) ?_
    refine lv_iload_n hx hb dX8_nameAt_25 rfl (lv_at hl 2 rfl) ?_
    obtain ⟨r5, h6, h⟩ := ob h
    refine xr_S (As := [.int l3, .ref l0, .int l1, .int l2]) (rest := []) C0 W0 (ctX8_isName l G h6) mc_X8_isName ms_X8_isName ml_X8_78 ⟨by decide, by decide⟩ rfl hl.1 rfl (Nat.le_of_ble_eq_true rfl) ⟨by decide, by decide⟩ dX8_nameAt_26 (fun H locs W0 => ?_)
    refine W.cs (cells' := 0) (slots' := 0) rfl rfl ?_
    refine W.eq (g2 := F0 m 29 ls [.int r5.1]) rfl ?_
    refine lv_if_eq (tgt := 34) hx hb dX8_nameAt_29 (by decide) (fun hcq => ?_) (fun hcq => ?_)
    · have h := it_t hcq h
      refine lv_iinc (v := (l3 + 1)) (lv' := [(3, .int (l3 + 1)), (0, .ref l0), (1, .int l1), (2, .int l2)]) hx hb dX8_nameAt_34 hl (k := 3) rfl (ii (by decide)) (by decide) rfl (fun ls hl => ?_)
      refine lv_goto (tgt := 10) hx hb dX8_nameAt_37 (by decide) ?_
      exact hrec W0 (lv_sub hl [1, 2, 3, 0] rfl) h
    · have h := it_f hcq h
      refine lv_iload_n hx hb dX8_nameAt_32 rfl (lv_at hl 3 rfl) ?_
      exact xr_iret C0 W0 hret (Option.some.inj h) dX8_nameAt_33
theorem tX8_nameAt_l10 {p : Program} {l : Launch} {e : Env} {s : State} {m : MethodId} {args : Array Value} {below : List Frame} {meth : Method} {c : Code} {G : XG} {X0 : XW} (C0 : XC p s m args meth c RX8 cX8_nameAt 4 G) (hret : meth.sig.returnType = (some .int)) {r : Int32 × XW} {l0 : Nat} {l1 : Int32} {l2 : Int32}  : ∀ (n : Nat) {y3 : Int32} {X : XW} {H : Heap} {locs : List Loc} {ls : Array Slot}, XD G X0 X s H locs → lv_has ls 4 [(0, .ref l0), (1, .int l1), (2, .int l2), (3, .int y3)] → fX8_nameAt_l10 l0 l1 l2 n y3 X = some r → W p l e { frames := 5, cells := 0, slots := 0, locals := 300 } s m args below meth c H locs 0 0 (MQ below (XQ G X0 (some (.int r.1), r.2)) args s 0 0 (xAd X0)) (F0 m 10 ls []) := by
  intro n
  induction n with
  | zero =>
    intro y3 X H locs ls W0 hl h
    cases h
  | succ n ih =>
    intro y3 X H locs ls W0 hl h
    exact tX8_nameAt_l10_b C0 hret (rec := fX8_nameAt_l10 l0 l1 l2 n) (fun W0 hl h => ih W0 hl h) W0 hl h
theorem ctX8_nameAt (l : Launch) (G : XG) {l0 : Nat} {l1 : Int32} {l2 : Int32} {X : XW} {r : Int32 × XW}  (h : fX8_nameAt l0 l1 l2 X = some r) : XM l G yX8_nameAt cX8_nameAt 4 (some .int) 5 300 0 0 [.ref l0, .int l1, .int l2] X (some (.int r.1), r.2) := by
  refine xm_of (own := RX8) (by decide) rfl (Nat.le_of_ble_eq_true rfl) ?_
  intro p e s m below meth c ls C0 W0 hret hnm hl
  have hx := C0.1
  have hb := C0.2.1
  have hl : lv_has ls 4 [(0, .ref l0), (1, .int l1), (2, .int l2)] := hl
  unfold fX8_nameAt at h
  refine lv_iload_n hx hb dX8_nameAt_0 rfl (lv_at hl 2 rfl) ?_
  refine lv_iload_n hx hb dX8_nameAt_1 rfl (lv_at hl 1 rfl) ?_
  refine lv_isub hx hb dX8_nameAt_2 ?_
  refine lv_bipush (v := 8) hx hb dX8_nameAt_3 (by decide) ?_
  refine lv_icmp_gt (tgt := 40) hx hb dX8_nameAt_5 (by decide) (fun hcq => ?_) (fun hcq => ?_)
  · have h := it_t hcq h
    refine lv_bipush (v := 25) hx hb dX8_nameAt_40 (by decide) ?_
    exact xr_iret C0 W0 hret (Option.some.inj h) dX8_nameAt_42
  · have h := it_f hcq h
    refine lv_iconst (v := 0) hx hb dX8_nameAt_8 (by decide) ?_
    refine lv_istore_n (lv' := [(3, .int 0), (0, .ref l0), (1, .int l1), (2, .int l2)]) hx hb dX8_nameAt_9 rfl hl (by decide) rfl (fun ls hl => ?_)
    exact tX8_nameAt_l10 C0 hret FU W0 (lv_sub hl [1, 2, 3, 0] rfl) h
def fX8_addToken (l0 : Nat) (l1 : Int32) (l2 : Int32) (X : XW) : Option (XW) :=
  gI X l0 8 2 >>= fun v1 =>
  gR X l0 8 0 >>= fun q3 =>
  aE X q3 1 >>= fun v5 =>
  if (v5 ≤ v1 : Prop) then (some X)
  else (gR X l0 8 0 >>= fun q7 =>
    gI X l0 8 2 >>= fun v9 =>
    uI X q7 v9 l1 >>= fun X11 =>
    gR X11 l0 8 1 >>= fun q13 =>
    gI X11 l0 8 2 >>= fun v15 =>
    uI X11 q13 v15 l2 >>= fun X17 =>
    gI X17 l0 8 2 >>= fun v19 =>
    pI X17 l0 8 2 (v19 + 1) >>= fun X21 =>
    some X21)
theorem ctX8_addToken (l : Launch) (G : XG) {l0 : Nat} {l1 : Int32} {l2 : Int32} {X : XW} {r : XW}  (h : fX8_addToken l0 l1 l2 X = some r) : XM l G yX8_addToken cX8_addToken 3 none 0 0 0 0 [.ref l0, .int l1, .int l2] X (none, r) := by
  refine xm_of (own := RX8) (by decide) rfl (Nat.le_of_ble_eq_true rfl) ?_
  intro p e s m below meth c ls C0 W0 hret hnm hl
  have hx := C0.1
  have hb := C0.2.1
  have hl : lv_has ls 3 [(0, .ref l0), (1, .int l1), (2, .int l2)] := hl
  unfold fX8_addToken at h
  refine lv_aload_n hx hb dX8_addToken_0 rfl (lv_at hl 0 rfl) ?_
  obtain ⟨v1, h2, h⟩ := ob h
  refine xr_getI C0 W0 cl_X8 2 (by decide) fl_X8_9 rfl h2 dX8_addToken_1 ?_
  refine lv_aload_n hx hb dX8_addToken_4 rfl (lv_at hl 0 rfl) ?_
  obtain ⟨q3, h4, h⟩ := ob h
  refine xr_getR C0 W0 cl_X8 0 (by decide) fl_X8_21 rfl h4 dX8_addToken_5 ?_
  obtain ⟨v5, h6, h⟩ := ob h
  refine xr_alen C0 W0 1 rfl h6 dX8_addToken_8 ?_
  refine lv_icmp_ge (tgt := 42) hx hb dX8_addToken_9 (by decide) (fun hcq => ?_) (fun hcq => ?_)
  · have h := it_t hcq h
    exact xr_vret C0 W0 hret (Option.some.inj h).symm dX8_addToken_42
  · have h := it_f hcq h
    refine lv_aload_n hx hb dX8_addToken_12 rfl (lv_at hl 0 rfl) ?_
    obtain ⟨q7, h8, h⟩ := ob h
    refine xr_getR C0 W0 cl_X8 0 (by decide) fl_X8_21 rfl h8 dX8_addToken_13 ?_
    refine lv_aload_n hx hb dX8_addToken_16 rfl (lv_at hl 0 rfl) ?_
    obtain ⟨v9, h10, h⟩ := ob h
    refine xr_getI C0 W0 cl_X8 2 (by decide) fl_X8_9 rfl h10 dX8_addToken_17 ?_
    refine lv_iload_n hx hb dX8_addToken_20 rfl (lv_at hl 1 rfl) ?_
    obtain ⟨X11, h12, h⟩ := ob h
    refine xr_iast C0 W0 h12 dX8_addToken_21 (fun H locs W0 => ?_)
    refine lv_aload_n hx hb dX8_addToken_22 rfl (lv_at hl 0 rfl) ?_
    obtain ⟨q13, h14, h⟩ := ob h
    refine xr_getR C0 W0 cl_X8 1 (by decide) fl_X8_25 rfl h14 dX8_addToken_23 ?_
    refine lv_aload_n hx hb dX8_addToken_26 rfl (lv_at hl 0 rfl) ?_
    obtain ⟨v15, h16, h⟩ := ob h
    refine xr_getI C0 W0 cl_X8 2 (by decide) fl_X8_9 rfl h16 dX8_addToken_27 ?_
    refine lv_iload_n hx hb dX8_addToken_30 rfl (lv_at hl 2 rfl) ?_
    obtain ⟨X17, h18, h⟩ := ob h
    refine xr_iast C0 W0 h18 dX8_addToken_31 (fun H locs W0 => ?_)
    refine lv_aload_n hx hb dX8_addToken_32 rfl (lv_at hl 0 rfl) ?_
    refine lv_dup hx hb dX8_addToken_33 rfl ?_
    obtain ⟨v19, h20, h⟩ := ob h
    refine xr_getI C0 W0 cl_X8 2 (by decide) fl_X8_9 rfl h20 dX8_addToken_34 ?_
    refine lv_iconst (v := 1) hx hb dX8_addToken_37 (by decide) ?_
    refine lv_iadd hx hb dX8_addToken_38 ?_
    obtain ⟨X21, h22, h⟩ := ob h
    refine xr_putI C0 W0 cl_X8 2 (by decide) fl_X8_9 rfl rfl rfl (by decide) h22 dX8_addToken_39 (fun H locs W0 => ?_)
    exact xr_vret C0 W0 hret (Option.some.inj h).symm dX8_addToken_42
def fX8_numberAt_l15_b (rec : Int32 → Int32 → XW → Option (Int32 × XW)) (l0 : Nat) (l2 : Int32) (l3 : Int32) (l4 : Int32) (X : XW) : Option (Int32 × XW) :=
  if (l2 ≤ l4 : Prop) then (some (l3, X))
  else (gR X l0 7 0 >>= fun q1 =>
    aI X q1 0 l4 >>= fun v3 =>
    rec (((l3 * 10) + v3) - 48) (l4 + 1) X)
def fX8_numberAt_l15 (l0 : Nat) (l2 : Int32) (n : Nat) : Int32 → Int32 → XW → Option (Int32 × XW) := iter (fun rec => fX8_numberAt_l15_b rec l0 l2) (fun _ _ _ => none) n
def fX8_numberAt (l0 : Nat) (l1 : Int32) (l2 : Int32) (X : XW) : Option (Int32 × XW) :=
  if ((l2 - l1) ≤ 4 : Prop) then (fX8_numberAt_l15 l0 l2 FU 0 l1 X >>= fun r1 =>
    some ((26 + r1.1), r1.2))
  else (some (25, X))
theorem tX8_numberAt_l15_b {p : Program} {l : Launch} {e : Env} {s : State} {m : MethodId} {args : Array Value} {below : List Frame} {meth : Method} {c : Code} {G : XG} {X0 : XW} (C0 : XC p s m args meth c RX8 cX8_numberAt 5 G) (hret : meth.sig.returnType = (some .int)) {r : Int32 × XW} {l0 : Nat} {l2 : Int32} {Q : State → Prop} {rec : Int32 → Int32 → XW → Option (Int32 × XW)} (hrec : ∀ {y3 : Int32} {y4 : Int32} {X : XW} {H : Heap} {locs : List Loc} {ls : Array Slot}, XD G X0 X s H locs → lv_has ls 5 [(0, .ref l0), (2, .int l2), (3, .int y3), (4, .int y4)] → rec y3 y4 X = some r → W p l e { frames := 0, cells := 0, slots := 0, locals := 0 } s m args below meth c H locs 0 0 Q (F0 m 15 ls [])) (hK : ∀ {H : Heap} {locs : List Loc} {ls : Array Slot}, XD G X0 r.2 s H locs → lv_has ls 5 [(3, .int r.1)] → W p l e { frames := 0, cells := 0, slots := 0, locals := 0 } s m args below meth c H locs 0 0 Q (F0 m 43 ls []))  {l3 : Int32} {l4 : Int32} {X : XW} {H : Heap} {locs : List Loc} {ls : Array Slot} (W0 : XD G X0 X s H locs) (hl : lv_has ls 5 [(0, .ref l0), (2, .int l2), (3, .int l3), (4, .int l4)]) (h : fX8_numberAt_l15_b rec l0 l2 l3 l4 X = some r) : W p l e { frames := 0, cells := 0, slots := 0, locals := 0 } s m args below meth c H locs 0 0 Q (F0 m 15 ls []) := by
  have hx := C0.1
  have hb := C0.2.1
  unfold fX8_numberAt_l15_b at h
  refine lv_iload hx hb dX8_numberAt_15 (lv_at hl 3 rfl) ?_
  refine lv_iload_n hx hb dX8_numberAt_17 rfl (lv_at hl 1 rfl) ?_
  refine lv_icmp_ge (tgt := 43) hx hb dX8_numberAt_18 (by decide) (fun hcq => ?_) (fun hcq => ?_)
  · have h := it_t hcq h
    cases h
    exact hK W0 (lv_sub hl [2] rfl)
  · have h := it_f hcq h
    refine lv_iload_n hx hb dX8_numberAt_21 rfl (lv_at hl 2 rfl) ?_
    refine lv_bipush (v := 10) hx hb dX8_numberAt_22 (by decide) ?_
    refine lv_imul hx hb dX8_numberAt_24 ?_
    refine lv_aload_n hx hb dX8_numberAt_25 rfl (lv_at hl 0 rfl) ?_
    obtain ⟨q1, h2, h⟩ := ob h
    refine xr_getR C0 W0 cl_X7 0 (by decide) fl_X8_41 rfl h2 dX8_numberAt_26 ?_
    refine lv_iload hx hb dX8_numberAt_29 (lv_at hl 3 rfl) ?_
    obtain ⟨v3, h4, h⟩ := ob h
    refine xr_bald C0 W0 h4 dX8_numberAt_31 ?_
    refine lv_iadd hx hb dX8_numberAt_32 ?_
    refine lv_bipush (v := 48) hx hb dX8_numberAt_33 (by decide) ?_
    refine lv_isub hx hb dX8_numberAt_35 ?_
    refine lv_istore_n (lv' := [(3, .int (((l3 * 10) + v3) - 48)), (0, .ref l0), (2, .int l2), (4, .int l4)]) hx hb dX8_numberAt_36 rfl hl (by decide) rfl (fun ls hl => ?_)
    refine lv_iinc (v := (l4 + 1)) (lv' := [(4, .int (l4 + 1)), (3, .int (((l3 * 10) + v3) - 48)), (0, .ref l0), (2, .int l2)]) hx hb dX8_numberAt_37 hl (k := 3) rfl (ii (by decide)) (by decide) rfl (fun ls hl => ?_)
    refine lv_goto (tgt := 15) hx hb dX8_numberAt_40 (by decide) ?_
    exact hrec W0 (lv_sub hl [2, 3, 1, 0] rfl) h
theorem tX8_numberAt_l15 {p : Program} {l : Launch} {e : Env} {s : State} {m : MethodId} {args : Array Value} {below : List Frame} {meth : Method} {c : Code} {G : XG} {X0 : XW} (C0 : XC p s m args meth c RX8 cX8_numberAt 5 G) (hret : meth.sig.returnType = (some .int)) {r : Int32 × XW} {l0 : Nat} {l2 : Int32} {Q : State → Prop} (hK : ∀ {H : Heap} {locs : List Loc} {ls : Array Slot}, XD G X0 r.2 s H locs → lv_has ls 5 [(3, .int r.1)] → W p l e { frames := 0, cells := 0, slots := 0, locals := 0 } s m args below meth c H locs 0 0 Q (F0 m 43 ls [])) : ∀ (n : Nat) {y3 : Int32} {y4 : Int32} {X : XW} {H : Heap} {locs : List Loc} {ls : Array Slot}, XD G X0 X s H locs → lv_has ls 5 [(0, .ref l0), (2, .int l2), (3, .int y3), (4, .int y4)] → fX8_numberAt_l15 l0 l2 n y3 y4 X = some r → W p l e { frames := 0, cells := 0, slots := 0, locals := 0 } s m args below meth c H locs 0 0 Q (F0 m 15 ls []) := by
  intro n
  induction n with
  | zero =>
    intro y3 y4 X H locs ls W0 hl h
    cases h
  | succ n ih =>
    intro y3 y4 X H locs ls W0 hl h
    exact tX8_numberAt_l15_b C0 hret (rec := fX8_numberAt_l15 l0 l2 n) (fun W0 hl h => ih W0 hl h) hK W0 hl h
theorem ctX8_numberAt (l : Launch) (G : XG) {l0 : Nat} {l1 : Int32} {l2 : Int32} {X : XW} {r : Int32 × XW}  (h : fX8_numberAt l0 l1 l2 X = some r) : XM l G yX8_numberAt cX8_numberAt 5 (some .int) 0 0 0 0 [.ref l0, .int l1, .int l2] X (some (.int r.1), r.2) := by
  refine xm_of (own := RX8) (by decide) rfl (Nat.le_of_ble_eq_true rfl) ?_
  intro p e s m below meth c ls C0 W0 hret hnm hl
  have hx := C0.1
  have hb := C0.2.1
  have hl : lv_has ls 5 [(0, .ref l0), (1, .int l1), (2, .int l2)] := hl
  unfold fX8_numberAt at h
  refine lv_iload_n hx hb dX8_numberAt_0 rfl (lv_at hl 2 rfl) ?_
  refine lv_iload_n hx hb dX8_numberAt_1 rfl (lv_at hl 1 rfl) ?_
  refine lv_isub hx hb dX8_numberAt_2 ?_
  refine lv_iconst (v := 4) hx hb dX8_numberAt_3 (by decide) ?_
  refine lv_icmp_le (tgt := 10) hx hb dX8_numberAt_4 (by decide) (fun hcq => ?_) (fun hcq => ?_)
  · have h := it_t hcq h
    refine lv_iconst (v := 0) hx hb dX8_numberAt_10 (by decide) ?_
    refine lv_istore_n (lv' := [(3, .int 0), (0, .ref l0), (1, .int l1), (2, .int l2)]) hx hb dX8_numberAt_11 rfl hl (by decide) rfl (fun ls hl => ?_)
    refine lv_iload_n hx hb dX8_numberAt_12 rfl (lv_at hl 2 rfl) ?_
    refine lv_istore (lv' := [(4, .int l1), (3, .int 0), (0, .ref l0), (1, .int l1), (2, .int l2)]) hx hb dX8_numberAt_13 hl (by decide) rfl (fun ls hl => ?_)
    obtain ⟨r1, h2, h⟩ := ob h
    refine tX8_numberAt_l15 C0 hret (fun {H} {locs} {ls} W0 hl => ?_) FU W0 (lv_sub hl [2, 4, 1, 0] rfl) h2
    refine lv_bipush (v := 26) hx hb dX8_numberAt_43 (by decide) ?_
    refine lv_iload_n hx hb dX8_numberAt_45 rfl (lv_at hl 0 rfl) ?_
    refine lv_iadd hx hb dX8_numberAt_46 ?_
    exact xr_iret C0 W0 hret (Option.some.inj h) dX8_numberAt_47
  · have h := it_f hcq h
    refine lv_bipush (v := 25) hx hb dX8_numberAt_7 (by decide) ?_
    exact xr_iret C0 W0 hret (Option.some.inj h) dX8_numberAt_9
