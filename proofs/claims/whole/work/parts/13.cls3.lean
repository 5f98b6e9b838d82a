def fX3_partWords_l17_b (rec : Int32 → XW → Option (XW)) (l0 : Nat) (l1 : Nat) (l2 : Int32) (l3 : Int32) (X : XW) : Option (XW) :=
  if (l3 < 0 : Prop) then (some (X))
  else (gK X l0 3 >>= fun u1 =>
    fX3_weighFrom l0 l1 l2 l3 X >>= fun X3 =>
    rec (l3 + (-1)) X3)
def fX3_partWords_l17 (l0 : Nat) (l1 : Nat) (l2 : Int32) (n : Nat) : Int32 → XW → Option (XW) := iter (fun rec => fX3_partWords_l17_b rec l0 l1 l2) (fun _ _ => none) n
def fX3_partWords_j78 (rec : Int32 → Int32 → XW → Option (XW)) (l0 : Nat) (l1 : Nat) (l3 : Int32) (l4 : Int32) (X : XW) : Option (XW) :=
  rec l3 (l4 + 1) X
def fX3_partWords_l44_b (rec : Int32 → Int32 → XW → Option (XW)) (l0 : Nat) (l1 : Nat) (l3 : Int32) (l4 : Int32) (X : XW) : Option (XW) :=
  gI X l1 4 6 >>= fun v1 =>
  if (v1 ≤ l4 : Prop) then (some (X))
  else (if (l4 = l3 : Prop) then (gR X l0 3 6 >>= fun q3 =>
      aI X q3 1 l4 >>= fun v5 =>
      gK X l0 3 >>= fun u7 =>
      fX3_addPhrase l0 l1 l4 (l4 + v5) X >>= fun X9 =>
      fX3_partWords_j78 rec l0 l1 (l4 + v5) l4 X9)
    else (fX3_partWords_j78 rec l0 l1 l3 l4 X))
def fX3_partWords_l44 (l0 : Nat) (l1 : Nat) (n : Nat) : Int32 → Int32 → XW → Option (XW) := iter (fun rec => fX3_partWords_l44_b rec l0 l1) (fun _ _ _ => none) n
def fX3_partWords (l0 : Nat) (l1 : Nat) (l2 : Int32) (X : XW) : Option (XW) :=
  gR X l0 3 5 >>= fun q1 =>
  gI X l1 4 6 >>= fun v3 =>
  uI X q1 v3 0 >>= fun X5 =>
  gI X5 l1 4 6 >>= fun v7 =>
  fX3_partWords_l17 l0 l1 l2 FU (v7 - 1) X5 >>= fun r9 =>
  pI r9 l0 3 7 0 >>= fun X11 =>
  fX3_partWords_l44 l0 l1 FU 0 0 X11 >>= fun r13 =>
  some r13
theorem tX3_partWords_l17_b {p : Program} {l : Launch} {e : Env} {s : State} {m : MethodId} {args : Array Value} {below : List Frame} {meth : Method} {c : Code} {G : XG} {X0 : XW} (C0 : XC p s m args meth c RX3 cX3_partWords 5 G) (hret : meth.sig.returnType = none) {r : XW} {l0 : Nat} {l1 : Nat} {l2 : Int32} {Q : State → Prop} {rec : Int32 → XW → Option (XW)} (hrec : ∀ {y3 : Int32} {X : XW} {H : Heap} {locs : List Loc} {ls : Array Slot}, XD G X0 X s H locs → lv_has ls 5 [(0, .ref l0), (1, .ref l1), (2, .int l2), (3, .int y3)] → rec y3 X = some r → W p l e { frames := 2, cells := 0, slots := 0, locals := 120 } s m args below meth c H locs 0 0 Q (F0 m 17 ls [])) (hK : ∀ {H : Heap} {locs : List Loc} {ls : Array Slot}, XD G X0 r s H locs → lv_has ls 5 [(0, .ref l0), (1, .ref l1)] → W p l e { frames := 2, cells := 0, slots := 0, locals := 120 } s m args below meth c H locs 0 0 Q (F0 m 34 ls []))  {l3 : Int32} {X : XW} {H : Heap} {locs : List Loc} {ls : Array Slot} (W0 : XD G X0 X s H locs) (hl : lv_has ls 5 [(0, .ref l0), (1, .ref l1), (2, .int l2), (3, .int l3)]) (h : fX3_partWords_l17_b rec l0 l1 l2 l3 X = some r) : W p l e { frames := 2, cells := 0, slots := 0, locals := 120 } s m args below meth c H locs 0 0 Q (F0 m 17 ls []) := by
  have hx := C0.1
  have hb := C0.2.1
  unfold fX3_partWords_l17_b at h
  refine lv_iload_n hx hb dX3_partWords_17 rfl (lv_at hl 3 rfl) ?_
  refine lv_if_lt (tgt := 34) hx hb dX3_partWords_18 (by decide) (fun hcq => ?_) (fun hcq => ?_)
  · have h := it_t hcq h
    cases h
    exact hK W0 (lv_sub hl [0, 1] rfl)
  · have h := it_f hcq h
    refine lv_aload_n hx hb dX3_partWords_21 rfl (lv_at hl 0 rfl) ?_
    refine lv_aload_n hx hb dX3_partWords_22 rfl (lv_at hl 1 rfl) ?_
    refine lv_iload_n hx hb dX3_partWords_23 rfl (lv_at hl 2 rfl) ?_
    refine lv_iload_n hx hb dX3_partWords_24 rfl (lv_at hl 3 rfl) ?_
    obtain ⟨u1, h2, h⟩ := ob h
    obtain ⟨X3, h4, h⟩ := ob h
    refine xr_V (As := [.ref l1, .int l2, .int l3]) (rest := []) C0 W0 (ctX3_weighFrom l G h4) (gK_of h2) (rr := (RX3, TX3, 8)) rfl rfl mc_X3_weighFrom mv_X3_weighFrom ml_X3_43 ⟨by decide, by decide⟩ rfl hl.1 rfl (Nat.le_of_ble_eq_true rfl) ⟨by decide, by decide⟩ dX3_partWords_25 (fun H locs W0 => ?_)
    refine W.cs (cells' := 0) (slots' := 0) rfl rfl ?_
    refine W.eq (g2 := F0 m 28 ls []) rfl ?_
    refine lv_iinc (v := (l3 + (-1))) (lv' := [(3, .int (l3 + (-1))), (0, .ref l0), (1, .ref l1), (2, .int l2)]) hx hb dX3_partWords_28 hl (k := 3) rfl (ii (by decide)) (by decide) rfl (fun ls hl => ?_)
    refine lv_goto (tgt := 17) hx hb dX3_partWords_31 (by decide) ?_
    exact hrec W0 (lv_sub hl [1, 2, 3, 0] rfl) h
theorem tX3_partWords_l17 {p : Program} {l : Launch} {e : Env} {s : State} {m : MethodId} {args : Array Value} {below : List Frame} {meth : Method} {c : Code} {G : XG} {X0 : XW} (C0 : XC p s m args meth c RX3 cX3_partWords 5 G) (hret : meth.sig.returnType = none) {r : XW} {l0 : Nat} {l1 : Nat} {l2 : Int32} {Q : State → Prop} (hK : ∀ {H : Heap} {locs : List Loc} {ls : Array Slot}, XD G X0 r s H locs → lv_has ls 5 [(0, .ref l0), (1, .ref l1)] → W p l e { frames := 2, cells := 0, slots := 0, locals := 120 } s m args below meth c H locs 0 0 Q (F0 m 34 ls [])) : ∀ (n : Nat) {y3 : Int32} {X : XW} {H : Heap} {locs : List Loc} {ls : Array Slot}, XD G X0 X s H locs → lv_has ls 5 [(0, .ref l0), (1, .ref l1), (2, .int l2), (3, .int y3)] → fX3_partWords_l17 l0 l1 l2 n y3 X = some r → W p l e { frames := 2, cells := 0, slots := 0, locals := 120 } s m args below meth c H locs 0 0 Q (F0 m 17 ls []) := by
  intro n
  induction n with
  | zero =>
    intro y3 X H locs ls W0 hl h
    cases h
  | succ n ih =>
    intro y3 X H locs ls W0 hl h
    exact tX3_partWords_l17_b C0 hret (rec := fX3_partWords_l17 l0 l1 l2 n) (fun W0 hl h => ih W0 hl h) hK W0 hl h
theorem tX3_partWords_j78 {p : Program} {l : Launch} {e : Env} {s : State} {m : MethodId} {args : Array Value} {below : List Frame} {meth : Method} {c : Code} {G : XG} {X0 : XW} (C0 : XC p s m args meth c RX3 cX3_partWords 5 G) (hret : meth.sig.returnType = none) {r : XW} {l0 : Nat} {l1 : Nat} {Q : State → Prop} {rec : Int32 → Int32 → XW → Option (XW)} (hrec : ∀ {y3 : Int32} {y4 : Int32} {X : XW} {H : Heap} {locs : List Loc} {ls : Array Slot}, XD G X0 X s H locs → lv_has ls 5 [(0, .ref l0), (1, .ref l1), (3, .int y3), (4, .int y4)] → rec y3 y4 X = some r → W p l e { frames := 2, cells := 0, slots := 0, locals := 120 } s m args below meth c H locs 0 0 Q (F0 m 44 ls [])) (hK : ∀ {H : Heap} {locs : List Loc} {ls : Array Slot}, XD G X0 r s H locs → lv_has ls 5 [] → W p l e { frames := 2, cells := 0, slots := 0, locals := 120 } s m args below meth c H locs 0 0 Q (F0 m 84 ls []))  {l3 : Int32} {l4 : Int32} {X : XW} {H : Heap} {locs : List Loc} {ls : Array Slot} (W0 : XD G X0 X s H locs) (hl : lv_has ls 5 [(0, .ref l0), (1, .ref l1), (3, .int l3), (4, .int l4)]) (h : fX3_partWords_j78 rec l0 l1 l3 l4 X = some r) : W p l e { frames := 2, cells := 0, slots := 0, locals := 120 } s m args below meth c H locs 0 0 Q (F0 m 78 ls []) := by
  have hx := C0.1
  have hb := C0.2.1
  unfold fX3_partWords_j78 at h
  refine lv_iinc (v := (l4 + 1)) (lv' := [(4, .int (l4 + 1)), (0, .ref l0), (1, .ref l1), (3, .int l3)]) hx hb dX3_partWords_78 hl (k := 3) rfl (ii (by decide)) (by decide) rfl (fun ls hl => ?_)
  refine lv_goto (tgt := 44) hx hb dX3_partWords_81 (by decide) ?_
  exact hrec W0 (lv_sub hl [1, 2, 3, 0] rfl) h
theorem tX3_partWords_l44_b {p : Program} {l : Launch} {e : Env} {s : State} {m : MethodId} {args : Array Value} {below : List Frame} {meth : Method} {c : Code} {G : XG} {X0 : XW} (C0 : XC p s m args meth c RX3 cX3_partWords 5 G) (hret : meth.sig.returnType = none) {r : XW} {l0 : Nat} {l1 : Nat} {Q : State → Prop} {rec : Int32 → Int32 → XW → Option (XW)} (hrec : ∀ {y3 : Int32} {y4 : Int32} {X : XW} {H : Heap} {locs : List Loc} {ls : Array Slot}, XD G X0 X s H locs → lv_has ls 5 [(0, .ref l0), (1, .ref l1), (3, .int y3), (4, .int y4)] → rec y3 y4 X = some r → W p l e { frames := 2, cells := 0, slots := 0, locals := 120 } s m args below meth c H locs 0 0 Q (F0 m 44 ls [])) (hK : ∀ {H : Heap} {locs : List Loc} {ls : Array Slot}, XD G X0 r s H locs → lv_has ls 5 [] → W p l e { frames := 2, cells := 0, slots := 0, locals := 120 } s m args below meth c H locs 0 0 Q (F0 m 84 ls []))  {l3 : Int32} {l4 : Int32} {X : XW} {H : Heap} {locs : List Loc} {ls : Array Slot} (W0 : XD G X0 X s H locs) (hl : lv_has ls 5 [(0, .ref l0), (1, .ref l1), (3, .int l3), (4, .int l4)]) (h : fX3_partWords_l44_b rec l0 l1 l3 l4 X = some r) : W p l e { frames := 2, cells := 0, slots := 0, locals := 120 } s m args below meth c H locs 0 0 Q (F0 m 44 ls []) := by
  have hx := C0.1
  have hb := C0.2.1
  unfold fX3_partWords_l44_b at h
  refine lv_iload hx hb dX3_partWords_44 (lv_at hl 3 rfl) ?_
  refine lv_aload_n hx hb dX3_partWords_46 rfl (lv_at hl 1 rfl) ?_
  obtain ⟨v1, h2, h⟩ := ob h
  refine xr_getI C0 W0 cl_X4 6 (by decide) fl_X3_38 rfl h2 dX3_partWords_47 ?_
  refine lv_icmp_ge (tgt := 84) hx hb dX3_partWords_50 (by decide) (fun hcq => ?_) (fun hcq => ?_)
  · have h := it_t hcq h
    cases h
    exact hK W0 (lv_sub hl [] rfl)
  · have h := it_f hcq h
    refine lv_iload hx hb dX3_partWords_53 (lv_at hl 3 rfl) ?_
    refine lv_iload_n hx hb dX3_partWords_55 rfl (lv_at hl 2 rfl) ?_
    refine lv_icmp_ne (tgt := 78) hx hb dX3_partWords_56 (by decide) (fun hcq => ?_) (fun hcq => ?_)
    · have h := it_f hcq h
      exact tX3_partWords_j78 C0 hret hrec hK W0 (lv_sub hl [0, 1, 2, 3] rfl) h
    · have h := it_t hcq h
      refine lv_iload hx hb dX3_partWords_59 (lv_at hl 3 rfl) ?_
      refine lv_aload_n hx hb dX3_partWords_61 rfl (lv_at hl 0 rfl) ?_
      obtain ⟨q3, h4, h⟩ := ob h
      refine xr_getR C0 W0 cl_X3 6 (by decide) fl_X3_31 rfl h4 dX3_partWords_62 ?_
      refine lv_iload hx hb dX3_partWords_65 (lv_at hl 3 rfl) ?_
      obtain ⟨v5, h6, h⟩ := ob h
      refine xr_iald C0 W0 h6 dX3_partWords_67 ?_
      refine lv_iadd hx hb dX3_partWords_68 ?_
      refine lv_istore_n (lv' := [(3, .int (l4 + v5)), (0, .ref l0), (1, .ref l1), (4, .int l4)]) hx hb dX3_partWords_69 rfl hl (by decide) rfl (fun ls hl => ?_)
      refine lv_aload_n hx hb dX3_partWords_70 rfl (lv_at hl 1 rfl) ?_
      refine lv_aload_n hx hb dX3_partWords_71 rfl (lv_at hl 2 rfl) ?_
      refine lv_iload hx hb dX3_partWords_72 (lv_at hl 3 rfl) ?_
      refine lv_iload_n hx hb dX3_partWords_74 rfl (lv_at hl 0 rfl) ?_
      obtain ⟨u7, h8, h⟩ := ob h
      obtain ⟨X9, h10, h⟩ := ob h
      refine xr_V (As := [.ref l1, .int l4, .int (l4 + v5)]) (rest := []) C0 W0 (ctX3_addPhrase l G h10) (gK_of h8) (rr := (RX3, TX3, 8)) rfl rfl mc_X3_addPhrase mv_X3_addPhrase ml_X3_47 ⟨by decide, by decide⟩ rfl hl.1 rfl (Nat.le_of_ble_eq_true rfl) ⟨by decide, by decide⟩ dX3_partWords_75 (fun H locs W0 => ?_)
      refine W.cs (cells' := 0) (slots' := 0) rfl rfl ?_
      refine W.eq (g2 := F0 m 78 ls []) rfl ?_
      exact tX3_partWords_j78 C0 hret hrec hK W0 (lv_sub hl [1, 2, 0, 3] rfl) h
theorem tX3_partWords_l44 {p : Program} {l : Launch} {e : Env} {s : State} {m : MethodId} {args : Array Value} {below : List Frame} {meth : Method} {c : Code} {G : XG} {X0 : XW} (C0 : XC p s m args meth c RX3 cX3_partWords 5 G) (hret : meth.sig.returnType = none) {r : XW} {l0 : Nat} {l1 : Nat} {Q : State → Prop} (hK : ∀ {H : Heap} {locs : List Loc} {ls : Array Slot}, XD G X0 r s H locs → lv_has ls 5 [] → W p l e { frames := 2, cells := 0, slots := 0, locals := 120 } s m args below meth c H locs 0 0 Q (F0 m 84 ls [])) : ∀ (n : Nat) {y3 : Int32} {y4 : Int32} {X : XW} {H : Heap} {locs : List Loc} {ls : Array Slot}, XD G X0 X s H locs → lv_has ls 5 [(0, .ref l0), (1, .ref l1), (3, .int y3), (4, .int y4)] → fX3_partWords_l44 l0 l1 n y3 y4 X = some r → W p l e { frames := 2, cells := 0, slots := 0, locals := 120 } s m args below meth c H locs 0 0 Q (F0 m 44 ls []) := by
  intro n
  induction n with
  | zero =>
    intro y3 y4 X H locs ls W0 hl h
    cases h
  | succ n ih =>
    intro y3 y4 X H locs ls W0 hl h
    exact tX3_partWords_l44_b C0 hret (rec := fX3_partWords_l44 l0 l1 n) (fun W0 hl h => ih W0 hl h) hK W0 hl h
theorem ctX3_partWords (l : Launch) (G : XG) {l0 : Nat} {l1 : Nat} {l2 : Int32} {X : XW} {r : XW}  (h : fX3_partWords l0 l1 l2 X = some r) : XM l G yX3_partWords cX3_partWords 5 none 2 120 0 0 [.ref l0, .ref l1, .int l2] X (none, r) := by
  refine xm_of (own := RX3) (by decide) rfl (Nat.le_of_ble_eq_true rfl) ?_
  intro p e s m below meth c ls C0 W0 hret hnm hl
  have hx := C0.1
  have hb := C0.2.1
  have hl : lv_has ls 5 [(0, .ref l0), (1, .ref l1), (2, .int l2)] := hl
  unfold fX3_partWords at h
  refine lv_aload_n hx hb dX3_partWords_0 rfl (lv_at hl 0 rfl) ?_
  obtain ⟨q1, h2, h⟩ := ob h
  refine xr_getR C0 W0 cl_X3 5 (by decide) fl_X3_28 rfl h2 dX3_partWords_1 ?_
  refine lv_aload_n hx hb dX3_partWords_4 rfl (lv_at hl 1 rfl) ?_
  obtain ⟨v3, h4, h⟩ := ob h
  refine xr_getI C0 W0 cl_X4 6 (by decide) fl_X3_38 rfl h4 dX3_partWords_5 ?_
  refine lv_iconst (v := 0) hx hb dX3_partWords_8 (by decide) ?_
  obtain ⟨X5, h6, h⟩ := ob h
  refine xr_iast C0 W0 h6 dX3_partWords_9 (fun H locs W0 => ?_)
  refine lv_aload_n hx hb dX3_partWords_10 rfl (lv_at hl 1 rfl) ?_
  obtain ⟨v7, h8, h⟩ := ob h
  refine xr_getI C0 W0 cl_X4 6 (by decide) fl_X3_38 rfl h8 dX3_partWords_11 ?_
  refine lv_iconst (v := 1) hx hb dX3_partWords_14 (by decide) ?_
  refine lv_isub hx hb dX3_partWords_15 ?_
  refine lv_istore_n (lv' := [(3, .int (v7 - 1)), (0, .ref l0), (1, .ref l1), (2, .int l2)]) hx hb dX3_partWords_16 rfl hl (by decide) rfl (fun ls hl => ?_)
  obtain ⟨r9, h10, h⟩ := ob h
  refine tX3_partWords_l17 C0 hret (fun {H} {locs} {ls} W0 hl => ?_) FU W0 (lv_sub hl [1, 2, 3, 0] rfl) h10
  refine lv_aload_n hx hb dX3_partWords_34 rfl (lv_at hl 0 rfl) ?_
  refine lv_iconst (v := 0) hx hb dX3_partWords_35 (by decide) ?_
  obtain ⟨X11, h12, h⟩ := ob h
  refine xr_putI C0 W0 cl_X3 7 (by decide) fl_X3_34 rfl rfl rfl (by decide) h12 dX3_partWords_36 (fun H locs W0 => ?_)
  refine lv_iconst (v := 0) hx hb dX3_partWords_39 (by decide) ?_
  refine lv_istore_n (lv' := [(3, .int 0), (0, .ref l0), (1, .ref l1)]) hx hb dX3_partWords_40 rfl hl (by decide) rfl (fun ls hl => ?_)
  refine lv_iconst (v := 0) hx hb dX3_partWords_41 (by decide) ?_
  refine lv_istore (lv' := [(4, .int 0), (3, .int 0), (0, .ref l0), (1, .ref l1)]) hx hb dX3_partWords_42 hl (by decide) rfl (fun ls hl => ?_)
  obtain ⟨r13, h14, h⟩ := ob h
  refine tX3_partWords_l44 C0 hret (fun {H} {locs} {ls} W0 hl => ?_) FU W0 (lv_sub hl [2, 3, 1, 0] rfl) h14
  exact xr_vret C0 W0 hret (Option.some.inj h).symm dX3_partWords_84
def fX3_pauseBehind_l5_b (rec : Int32 → Int32 → XW → Option (Int32 × XW)) (l0 : Nat) (l1 : Int32) (l2 : Int32) (l3 : Int32) (l4 : Int32) (X : XW) : Option (Int32 × XW) :=
  gI X l0 3 7 >>= fun v1 =>
  if ((v1 - 1) ≤ l4 : Prop) then (some (l3, X))
  else (gR X l0 3 2 >>= fun q3 =>
    aI X q3 1 l4 >>= fun v5 =>
    rec (l3 + v5) (l4 + 1) X)
def fX3_pauseBehind_l5 (l0 : Nat) (l1 : Int32) (l2 : Int32) (n : Nat) : Int32 → Int32 → XW → Option (Int32 × XW) := iter (fun rec => fX3_pauseBehind_l5_b rec l0 l1 l2) (fun _ _ _ => none) n
def fX3_pauseBehind_j126 (rec : Int32 → Int32 → Int32 → XW → Option (Int32 × Int32 × XW)) (l0 : Nat) (l1 : Int32) (l2 : Int32) (l3 : Int32) (l4 : Int32) (l6 : Int32) (l7 : Int32) (s0 : Int32) (s1 : Int32) (X : XW) : Option (Int32 × Int32 × XW) :=
  rec l4 (s1 + s0) (l7 + 1) X
def fX3_pauseBehind_j121 (rec : Int32 → Int32 → Int32 → XW → Option (Int32 × Int32 × XW)) (l0 : Nat) (l1 : Int32) (l2 : Int32) (l3 : Int32) (l4 : Int32) (l6 : Int32) (l7 : Int32) (s0 : Int32) (X : XW) : Option (Int32 × Int32 × XW) :=
  fX3_pauseBehind_j126 rec l0 l1 l2 l3 l4 l6 l7 1 s0 X
def fX3_pauseBehind_j125 (rec : Int32 → Int32 → Int32 → XW → Option (Int32 × Int32 × XW)) (l0 : Nat) (l1 : Int32) (l2 : Int32) (l3 : Int32) (l4 : Int32) (l6 : Int32) (l7 : Int32) (s0 : Int32) (X : XW) : Option (Int32 × Int32 × XW) :=
  fX3_pauseBehind_j126 rec l0 l1 l2 l3 l4 l6 l7 0 s0 X
def fX3_pauseBehind_l59_b (rec : Int32 → Int32 → Int32 → XW → Option (Int32 × Int32 × XW)) (l0 : Nat) (l1 : Int32) (l2 : Int32) (l3 : Int32) (l6 : Int32) (l4 : Int32) (l5 : Int32) (l7 : Int32) (X : XW) : Option (Int32 × Int32 × XW) :=
  gI X l0 3 7 >>= fun v1 =>
  if ((v1 - 1) ≤ l7 : Prop) then (some (l4, l5, X))
  else (gR X l0 3 2 >>= fun q3 =>
    aI X q3 1 l7 >>= fun v5 =>
    iD (l2 * v5) l3 >>= fun v7 =>
    gR X l0 3 2 >>= fun q9 =>
    aI X q9 1 l7 >>= fun v11 =>
    iM (l2 * v11) l3 >>= fun v13 =>
    if (l6 < v13 : Prop) then (fX3_pauseBehind_j121 rec l0 l1 l2 l3 (l4 - v7) l6 l7 l5 X)
    else (if (v13 = l6 : Prop) then (if (l1 ≤ l7 : Prop) then (fX3_pauseBehind_j125 rec l0 l1 l2 l3 (l4 - v7) l6 l7 l5 X)
        else (fX3_pauseBehind_j121 rec l0 l1 l2 l3 (l4 - v7) l6 l7 l5 X))
      else (fX3_pauseBehind_j125 rec l0 l1 l2 l3 (l4 - v7) l6 l7 l5 X)))
def fX3_pauseBehind_l59 (l0 : Nat) (l1 : Int32) (l2 : Int32) (l3 : Int32) (l6 : Int32) (n : Nat) : Int32 → Int32 → Int32 → XW → Option (Int32 × Int32 × XW) := iter (fun rec => fX3_pauseBehind_l59_b rec l0 l1 l2 l3 l6) (fun _ _ _ _ => none) n
def fX3_pauseBehind (l0 : Nat) (l1 : Int32) (l2 : Int32) (X : XW) : Option (Int32 × XW) :=
  fX3_pauseBehind_l5 l0 l1 l2 FU 0 0 X >>= fun r1 =>
  if (0 < r1.1 : Prop) then (gR r1.2 l0 3 2 >>= fun q3 =>
    aI r1.2 q3 1 l1 >>= fun v5 =>
    iM (l2 * v5) r1.1 >>= fun v7 =>
    fX3_pauseBehind_l59 l0 l1 l2 r1.1 v7 FU l2 0 0 r1.2 >>= fun r9 =>
    gR r9.2.2 l0 3 2 >>= fun q11 =>
    aI r9.2.2 q11 1 l1 >>= fun v13 =>
    iD (l2 * v13) r1.1 >>= fun v15 =>
    if (r9.1 ≤ r9.2.1 : Prop) then (some ((v15 + 0), r9.2.2))
    else (some ((v15 + 1), r9.2.2)))
  else (some (0, r1.2))
theorem tX3_pauseBehind_l5_b {p : Program} {l : Launch} {e : Env} {s : State} {m : MethodId} {args : Array Value} {below : List Frame} {meth : Method} {c : Code} {G : XG} {X0 : XW} (C0 : XC p s m args meth c RX3 cX3_pauseBehind 9 G) (hret : meth.sig.returnType = (some .int)) {r : Int32 × XW} {l0 : Nat} {l1 : Int32} {l2 : Int32} {Q : State → Prop} {rec : Int32 → Int32 → XW → Option (Int32 × XW)} (hrec : ∀ {y3 : Int32} {y4 : Int32} {X : XW} {H : Heap} {locs : List Loc} {ls : Array Slot}, XD G X0 X s H locs → lv_has ls 9 [(0, .ref l0), (1, .int l1), (2, .int l2), (3, .int y3), (4, .int y4)] → rec y3 y4 X = some r → W p l e { frames := 0, cells := 0, slots := 0, locals := 0 } s m args below meth c H locs 0 0 Q (F0 m 5 ls [])) (hK : ∀ {H : Heap} {locs : List Loc} {ls : Array Slot}, XD G X0 r.2 s H locs → lv_has ls 9 [(0, .ref l0), (1, .int l1), (2, .int l2), (3, .int r.1)] → W p l e { frames := 0, cells := 0, slots := 0, locals := 0 } s m args below meth c H locs 0 0 Q (F0 m 32 ls []))  {l3 : Int32} {l4 : Int32} {X : XW} {H : Heap} {locs : List Loc} {ls : Array Slot} (W0 : XD G X0 X s H locs) (hl : lv_has ls 9 [(0, .ref l0), (1, .int l1), (2, .int l2), (3, .int l3), (4, .int l4)]) (h : fX3_pauseBehind_l5_b rec l0 l1 l2 l3 l4 X = some r) : W p l e { frames := 0, cells := 0, slots := 0, locals := 0 } s m args below meth c H locs 0 0 Q (F0 m 5 ls []) := by
  have hx := C0.1
  have hb := C0.2.1
  unfold fX3_pauseBehind_l5_b at h
  refine lv_iload hx hb dX3_pauseBehind_5 (lv_at hl 4 rfl) ?_
  refine lv_aload_n hx hb dX3_pauseBehind_7 rfl (lv_at hl 0 rfl) ?_
  obtain ⟨v1, h2, h⟩ := ob h
  refine xr_getI C0 W0 cl_X3 7 (by decide) fl_X3_34 rfl h2 dX3_pauseBehind_8 ?_
  refine lv_iconst (v := 1) hx hb dX3_pauseBehind_11 (by decide) ?_
  refine lv_isub hx hb dX3_pauseBehind_12 ?_
  refine lv_icmp_ge (tgt := 32) hx hb dX3_pauseBehind_13 (by decide) (fun hcq => ?_) (fun hcq => ?_)
  · have h := it_t hcq h
    cases h
    exact hK W0 (lv_sub hl [0, 1, 2, 3] rfl)
  · have h := it_f hcq h
    refine lv_iload_n hx hb dX3_pauseBehind_16 rfl (lv_at hl 3 rfl) ?_
    refine lv_aload_n hx hb dX3_pauseBehind_17 rfl (lv_at hl 0 rfl) ?_
    obtain ⟨q3, h4, h⟩ := ob h
    refine xr_getR C0 W0 cl_X3 2 (by decide) fl_X3_18 rfl h4 dX3_pauseBehind_18 ?_
    refine lv_iload hx hb dX3_pauseBehind_21 (lv_at hl 4 rfl) ?_
    obtain ⟨v5, h6, h⟩ := ob h
    refine xr_iald C0 W0 h6 dX3_pauseBehind_23 ?_
    refine lv_iadd hx hb dX3_pauseBehind_24 ?_
    refine lv_istore_n (lv' := [(3, .int (l3 + v5)), (0, .ref l0), (1, .int l1), (2, .int l2), (4, .int l4)]) hx hb dX3_pauseBehind_25 rfl hl (by decide) rfl (fun ls hl => ?_)
    refine lv_iinc (v := (l4 + 1)) (lv' := [(4, .int (l4 + 1)), (3, .int (l3 + v5)), (0, .ref l0), (1, .int l1), (2, .int l2)]) hx hb dX3_pauseBehind_26 hl (k := 4) rfl (ii (by decide)) (by decide) rfl (fun ls hl => ?_)
    refine lv_goto (tgt := 5) hx hb dX3_pauseBehind_29 (by decide) ?_
    exact hrec W0 (lv_sub hl [2, 3, 4, 1, 0] rfl) h
theorem tX3_pauseBehind_l5 {p : Program} {l : Launch} {e : Env} {s : State} {m : MethodId} {args : Array Value} {below : List Frame} {meth : Method} {c : Code} {G : XG} {X0 : XW} (C0 : XC p s m args meth c RX3 cX3_pauseBehind 9 G) (hret : meth.sig.returnType = (some .int)) {r : Int32 × XW} {l0 : Nat} {l1 : Int32} {l2 : Int32} {Q : State → Prop} (hK : ∀ {H : Heap} {locs : List Loc} {ls : Array Slot}, XD G X0 r.2 s H locs → lv_has ls 9 [(0, .ref l0), (1, .int l1), (2, .int l2), (3, .int r.1)] → W p l e { frames := 0, cells := 0, slots := 0, locals := 0 } s m args below meth c H locs 0 0 Q (F0 m 32 ls [])) : ∀ (n : Nat) {y3 : Int32} {y4 : Int32} {X : XW} {H : Heap} {locs : List Loc} {ls : Array Slot}, XD G X0 X s H locs → lv_has ls 9 [(0, .ref l0), (1, .int l1), (2, .int l2), (3, .int y3), (4, .int y4)] → fX3_pauseBehind_l5 l0 l1 l2 n y3 y4 X = some r → W p l e { frames := 0, cells := 0, slots := 0, locals := 0 } s m args below meth c H locs 0 0 Q (F0 m 5 ls []) := by
  intro n
  induction n with
  | zero =>
    intro y3 y4 X H locs ls W0 hl h
    cases h
  | succ n ih =>
    intro y3 y4 X H locs ls W0 hl h
    exact tX3_pauseBehind_l5_b C0 hret (rec := fX3_pauseBehind_l5 l0 l1 l2 n) (fun W0 hl h => ih W0 hl h) hK W0 hl h
theorem tX3_pauseBehind_j126 {p : Program} {l : Launch} {e : Env} {s : State} {m : MethodId} {args : Array Value} {below : List Frame} {meth : Method} {c : Code} {G : XG} {X0 : XW} (C0 : XC p s m args meth c RX3 cX3_pauseBehind 9 G) (hret : meth.sig.returnType = (some .int)) {r : Int32 × Int32 × XW} {l0 : Nat} {l1 : Int32} {l2 : Int32} {l3 : Int32} {l6 : Int32} {Q : State → Prop} {rec : Int32 → Int32 → Int32 → XW → Option (Int32 × Int32 × XW)} (hrec : ∀ {y4 : Int32} {y5 : Int32} {y7 : Int32} {X : XW} {H : Heap} {locs : List Loc} {ls : Array Slot}, XD G X0 X s H locs → lv_has ls 9 [(0, .ref l0), (1, .int l1), (2, .int l2), (3, .int l3), (4, .int y4), (5, .int y5), (6, .int l6), (7, .int y7)] → rec y4 y5 y7 X = some r → W p l e { frames := 0, cells := 0, slots := 0, locals := 0 } s m args below meth c H locs 0 0 Q (F0 m 59 ls [])) (hK : ∀ {H : Heap} {locs : List Loc} {ls : Array Slot}, XD G X0 r.2.2 s H locs → lv_has ls 9 [(0, .ref l0), (1, .int l1), (2, .int l2), (3, .int l3), (4, .int r.1), (5, .int r.2.1)] → W p l e { frames := 0, cells := 0, slots := 0, locals := 0 } s m args below meth c H locs 0 0 Q (F0 m 135 ls []))  {l4 : Int32} {l7 : Int32} {s0 : Int32} {s1 : Int32} {X : XW} {H : Heap} {locs : List Loc} {ls : Array Slot} (W0 : XD G X0 X s H locs) (hl : lv_has ls 9 [(0, .ref l0), (1, .int l1), (2, .int l2), (3, .int l3), (4, .int l4), (6, .int l6), (7, .int l7)]) (h : fX3_pauseBehind_j126 rec l0 l1 l2 l3 l4 l6 l7 s0 s1 X = some r) : W p l e { frames := 0, cells := 0, slots := 0, locals := 0 } s m args below meth c H locs 0 0 Q (F0 m 126 ls [.int s0, .int s1]) := by
  have hx := C0.1
  have hb := C0.2.1
  unfold fX3_pauseBehind_j126 at h
  refine lv_iadd hx hb dX3_pauseBehind_126 ?_
  refine lv_istore (lv' := [(5, .int (s1 + s0)), (0, .ref l0), (1, .int l1), (2, .int l2), (3, .int l3), (4, .int l4), (6, .int l6), (7, .int l7)]) hx hb dX3_pauseBehind_127 hl (by decide) rfl (fun ls hl => ?_)
  refine lv_iinc (v := (l7 + 1)) (lv' := [(7, .int (l7 + 1)), (5, .int (s1 + s0)), (0, .ref l0), (1, .int l1), (2, .int l2), (3, .int l3), (4, .int l4), (6, .int l6)]) hx hb dX3_pauseBehind_129 hl (k := 7) rfl (ii (by decide)) (by decide) rfl (fun ls hl => ?_)
  refine lv_goto (tgt := 59) hx hb dX3_pauseBehind_132 (by decide) ?_
  exact hrec W0 (lv_sub hl [2, 3, 4, 5, 6, 1, 7, 0] rfl) h
theorem tX3_pauseBehind_j121 {p : Program} {l : Launch} {e : Env} {s : State} {m : MethodId} {args : Array Value} {below : List Frame} {meth : Method} {c : Code} {G : XG} {X0 : XW} (C0 : XC p s m args meth c RX3 cX3_pauseBehind 9 G) (hret : meth.sig.returnType = (some .int)) {r : Int32 × Int32 × XW} {l0 : Nat} {l1 : Int32} {l2 : Int32} {l3 : Int32} {l6 : Int32} {Q : State → Prop} {rec : Int32 → Int32 → Int32 → XW → Option (Int32 × Int32 × XW)} (hrec : ∀ {y4 : Int32} {y5 : Int32} {y7 : Int32} {X : XW} {H : Heap} {locs : List Loc} {ls : Array Slot}, XD G X0 X s H locs → lv_has ls 9 [(0, .ref l0), (1, .int l1), (2, .int l2), (3, .int l3), (4, .int y4), (5, .int y5), (6, .int l6), (7, .int y7)] → rec y4 y5 y7 X = some r → W p l e { frames := 0, cells := 0, slots := 0, locals := 0 } s m args below meth c H locs 0 0 Q (F0 m 59 ls [])) (hK : ∀ {H : Heap} {locs : List Loc} {ls : Array Slot}, XD G X0 r.2.2 s H locs → lv_has ls 9 [(0, .ref l0), (1, .int l1), (2, .int l2), (3, .int l3), (4, .int r.1), (5, .int r.2.1)] → W p l e { frames := 0, cells := 0, slots := 0, locals := 0 } s m args below meth c H locs 0 0 Q (F0 m 135 ls []))  {l4 : Int32} {l7 : Int32} {s0 : Int32} {X : XW} {H : Heap} {locs : List Loc} {ls : Array Slot} (W0 : XD G X0 X s H locs) (hl : lv_has ls 9 [(0, .ref l0), (1, .int l1), (2, .int l2), (3, .int l3), (4, .int l4), (6, .int l6), (7, .int l7)]) (h : fX3_pauseBehind_j121 rec l0 l1 l2 l3 l4 l6 l7 s0 X = some r) : W p l e { frames := 0, cells := 0, slots := 0, locals := 0 } s m args below meth c H locs 0 0 Q (F0 m 121 ls [.int s0]) := by
  have hx := C0.1
  have hb := C0.2.1
  unfold fX3_pauseBehind_j121 at h
  refine lv_iconst (v := 1) hx hb dX3_pauseBehind_121 (by decide) ?_
  refine lv_goto (tgt := 126) hx hb dX3_pauseBehind_122 (by decide) ?_
  exact tX3_pauseBehind_j126 C0 hret hrec hK W0 (lv_sub hl [0, 1, 2, 3, 4, 5, 6] rfl) h
theorem tX3_pauseBehind_j125 {p : Program} {l : Launch} {e : Env} {s : State} {m : MethodId} {args : Array Value} {below : List Frame} {meth : Method} {c : Code} {G : XG} {X0 : XW} (C0 : XC p s m args meth c RX3 cX3_pauseBehind 9 G) (hret : meth.sig.returnType = (some .int)) {r : Int32 × Int32 × XW} {l0 : Nat} {l1 : Int32} {l2 : Int32} {l3 : Int32} {l6 : Int32} {Q : State → Prop} {rec : Int32 → Int32 → Int32 → XW → Option (Int32 × Int32 × XW)} (hrec : ∀ {y4 : Int32} {y5 : Int32} {y7 : Int32} {X : XW} {H : Heap} {locs : List Loc} {ls : Array Slot}, XD G X0 X s H locs → lv_has ls 9 [(0, .ref l0), (1, .int l1), (2, .int l2), (3, .int l3), (4, .int y4), (5, .int y5), (6, .int l6), (7, .int y7)] → rec y4 y5 y7 X = some r → W p l e { frames := 0, cells := 0, slots := 0, locals := 0 } s m args below meth c H locs 0 0 Q (F0 m 59 ls [])) (hK : ∀ {H : Heap} {locs : List Loc} {ls : Array Slot}, XD G X0 r.2.2 s H locs → lv_has ls 9 [(0, .ref l0), (1, .int l1), (2, .int l2), (3, .int l3), (4, .int r.1), (5, .int r.2.1)] → W p l e { frames := 0, cells := 0, slots := 0, locals := 0 } s m args below meth c H locs 0 0 Q (F0 m 135 ls []))  {l4 : Int32} {l7 : Int32} {s0 : Int32} {X : XW} {H : Heap} {locs : List Loc} {ls : Array Slot} (W0 : XD G X0 X s H locs) (hl : lv_has ls 9 [(0, .ref l0), (1, .int l1), (2, .int l2), (3, .int l3), (4, .int l4), (6, .int l6), (7, .int l7)]) (h : fX3_pauseBehind_j125 rec l0 l1 l2 l3 l4 l6 l7 s0 X = some r) : W p l e { frames := 0, cells := 0, slots := 0, locals := 0 } s m args below meth c H locs 0 0 Q (F0 m 125 ls [.int s0]) := by
  have hx := C0.1
  have hb := C0.2.1
  unfold fX3_pauseBehind_j125 at h
  refine lv_iconst (v := 0) hx hb dX3_pauseBehind_125 (by decide) ?_
  exact tX3_pauseBehind_j126 C0 hret hrec hK W0 (lv_sub hl [0, 1, 2, 3, 4, 5, 6] rfl) h
theorem tX3_pauseBehind_l59_b {p : Program} {l : Launch} {e : Env} {s : State} {m : MethodId} {args : Array Value} {below : List Frame} {meth : Method} {c : Code} {G : XG} {X0 : XW} (C0 : XC p s m args meth c RX3 cX3_pauseBehind 9 G) (hret : meth.sig.returnType = (some .int)) {r : Int32 × Int32 × XW} {l0 : Nat} {l1 : Int32} {l2 : Int32} {l3 : Int32} {l6 : Int32} {Q : State → Prop} {rec : Int32 → Int32 → Int32 → XW → Option (Int32 × Int32 × XW)} (hrec : ∀ {y4 : Int32} {y5 : Int32} {y7 : Int32} {X : XW} {H : Heap} {locs : List Loc} {ls : Array Slot}, XD G X0 X s H locs → lv_has ls 9 [(0, .ref l0), (1, .int l1), (2, .int l2), (3, .int l3), (4, .int y4), (5, .int y5), (6, .int l6), (7, .int y7)] → rec y4 y5 y7 X = some r → W p l e { frames := 0, cells := 0, slots := 0, locals := 0 } s m args below meth c H locs 0 0 Q (F0 m 59 ls [])) (hK : ∀ {H : Heap} {locs : List Loc} {ls : Array Slot}, XD G X0 r.2.2 s H locs → lv_has ls 9 [(0, .ref l0), (1, .int l1), (2, .int l2), (3, .int l3), (4, .int r.1), (5, .int r.2.1)] → W p l e { frames := 0, cells := 0, slots := 0, locals := 0 } s m args below meth c H locs 0 0 Q (F0 m 135 ls []))  {l4 : Int32} {l5 : Int32} {l7 : Int32} {X : XW} {H : Heap} {locs : List Loc} {ls : Array Slot} (W0 : XD G X0 X s H locs) (hl : lv_has ls 9 [(0, .ref l0), (1, .int l1), (2, .int l2), (3, .int l3), (4, .int l4), (5, .int l5), (6, .int l6), (7, .int l7)]) (h : fX3_pauseBehind_l59_b rec l0 l1 l2 l3 l6 l4 l5 l7 X = some r) : W p l e { frames := 0, cells := 0, slots := 0, locals := 0 } s m args below meth c H locs 0 0 Q (F0 m 59 ls []) := by
  have hx := C0.1
  have hb := C0.2.1
  unfold fX3_pauseBehind_l59_b at h
  refine lv_iload hx hb dX3_pauseBehind_59 (lv_at hl 7 rfl) ?_
  refine lv_aload_n hx hb dX3_pauseBehind_61 rfl (lv_at hl 0 rfl) ?_
  obtain ⟨v1, h2, h⟩ := ob h
  refine xr_getI C0 W0 cl_X3 7 (by decide) fl_X3_34 rfl h2 dX3_pauseBehind_62 ?_
  refine lv_iconst (v := 1) hx hb dX3_pauseBehind_65 (by decide) ?_
  refine lv_isub hx hb dX3_pauseBehind_66 ?_
  refine lv_icmp_ge (tgt := 135) hx hb dX3_pauseBehind_67 (by decide) (fun hcq => ?_) (fun hcq => ?_)
  · have h := it_t hcq h
    cases h
    exact hK W0 (lv_sub hl [0, 1, 2, 3, 4, 5] rfl)
  · have h := it_f hcq h
    refine lv_iload hx hb dX3_pauseBehind_70 (lv_at hl 4 rfl) ?_
    refine lv_iload_n hx hb dX3_pauseBehind_72 rfl (lv_at hl 2 rfl) ?_
    refine lv_aload_n hx hb dX3_pauseBehind_73 rfl (lv_at hl 0 rfl) ?_
    obtain ⟨q3, h4, h⟩ := ob h
    refine xr_getR C0 W0 cl_X3 2 (by decide) fl_X3_18 rfl h4 dX3_pauseBehind_74 ?_
    refine lv_iload hx hb dX3_pauseBehind_77 (lv_at hl 7 rfl) ?_
    obtain ⟨v5, h6, h⟩ := ob h
    refine xr_iald C0 W0 h6 dX3_pauseBehind_79 ?_
    refine lv_imul hx hb dX3_pauseBehind_80 ?_
    refine lv_iload_n hx hb dX3_pauseBehind_81 rfl (lv_at hl 3 rfl) ?_
    obtain ⟨v7, h8, h⟩ := ob h
    refine xr_idiv C0 h8 dX3_pauseBehind_82 ?_
    refine lv_isub hx hb dX3_pauseBehind_83 ?_
    refine lv_istore (lv' := [(4, .int (l4 - v7)), (0, .ref l0), (1, .int l1), (2, .int l2), (3, .int l3), (5, .int l5), (6, .int l6), (7, .int l7)]) hx hb dX3_pauseBehind_84 hl (by decide) rfl (fun ls hl => ?_)
    refine lv_iload_n hx hb dX3_pauseBehind_86 rfl (lv_at hl 3 rfl) ?_
    refine lv_aload_n hx hb dX3_pauseBehind_87 rfl (lv_at hl 1 rfl) ?_
    obtain ⟨q9, h10, h⟩ := ob h
    refine xr_getR C0 W0 cl_X3 2 (by decide) fl_X3_18 rfl h10 dX3_pauseBehind_88 ?_
    refine lv_iload hx hb dX3_pauseBehind_91 (lv_at hl 7 rfl) ?_
    obtain ⟨v11, h12, h⟩ := ob h
    refine xr_iald C0 W0 h12 dX3_pauseBehind_93 ?_
    refine lv_imul hx hb dX3_pauseBehind_94 ?_
    refine lv_iload_n hx hb dX3_pauseBehind_95 rfl (lv_at hl 4 rfl) ?_
    obtain ⟨v13, h14, h⟩ := ob h
    refine xr_irem C0 h14 dX3_pauseBehind_96 ?_
    refine lv_istore (lv' := [(8, .int v13), (4, .int (l4 - v7)), (0, .ref l0), (1, .int l1), (2, .int l2), (3, .int l3), (5, .int l5), (6, .int l6), (7, .int l7)]) hx hb dX3_pauseBehind_97 hl (by decide) rfl (fun ls hl => ?_)
    refine lv_iload hx hb dX3_pauseBehind_99 (lv_at hl 6 rfl) ?_
    refine lv_iload hx hb dX3_pauseBehind_101 (lv_at hl 0 rfl) ?_
    refine lv_iload hx hb dX3_pauseBehind_103 (lv_at hl 7 rfl) ?_
    refine lv_icmp_gt (tgt := 121) hx hb dX3_pauseBehind_105 (by decide) (fun hcq => ?_) (fun hcq => ?_)
    · have h := it_t hcq h
      exact tX3_pauseBehind_j121 C0 hret hrec hK W0 (lv_sub hl [2, 3, 4, 5, 1, 7, 8] rfl) h
    · have h := it_f hcq h
      refine lv_iload hx hb dX3_pauseBehind_108 (lv_at hl 0 rfl) ?_
      refine lv_iload hx hb dX3_pauseBehind_110 (lv_at hl 7 rfl) ?_
      refine lv_icmp_ne (tgt := 125) hx hb dX3_pauseBehind_112 (by decide) (fun hcq => ?_) (fun hcq => ?_)
      · have h := it_f hcq h
        exact tX3_pauseBehind_j125 C0 hret hrec hK W0 (lv_sub hl [2, 3, 4, 5, 1, 7, 8] rfl) h
      · have h := it_t hcq h
        refine lv_iload hx hb dX3_pauseBehind_115 (lv_at hl 8 rfl) ?_
        refine lv_iload_n hx hb dX3_pauseBehind_117 rfl (lv_at hl 3 rfl) ?_
        refine lv_icmp_ge (tgt := 125) hx hb dX3_pauseBehind_118 (by decide) (fun hcq => ?_) (fun hcq => ?_)
        · have h := it_t hcq h
          exact tX3_pauseBehind_j125 C0 hret hrec hK W0 (lv_sub hl [2, 3, 4, 5, 1, 7, 8] rfl) h
        · have h := it_f hcq h
          exact tX3_pauseBehind_j121 C0 hret hrec hK W0 (lv_sub hl [2, 3, 4, 5, 1, 7, 8] rfl) h
theorem tX3_pauseBehind_l59 {p : Program} {l : Launch} {e : Env} {s : State} {m : MethodId} {args : Array Value} {below : List Frame} {meth : Method} {c : Code} {G : XG} {X0 : XW} (C0 : XC p s m args meth c RX3 cX3_pauseBehind 9 G) (hret : meth.sig.returnType = (some .int)) {r : Int32 × Int32 × XW} {l0 : Nat} {l1 : Int32} {l2 : Int32} {l3 : Int32} {l6 : Int32} {Q : State → Prop} (hK : ∀ {H : Heap} {locs : List Loc} {ls : Array Slot}, XD G X0 r.2.2 s H locs → lv_has ls 9 [(0, .ref l0), (1, .int l1), (2, .int l2), (3, .int l3), (4, .int r.1), (5, .int r.2.1)] → W p l e { frames := 0, cells := 0, slots := 0, locals := 0 } s m args below meth c H locs 0 0 Q (F0 m 135 ls [])) : ∀ (n : Nat) {y4 : Int32} {y5 : Int32} {y7 : Int32} {X : XW} {H : Heap} {locs : List Loc} {ls : Array Slot}, XD G X0 X s H locs → lv_has ls 9 [(0, .ref l0), (1, .int l1), (2, .int l2), (3, .int l3), (4, .int y4), (5, .int y5), (6, .int l6), (7, .int y7)] → fX3_pauseBehind_l59 l0 l1 l2 l3 l6 n y4 y5 y7 X = some r → W p l e { frames := 0, cells := 0, slots := 0, locals := 0 } s m args below meth c H locs 0 0 Q (F0 m 59 ls []) := by
  intro n
  induction n with
  | zero =>
    intro y4 y5 y7 X H locs ls W0 hl h
    cases h
  | succ n ih =>
    intro y4 y5 y7 X H locs ls W0 hl h
    exact tX3_pauseBehind_l59_b C0 hret (rec := fX3_pauseBehind_l59 l0 l1 l2 l3 l6 n) (fun W0 hl h => ih W0 hl h) hK W0 hl h
theorem ctX3_pauseBehind (l : Launch) (G : XG) {l0 : Nat} {l1 : Int32} {l2 : Int32} {X : XW} {r : Int32 × XW}  (h : fX3_pauseBehind l0 l1 l2 X = some r) : XM l G yX3_pauseBehind cX3_pauseBehind 9 (some .int) 0 0 0 0 [.ref l0, .int l1, .int l2] X (some (.int r.1), r.2) := by
  refine xm_of (own := RX3) (by decide) rfl (Nat.le_of_ble_eq_true rfl) ?_
  intro p e s m below meth c ls C0 W0 hret hnm hl
  have hx := C0.1
  have hb := C0.2.1
  have hl : lv_has ls 9 [(0, .ref l0), (1, .int l1), (2, .int l2)] := hl
  unfold fX3_pauseBehind at h
  refine lv_iconst (v := 0) hx hb dX3_pauseBehind_0 (by decide) ?_
  refine lv_istore_n (lv' := [(3, .int 0), (0, .ref l0), (1, .int l1), (2, .int l2)]) hx hb dX3_pauseBehind_1 rfl hl (by decide) rfl (fun ls hl => ?_)
  refine lv_iconst (v := 0) hx hb dX3_pauseBehind_2 (by decide) ?_
  refine lv_istore (lv' := [(4, .int 0), (3, .int 0), (0, .ref l0), (1, .int l1), (2, .int l2)]) hx hb dX3_pauseBehind_3 hl (by decide) rfl (fun ls hl => ?_)
  obtain ⟨r1, h2, h⟩ := ob h
  refine tX3_pauseBehind_l5 C0 hret (fun {H} {locs} {ls} W0 hl => ?_) FU W0 (lv_sub hl [2, 3, 4, 1, 0] rfl) h2
  refine lv_iload_n hx hb dX3_pauseBehind_32 rfl (lv_at hl 3 rfl) ?_
  refine lv_if_gt (tgt := 38) hx hb dX3_pauseBehind_33 (by decide) (fun hcq => ?_) (fun hcq => ?_)
  · have h := it_t hcq h
    refine lv_iload_n hx hb dX3_pauseBehind_38 rfl (lv_at hl 2 rfl) ?_
    refine lv_istore (lv' := [(4, .int l2), (0, .ref l0), (1, .int l1), (2, .int l2), (3, .int r1.1)]) hx hb dX3_pauseBehind_39 hl (by decide) rfl (fun ls hl => ?_)
    refine lv_iconst (v := 0) hx hb dX3_pauseBehind_41 (by decide) ?_
    refine lv_istore (lv' := [(5, .int 0), (4, .int l2), (0, .ref l0), (1, .int l1), (2, .int l2), (3, .int r1.1)]) hx hb dX3_pauseBehind_42 hl (by decide) rfl (fun ls hl => ?_)
    refine lv_iload_n hx hb dX3_pauseBehind_44 rfl (lv_at hl 4 rfl) ?_
    refine lv_aload_n hx hb dX3_pauseBehind_45 rfl (lv_at hl 2 rfl) ?_
    obtain ⟨q3, h4, h⟩ := ob h
    refine xr_getR C0 W0 cl_X3 2 (by decide) fl_X3_18 rfl h4 dX3_pauseBehind_46 ?_
    refine lv_iload_n hx hb dX3_pauseBehind_49 rfl (lv_at hl 3 rfl) ?_
    obtain ⟨v5, h6, h⟩ := ob h
    refine xr_iald C0 W0 h6 dX3_pauseBehind_50 ?_
    refine lv_imul hx hb dX3_pauseBehind_51 ?_
    refine lv_iload_n hx hb dX3_pauseBehind_52 rfl (lv_at hl 5 rfl) ?_
    obtain ⟨v7, h8, h⟩ := ob h
    refine xr_irem C0 h8 dX3_pauseBehind_53 ?_
    refine lv_istore (lv' := [(6, .int v7), (5, .int 0), (4, .int l2), (0, .ref l0), (1, .int l1), (2, .int l2), (3, .int r1.1)]) hx hb dX3_pauseBehind_54 hl (by decide) rfl (fun ls hl => ?_)
    refine lv_iconst (v := 0) hx hb dX3_pauseBehind_56 (by decide) ?_
    refine lv_istore (lv' := [(7, .int 0), (6, .int v7), (5, .int 0), (4, .int l2), (0, .ref l0), (1, .int l1), (2, .int l2), (3, .int r1.1)]) hx hb dX3_pauseBehind_57 hl (by decide) rfl (fun ls hl => ?_)
    obtain ⟨r9, h10, h⟩ := ob h
    refine tX3_pauseBehind_l59 C0 hret (fun {H} {locs} {ls} W0 hl => ?_) FU W0 (lv_sub hl [4, 5, 6, 7, 3, 2, 1, 0] rfl) h10
    refine lv_iload_n hx hb dX3_pauseBehind_135 rfl (lv_at hl 2 rfl) ?_
    refine lv_aload_n hx hb dX3_pauseBehind_136 rfl (lv_at hl 0 rfl) ?_
    obtain ⟨q11, h12, h⟩ := ob h
    refine xr_getR C0 W0 cl_X3 2 (by decide) fl_X3_18 rfl h12 dX3_pauseBehind_137 ?_
    refine lv_iload_n hx hb dX3_pauseBehind_140 rfl (lv_at hl 1 rfl) ?_
    obtain ⟨v13, h14, h⟩ := ob h
    refine xr_iald C0 W0 h14 dX3_pauseBehind_141 ?_
    refine lv_imul hx hb dX3_pauseBehind_142 ?_
    refine lv_iload_n hx hb dX3_pauseBehind_143 rfl (lv_at hl 3 rfl) ?_
    obtain ⟨v15, h16, h⟩ := ob h
    refine xr_idiv C0 h16 dX3_pauseBehind_144 ?_
    refine lv_iload hx hb dX3_pauseBehind_145 (lv_at hl 5 rfl) ?_
    refine lv_iload hx hb dX3_pauseBehind_147 (lv_at hl 4 rfl) ?_
    refine lv_icmp_ge (tgt := 156) hx hb dX3_pauseBehind_149 (by decide) (fun hcq => ?_) (fun hcq => ?_)
    · have h := it_t hcq h
      refine lv_iconst (v := 0) hx hb dX3_pauseBehind_156 (by decide) ?_
      refine lv_iadd hx hb dX3_pauseBehind_157 ?_
      exact xr_iret C0 W0 hret (Option.some.inj h) dX3_pauseBehind_158
    · have h := it_f hcq h
      refine lv_iconst (v := 1) hx hb dX3_pauseBehind_152 (by decide) ?_
      refine lv_goto (tgt := 157) hx hb dX3_pauseBehind_153 (by decide) ?_
      refine lv_iadd hx hb dX3_pauseBehind_157 ?_
      exact xr_iret C0 W0 hret (Option.some.inj h) dX3_pauseBehind_158
  · have h := it_f hcq h
    refine lv_iconst (v := 0) hx hb dX3_pauseBehind_36 (by decide) ?_
    exact xr_iret C0 W0 hret (Option.some.inj h) dX3_pauseBehind_37
def fJ7_fill_53178_l5_b (rec : Int32 → XW → Option (XW)) (l0 : Nat) (l1 : Int32) (l3 : Int32) (l2 : Int32) (X : XW) : Option (XW) :=
  if (l3 ≤ l2 : Prop) then (some (X))
  else (uI X l0 l2 l1 >>= fun X1 =>
    rec (l2 + 1) X1)
def fJ7_fill_53178_l5 (l0 : Nat) (l1 : Int32) (l3 : Int32) (n : Nat) : Int32 → XW → Option (XW) := iter (fun rec => fJ7_fill_53178_l5_b rec l0 l1 l3) (fun _ _ => none) n
def fJ7_fill_53178 (l0 : Nat) (l1 : Int32) (X : XW) : Option (XW) :=
  aE X l0 1 >>= fun v1 =>
  fJ7_fill_53178_l5 l0 l1 v1 FU 0 X >>= fun r3 =>
  some r3
theorem tJ7_fill_53178_l5_b {p : Program} {l : Launch} {e : Env} {s : State} {m : MethodId} {args : Array Value} {below : List Frame} {meth : Method} {c : Code} {G : XG} {X0 : XW} (C0 : XC p s m args meth c RJ7 cJ7_fill_53178 4 G) (hret : meth.sig.returnType = none) {r : XW} {l0 : Nat} {l1 : Int32} {l3 : Int32} {Q : State → Prop} {rec : Int32 → XW → Option (XW)} (hrec : ∀ {y2 : Int32} {X : XW} {H : Heap} {locs : List Loc} {ls : Array Slot}, XD G X0 X s H locs → lv_has ls 4 [(0, .ref l0), (1, .int l1), (2, .int y2), (3, .int l3)] → rec y2 X = some r → W p l e { frames := 0, cells := 0, slots := 0, locals := 0 } s m args below meth c H locs 0 0 Q (F0 m 5 ls [])) (hK : ∀ {H : Heap} {locs : List Loc} {ls : Array Slot}, XD G X0 r s H locs → lv_has ls 4 [] → W p l e { frames := 0, cells := 0, slots := 0, locals := 0 } s m args below meth c H locs 0 0 Q (F0 m 20 ls []))  {l2 : Int32} {X : XW} {H : Heap} {locs : List Loc} {ls : Array Slot} (W0 : XD G X0 X s H locs) (hl : lv_has ls 4 [(0, .ref l0), (1, .int l1), (2, .int l2), (3, .int l3)]) (h : fJ7_fill_53178_l5_b rec l0 l1 l3 l2 X = some r) : W p l e { frames := 0, cells := 0, slots := 0, locals := 0 } s m args below meth c H locs 0 0 Q (F0 m 5 ls []) := by
  have hx := C0.1
  have hb := C0.2.1
  unfold fJ7_fill_53178_l5_b at h
  refine lv_iload_n hx hb dJ7_fill_53178_5 rfl (lv_at hl 2 rfl) ?_
  refine lv_iload_n hx hb dJ7_fill_53178_6 rfl (lv_at hl 3 rfl) ?_
  refine lv_icmp_ge (tgt := 20) hx hb dJ7_fill_53178_7 (by decide) (fun hcq => ?_) (fun hcq => ?_)
  · have h := it_t hcq h
    cases h
    exact hK W0 (lv_sub hl [] rfl)
  · have h := it_f hcq h
    refine lv_aload_n hx hb dJ7_fill_53178_10 rfl (lv_at hl 0 rfl) ?_
    refine lv_iload_n hx hb dJ7_fill_53178_11 rfl (lv_at hl 2 rfl) ?_
    refine lv_iload_n hx hb dJ7_fill_53178_12 rfl (lv_at hl 1 rfl) ?_
    obtain ⟨X1, h2, h⟩ := ob h
    refine xr_iast C0 W0 h2 dJ7_fill_53178_13 (fun H locs W0 => ?_)
    refine lv_iinc (v := (l2 + 1)) (lv' := [(2, .int (l2 + 1)), (0, .ref l0), (1, .int l1), (3, .int l3)]) hx hb dJ7_fill_53178_14 hl (k := 2) rfl (ii (by decide)) (by decide) rfl (fun ls hl => ?_)
    refine lv_goto (tgt := 5) hx hb dJ7_fill_53178_17 (by decide) ?_
    exact hrec W0 (lv_sub hl [1, 2, 0, 3] rfl) h
theorem tJ7_fill_53178_l5 {p : Program} {l : Launch} {e : Env} {s : State} {m : MethodId} {args : Array Value} {below : List Frame} {meth : Method} {c : Code} {G : XG} {X0 : XW} (C0 : XC p s m args meth c RJ7 cJ7_fill_53178 4 G) (hret : meth.sig.returnType = none) {r : XW} {l0 : Nat} {l1 : Int32} {l3 : Int32} {Q : State → Prop} (hK : ∀ {H : Heap} {locs : List Loc} {ls : Array Slot}, XD G X0 r s H locs → lv_has ls 4 [] → W p l e { frames := 0, cells := 0, slots := 0, locals := 0 } s m args below meth c H locs 0 0 Q (F0 m 20 ls [])) : ∀ (n : Nat) {y2 : Int32} {X : XW} {H : Heap} {locs : List Loc} {ls : Array Slot}, XD G X0 X s H locs → lv_has ls 4 [(0, .ref l0), (1, .int l1), (2, .int y2), (3, .int l3)] → fJ7_fill_53178_l5 l0 l1 l3 n y2 X = some r → W p l e { frames := 0, cells := 0, slots := 0, locals := 0 } s m args below meth c H locs 0 0 Q (F0 m 5 ls []) := by
  intro n
  induction n with
  | zero =>
    intro y2 X H locs ls W0 hl h
    cases h
  | succ n ih =>
    intro y2 X H locs ls W0 hl h
    exact tJ7_fill_53178_l5_b C0 hret (rec := fJ7_fill_53178_l5 l0 l1 l3 n) (fun W0 hl h => ih W0 hl h) hK W0 hl h
theorem ctJ7_fill_53178 (l : Launch) (G : XG) {l0 : Nat} {l1 : Int32} {X : XW} {r : XW}  (h : fJ7_fill_53178 l0 l1 X = some r) : XM l G yJ7_fill_53178 cJ7_fill_53178 4 none 0 0 0 0 [.ref l0, .int l1] X (none, r) := by
  refine xm_of (own := RJ7) (by decide) rfl (Nat.le_of_ble_eq_true rfl) ?_
  intro p e s m below meth c ls C0 W0 hret hnm hl
  have hx := C0.1
  have hb := C0.2.1
  have hl : lv_has ls 4 [(0, .ref l0), (1, .int l1)] := hl
  unfold fJ7_fill_53178 at h
  refine lv_iconst (v := 0) hx hb dJ7_fill_53178_0 (by decide) ?_
  refine lv_istore_n (lv' := [(2, .int 0), (0, .ref l0), (1, .int l1)]) hx hb dJ7_fill_53178_1 rfl hl (by decide) rfl (fun ls hl => ?_)
  refine lv_aload_n hx hb dJ7_fill_53178_2 rfl (lv_at hl 1 rfl) ?_
  obtain ⟨v1, h2, h⟩ := ob h
  refine xr_alen C0 W0 1 rfl h2 dJ7_fill_53178_3 ?_
  refine lv_istore_n (lv' := [(3, .int v1), (2, .int 0), (0, .ref l0), (1, .int l1)]) hx hb dJ7_fill_53178_4 rfl hl (by decide) rfl (fun ls hl => ?_)
  obtain ⟨r3, h4, h⟩ := ob h
  refine tJ7_fill_53178_l5 C0 hret (fun {H} {locs} {ls} W0 hl => ?_) FU W0 (lv_sub hl [2, 3, 1, 0] rfl) h4
  exact xr_vret C0 W0 hret (Option.some.inj h).symm dJ7_fill_53178_20
def fX4_clearMarks_l2_b (rec : Int32 → XW → Option (XW)) (l0 : Nat) (l1 : Int32) (X : XW) : Option (XW) :=
  if (3 ≤ l1 : Prop) then (some (X))
  else (gR X l0 4 5 >>= fun q1 =>
    aQ X q1 6 l1 >>= fun q3 =>
    fJ7_fill_53178 q3 (-1) X >>= fun X5 =>
    rec (l1 + 1) X5)
def fX4_clearMarks_l2 (l0 : Nat) (n : Nat) : Int32 → XW → Option (XW) := iter (fun rec => fX4_clearMarks_l2_b rec l0) (fun _ _ => none) n
def fX4_clearMarks (l0 : Nat) (X : XW) : Option (XW) :=
  fX4_clearMarks_l2 l0 FU 0 X >>= fun r1 =>
  some r1
theorem tX4_clearMarks_l2_b {p : Program} {l : Launch} {e : Env} {s : State} {m : MethodId} {args : Array Value} {below : List Frame} {meth : Method} {c : Code} {G : XG} {X0 : XW} (C0 : XC p s m args meth c RX4 cX4_clearMarks 2 G) (hret : meth.sig.returnType = none) {r : XW} {l0 : Nat} {Q : State → Prop} {rec : Int32 → XW → Option (XW)} (hrec : ∀ {y1 : Int32} {X : XW} {H : Heap} {locs : List Loc} {ls : Array Slot}, XD G X0 X s H locs → lv_has ls 2 [(0, .ref l0), (1, .int y1)] → rec y1 X = some r → W p l e { frames := 1, cells := 0, slots := 0, locals := 60 } s m args below meth c H locs 0 0 Q (F0 m 2 ls [])) (hK : ∀ {H : Heap} {locs : List Loc} {ls : Array Slot}, XD G X0 r s H locs → lv_has ls 2 [] → W p l e { frames := 1, cells := 0, slots := 0, locals := 60 } s m args below meth c H locs 0 0 Q (F0 m 23 ls []))  {l1 : Int32} {X : XW} {H : Heap} {locs : List Loc} {ls : Array Slot} (W0 : XD G X0 X s H locs) (hl : lv_has ls 2 [(0, .ref l0), (1, .int l1)]) (h : fX4_clearMarks_l2_b rec l0 l1 X = some r) : W p l e { frames := 1, cells := 0, slots := 0, locals := 60 } s m args below meth c H locs 0 0 Q (F0 m 2 ls []) := by
  have hx := C0.1
  have hb := C0.2.1
  unfold fX4_clearMarks_l2_b at h
  refine lv_iload_n hx hb dX4_clearMarks_2 rfl (lv_at hl 1 rfl) ?_
  refine lv_iconst (v := 3) hx hb dX4_clearMarks_3 (by decide) ?_
  refine lv_icmp_ge (tgt := 23) hx hb dX4_clearMarks_4 (by decide) (fun hcq => ?_) (fun hcq => ?_)
  · have h := it_t hcq h
    cases h
    exact hK W0 (lv_sub hl [] rfl)
  · have h := it_f hcq h
    refine lv_aload_n hx hb dX4_clearMarks_7 rfl (lv_at hl 0 rfl) ?_
    obtain ⟨q1, h2, h⟩ := ob h
    refine xr_getR C0 W0 cl_X4 5 (by decide) fl_X4_30 rfl h2 dX4_clearMarks_8 ?_
    refine lv_iload_n hx hb dX4_clearMarks_11 rfl (lv_at hl 1 rfl) ?_
    obtain ⟨q3, h4, h⟩ := ob h
    refine xr_aldq C0 W0 6 (by decide) rfl rfl h4 dX4_clearMarks_12 ?_
    refine lv_iconst (v := (-1)) hx hb dX4_clearMarks_13 (by decide) ?_
    obtain ⟨X5, h6, h⟩ := ob h
    refine xr_S (As := [.ref q3, .int (-1)]) (rest := []) C0 W0 (ctJ7_fill_53178 l G h6) mc_J7_fill_53178 ms_J7_fill_53178 ml_X4_46 ⟨by decide, by decide⟩ rfl hl.1 rfl (Nat.le_of_ble_eq_true rfl) ⟨by decide, by decide⟩ dX4_clearMarks_14 (fun H locs W0 => ?_)
    refine W.cs (cells' := 0) (slots' := 0) rfl rfl ?_
    refine W.eq (g2 := F0 m 17 ls []) rfl ?_
    refine lv_iinc (v := (l1 + 1)) (lv' := [(1, .int (l1 + 1)), (0, .ref l0)]) hx hb dX4_clearMarks_17 hl (k := 1) rfl (ii (by decide)) (by decide) rfl (fun ls hl => ?_)
    refine lv_goto (tgt := 2) hx hb dX4_clearMarks_20 (by decide) ?_
    exact hrec W0 (lv_sub hl [1, 0] rfl) h
theorem tX4_clearMarks_l2 {p : Program} {l : Launch} {e : Env} {s : State} {m : MethodId} {args : Array Value} {below : List Frame} {meth : Method} {c : Code} {G : XG} {X0 : XW} (C0 : XC p s m args meth c RX4 cX4_clearMarks 2 G) (hret : meth.sig.returnType = none) {r : XW} {l0 : Nat} {Q : State → Prop} (hK : ∀ {H : Heap} {locs : List Loc} {ls : Array Slot}, XD G X0 r s H locs → lv_has ls 2 [] → W p l e { frames := 1, cells := 0, slots := 0, locals := 60 } s m args below meth c H locs 0 0 Q (F0 m 23 ls [])) : ∀ (n : Nat) {y1 : Int32} {X : XW} {H : Heap} {locs : List Loc} {ls : Array Slot}, XD G X0 X s H locs → lv_has ls 2 [(0, .ref l0), (1, .int y1)] → fX4_clearMarks_l2 l0 n y1 X = some r → W p l e { frames := 1, cells := 0, slots := 0, locals := 60 } s m args below meth c H locs 0 0 Q (F0 m 2 ls []) := by
  intro n
  induction n with
  | zero =>
    intro y1 X H locs ls W0 hl h
    cases h
  | succ n ih =>
    intro y1 X H locs ls W0 hl h
    exact tX4_clearMarks_l2_b C0 hret (rec := fX4_clearMarks_l2 l0 n) (fun W0 hl h => ih W0 hl h) hK W0 hl h
theorem ctX4_clearMarks (l : Launch) (G : XG) {l0 : Nat} {X : XW} {r : XW}  (h : fX4_clearMarks l0 X = some r) : XM l G yX4_clearMarks cX4_clearMarks 2 none 1 60 0 0 [.ref l0] X (none, r) := by
  refine xm_of (own := RX4) (by decide) rfl (Nat.le_of_ble_eq_true rfl) ?_
  intro p e s m below meth c ls C0 W0 hret hnm hl
  have hx := C0.1
  have hb := C0.2.1
  have hl : lv_has ls 2 [(0, .ref l0)] := hl
  unfold fX4_clearMarks at h
  refine lv_iconst (v := 0) hx hb dX4_clearMarks_0 (by decide) ?_
  refine lv_istore_n (lv' := [(1, .int 0), (0, .ref l0)]) hx hb dX4_clearMarks_1 rfl hl (by decide) rfl (fun ls hl => ?_)
  obtain ⟨r1, h2, h⟩ := ob h
  refine tX4_clearMarks_l2 C0 hret (fun {H} {locs} {ls} W0 hl => ?_) FU W0 (lv_sub hl [1, 0] rfl) h2
  exact xr_vret C0 W0 hret (Option.some.inj h).symm dX4_clearMarks_23
def fX4_init (l0 : Nat) (X : XW) : Option (XW) :=
  nA X 1 16 16 >>= fun r1 =>
  pR r1.2 l0 4 0 r1.1 >>= fun X3 =>
  nA X3 1 16 16 >>= fun r5 =>
  pR r5.2 l0 4 1 r5.1 >>= fun X7 =>
  nA X7 1 16 16 >>= fun r9 =>
  pR r9.2 l0 4 2 r9.1 >>= fun X11 =>
  nA X11 3 16 16 >>= fun r13 =>
  pR r13.2 l0 4 3 r13.1 >>= fun X15 =>
  nA X15 3 16 16 >>= fun r17 =>
  pR r17.2 l0 4 4 r17.1 >>= fun X19 =>
  pR (nM X19 3 80).2 l0 4 5 ((nM X19 3 80).1) >>= fun X21 =>
  pI X21 l0 4 6 0 >>= fun X23 =>
  pI X23 l0 4 7 0 >>= fun X25 =>
  pI X25 l0 4 8 0 >>= fun X27 =>
  gK X27 l0 4 >>= fun u29 =>
  fX4_clearMarks l0 X27 >>= fun X31 =>
  some X31
theorem ctX4_init (l : Launch) (G : XG) {l0 : Nat} {X : XW} {r : XW}  (h : fX4_init l0 X = some r) : XM l G yX4_init cX4_init 1 none 2 120 9 323 [.ref l0] X (none, r) := by
  refine xm_of (own := RX4) (by decide) rfl (Nat.le_of_ble_eq_true rfl) ?_
  intro p e s m below meth c ls C0 W0 hret hin hl
  have hx := C0.1
  have hb := C0.2.1
  have hl : lv_has ls 1 [(0, .ref l0)] := hl
  unfold fX4_init at h
  refine lv_aload_n hx hb dX4_init_0 rfl (lv_at hl 0 rfl) ?_
  refine W.objInit hx hb C0.2.2.2.1 (C0.2.2.2.2.1 _ (xws_t 143 (by decide +kernel) rfl)) (C0.2.2.2.2.1 _ xoi1) (C0.2.2.2.2.1 _ xoi2) rfl (by rw [C0.2.2.1]; exact hl.1) rfl dX4_init_1 (by decide) (Nat.le_of_ble_eq_true rfl) ?_
  refine W.eq (g2 := F0 m 4 ls []) rfl ?_
  refine lv_aload_n hx hb dX4_init_4 rfl (lv_at hl 0 rfl) ?_
  refine lv_bipush (v := 16) hx hb dX4_init_5 (by decide) ?_
  obtain ⟨r1, h2, h⟩ := ob h
  refine xr_newa (atype := .int) C0 W0 1 16 rfl (by decide) (by decide) rfl ka_int (fun N => nw_int) (by decide) h2 (by decide) (by decide) dX4_init_7 (fun H W0 => ?_)
  refine W.cs (cells' := 1) (slots' := 16) rfl rfl ?_
  obtain ⟨X3, h4, h⟩ := ob h
  refine xr_putR C0 W0 cl_X4 0 (by decide) fl_X4_9 (Or.inr ⟨rfl, hin, rfl⟩) rfl ⟨rfl, rfl⟩ (by decide) h4 dX4_init_9 (fun H locs W0 => ?_)
  refine lv_aload_n hx hb dX4_init_12 rfl (lv_at hl 0 rfl) ?_
  refine lv_bipush (v := 16) hx hb dX4_init_13 (by decide) ?_
  obtain ⟨r5, h6, h⟩ := ob h
  refine xr_newa (atype := .int) C0 W0 1 16 rfl (by decide) (by decide) rfl ka_int (fun N => nw_int) (by decide) h6 (by decide) (by decide) dX4_init_15 (fun H W0 => ?_)
  refine W.cs (cells' := 2) (slots' := 32) rfl rfl ?_
  obtain ⟨X7, h8, h⟩ := ob h
  refine xr_putR C0 W0 cl_X4 1 (by decide) fl_X4_15 (Or.inr ⟨rfl, hin, rfl⟩) rfl ⟨rfl, rfl⟩ (by decide) h8 dX4_init_17 (fun H locs W0 => ?_)
  refine lv_aload_n hx hb dX4_init_20 rfl (lv_at hl 0 rfl) ?_
  refine lv_bipush (v := 16) hx hb dX4_init_21 (by decide) ?_
  obtain ⟨r9, h10, h⟩ := ob h
  refine xr_newa (atype := .int) C0 W0 1 16 rfl (by decide) (by decide) rfl ka_int (fun N => nw_int) (by decide) h10 (by decide) (by decide) dX4_init_23 (fun H W0 => ?_)
  refine W.cs (cells' := 3) (slots' := 48) rfl rfl ?_
  obtain ⟨X11, h12, h⟩ := ob h
  refine xr_putR C0 W0 cl_X4 2 (by decide) fl_X4_18 (Or.inr ⟨rfl, hin, rfl⟩) rfl ⟨rfl, rfl⟩ (by decide) h12 dX4_init_25 (fun H locs W0 => ?_)
  refine lv_aload_n hx hb dX4_init_28 rfl (lv_at hl 0 rfl) ?_
  refine lv_bipush (v := 16) hx hb dX4_init_29 (by decide) ?_
  obtain ⟨r13, h14, h⟩ := ob h
  refine xr_newa (atype := .boolean) C0 W0 3 16 rfl (by decide) (by decide) rfl ka_boolean (fun N => nw_boolean) (by decide) h14 (by decide) (by decide) dX4_init_31 (fun H W0 => ?_)
  refine W.cs (cells' := 4) (slots' := 64) rfl rfl ?_
  obtain ⟨X15, h16, h⟩ := ob h
  refine xr_putR C0 W0 cl_X4 3 (by decide) fl_X4_21 (Or.inr ⟨rfl, hin, rfl⟩) rfl ⟨rfl, rfl⟩ (by decide) h16 dX4_init_33 (fun H locs W0 => ?_)
  refine lv_aload_n hx hb dX4_init_36 rfl (lv_at hl 0 rfl) ?_
  refine lv_bipush (v := 16) hx hb dX4_init_37 (by decide) ?_
  obtain ⟨r17, h18, h⟩ := ob h
  refine xr_newa (atype := .boolean) C0 W0 3 16 rfl (by decide) (by decide) rfl ka_boolean (fun N => nw_boolean) (by decide) h18 (by decide) (by decide) dX4_init_39 (fun H W0 => ?_)
  refine W.cs (cells' := 5) (slots' := 80) rfl rfl ?_
  obtain ⟨X19, h20, h⟩ := ob h
  refine xr_putR C0 W0 cl_X4 4 (by decide) fl_X4_25 (Or.inr ⟨rfl, hin, rfl⟩) rfl ⟨rfl, rfl⟩ (by decide) h20 dX4_init_41 (fun H locs W0 => ?_)
  refine lv_aload_n hx hb dX4_init_44 rfl (lv_at hl 0 rfl) ?_
  refine lv_iconst (v := 3) hx hb dX4_init_45 (by decide) ?_
  refine lv_bipush (v := 80) hx hb dX4_init_46 (by decide) ?_
  refine xr_mna C0 W0 3 80 (xws_t 144 (by decide +kernel) rfl) rfl rfl (by decide) (by decide) (by decide) (by decide) dX4_init_48 (fun H W0 => ?_)
  refine W.cs (cells' := 9) (slots' := 323) rfl rfl ?_
  obtain ⟨X21, h22, h⟩ := ob h
  refine xr_putR C0 W0 cl_X4 5 (by decide) fl_X4_30 (Or.inr ⟨rfl, hin, rfl⟩) rfl ⟨rfl, rfl⟩ (by decide) h22 dX4_init_52 (fun H locs W0 => ?_)
  refine lv_aload_n hx hb dX4_init_55 rfl (lv_at hl 0 rfl) ?_
  refine lv_iconst (v := 0) hx hb dX4_init_56 (by decide) ?_
  obtain ⟨X23, h24, h⟩ := ob h
  refine xr_putI C0 W0 cl_X4 6 (by decide) fl_X4_33 rfl rfl rfl (by decide) h24 dX4_init_57 (fun H locs W0 => ?_)
  refine lv_aload_n hx hb dX4_init_60 rfl (lv_at hl 0 rfl) ?_
  refine lv_iconst (v := 0) hx hb dX4_init_61 (by decide) ?_
  obtain ⟨X25, h26, h⟩ := ob h
  refine xr_putI C0 W0 cl_X4 7 (by decide) fl_X4_37 rfl rfl rfl (by decide) h26 dX4_init_62 (fun H locs W0 => ?_)
  refine lv_aload_n hx hb dX4_init_65 rfl (lv_at hl 0 rfl) ?_
  refine lv_iconst (v := 0) hx hb dX4_init_66 (by decide) ?_
  obtain ⟨X27, h28, h⟩ := ob h
  refine xr_putI C0 W0 cl_X4 8 (by decide) fl_X4_40 rfl rfl rfl (by decide) h28 dX4_init_67 (fun H locs W0 => ?_)
  refine lv_aload_n hx hb dX4_init_70 rfl (lv_at hl 0 rfl) ?_
  obtain ⟨u29, h30, h⟩ := ob h
  obtain ⟨X31, h32, h⟩ := ob h
  refine xr_V (As := []) (rest := []) C0 W0 (ctX4_clearMarks l G h32) (gK_of h30) (rr := (RX4, TX4, 9)) rfl rfl mc_X4_clearMarks mv_X4_clearMarks ml_X4_43 ⟨by decide, by decide⟩ rfl hl.1 rfl (Nat.le_of_ble_eq_true rfl) ⟨by decide, by decide⟩ dX4_init_71 (fun H locs W0 => ?_)
  refine W.cs (cells' := 9) (slots' := 323) rfl rfl ?_
  refine W.eq (g2 := F0 m 74 ls []) rfl ?_
  exact xr_vret C0 W0 hret (Option.some.inj h).symm dX4_init_74
def fX4_markCount_j37 (rec : Int32 → Int32 → XW → Option (Int32 × XW)) (l0 : Nat) (l2 : Int32) (l3 : Int32) (s0 : Int32) (s1 : Int32) (X : XW) : Option (Int32 × XW) :=
  rec (s1 + s0) (l3 + 1) X
def fX4_markCount_l11_b (rec : Int32 → Int32 → XW → Option (Int32 × XW)) (l0 : Nat) (l2 : Int32) (l1 : Int32) (l3 : Int32) (X : XW) : Option (Int32 × XW) :=
  gI X l0 4 7 >>= fun v1 =>
  if (v1 ≤ l3 : Prop) then (some (l1, X))
  else (gR X l0 4 5 >>= fun q3 =>
    aQ X q3 6 l2 >>= fun q5 =>
    aI X q5 1 l3 >>= fun v7 =>
    if (v7 = (-1) : Prop) then (fX4_markCount_j37 rec l0 l2 l3 0 l1 X)
    else (fX4_markCount_j37 rec l0 l2 l3 1 l1 X))
def fX4_markCount_l11 (l0 : Nat) (l2 : Int32) (n : Nat) : Int32 → Int32 → XW → Option (Int32 × XW) := iter (fun rec => fX4_markCount_l11_b rec l0 l2) (fun _ _ _ => none) n
def fX4_markCount_l4_b (rec : Int32 → Int32 → XW → Option (Int32 × XW)) (l0 : Nat) (l1 : Int32) (l2 : Int32) (X : XW) : Option (Int32 × XW) :=
  if (3 ≤ l2 : Prop) then (some (l1, X))
  else (fX4_markCount_l11 l0 l2 FU l1 0 X >>= fun r1 =>
    rec r1.1 (l2 + 1) r1.2)
def fX4_markCount_l4 (l0 : Nat) (n : Nat) : Int32 → Int32 → XW → Option (Int32 × XW) := iter (fun rec => fX4_markCount_l4_b rec l0) (fun _ _ _ => none) n
def fX4_markCount (l0 : Nat) (X : XW) : Option (Int32 × XW) :=
  fX4_markCount_l4 l0 FU 0 0 X >>= fun r1 =>
  some (r1.1, r1.2)
theorem tX4_markCount_j37 {p : Program} {l : Launch} {e : Env} {s : State} {m : MethodId} {args : Array Value} {below : List Frame} {meth : Method} {c : Code} {G : XG} {X0 : XW} (C0 : XC p s m args meth c RX4 cX4_markCount 4 G) (hret : meth.sig.returnType = (some .int)) {r : Int32 × XW} {l0 : Nat} {l2 : Int32} {Q : State → Prop} {rec : Int32 → Int32 → XW → Option (Int32 × XW)} (hrec : ∀ {y1 : Int32} {y3 : Int32} {X : XW} {H : Heap} {locs : List Loc} {ls : Array Slot}, XD G X0 X s H locs → lv_has ls 4 [(0, .ref l0), (1, .int y1), (2, .int l2), (3, .int y3)] → rec y1 y3 X = some r → W p l e { frames := 0, cells := 0, slots := 0, locals := 0 } s m args below meth c H locs 0 0 Q (F0 m 11 ls [])) (hK : ∀ {H : Heap} {locs : List Loc} {ls : Array Slot}, XD G X0 r.2 s H locs → lv_has ls 4 [(0, .ref l0), (1, .int r.1), (2, .int l2)] → W p l e { frames := 0, cells := 0, slots := 0, locals := 0 } s m args below meth c H locs 0 0 Q (F0 m 45 ls []))  {l3 : Int32} {s0 : Int32} {s1 : Int32} {X : XW} {H : Heap} {locs : List Loc} {ls : Array Slot} (W0 : XD G X0 X s H locs) (hl : lv_has ls 4 [(0, .ref l0), (2, .int l2), (3, .int l3)]) (h : fX4_markCount_j37 rec l0 l2 l3 s0 s1 X = some r) : W p l e { frames := 0, cells := 0, slots := 0, locals := 0 } s m args below meth c H locs 0 0 Q (F0 m 37 ls [.int s0, .int s1]) := by
  have hx := C0.1
  have hb := C0.2.1
  unfold fX4_markCount_j37 at h
  refine lv_iadd hx hb dX4_markCount_37 ?_
  refine lv_istore_n (lv' := [(1, .int (s1 + s0)), (0, .ref l0), (2, .int l2), (3, .int l3)]) hx hb dX4_markCount_38 rfl hl (by decide) rfl (fun ls hl => ?_)
  refine lv_iinc (v := (l3 + 1)) (lv' := [(3, .int (l3 + 1)), (1, .int (s1 + s0)), (0, .ref l0), (2, .int l2)]) hx hb dX4_markCount_39 hl (k := 3) rfl (ii (by decide)) (by decide) rfl (fun ls hl => ?_)
  refine lv_goto (tgt := 11) hx hb dX4_markCount_42 (by decide) ?_
  exact hrec W0 (lv_sub hl [2, 1, 3, 0] rfl) h
theorem tX4_markCount_l11_b {p : Program} {l : Launch} {e : Env} {s : State} {m : MethodId} {args : Array Value} {below : List Frame} {meth : Method} {c : Code} {G : XG} {X0 : XW} (C0 : XC p s m args meth c RX4 cX4_markCount 4 G) (hret : meth.sig.returnType = (some .int)) {r : Int32 × XW} {l0 : Nat} {l2 : Int32} {Q : State → Prop} {rec : Int32 → Int32 → XW → Option (Int32 × XW)} (hrec : ∀ {y1 : Int32} {y3 : Int32} {X : XW} {H : Heap} {locs : List Loc} {ls : Array Slot}, XD G X0 X s H locs → lv_has ls 4 [(0, .ref l0), (1, .int y1), (2, .int l2), (3, .int y3)] → rec y1 y3 X = some r → W p l e { frames := 0, cells := 0, slots := 0, locals := 0 } s m args below meth c H locs 0 0 Q (F0 m 11 ls [])) (hK : ∀ {H : Heap} {locs : List Loc} {ls : Array Slot}, XD G X0 r.2 s H locs → lv_has ls 4 [(0, .ref l0), (1, .int r.1), (2, .int l2)] → W p l e { frames := 0, cells := 0, slots := 0, locals := 0 } s m args below meth c H locs 0 0 Q (F0 m 45 ls []))  {l1 : Int32} {l3 : Int32} {X : XW} {H : Heap} {locs : List Loc} {ls : Array Slot} (W0 : XD G X0 X s H locs) (hl : lv_has ls 4 [(0, .ref l0), (1, .int l1), (2, .int l2), (3, .int l3)]) (h : fX4_markCount_l11_b rec l0 l2 l1 l3 X = some r) : W p l e { frames := 0, cells := 0, slots := 0, locals := 0 } s m args below meth c H locs 0 0 Q (F0 m 11 ls []) := by
  have hx := C0.1
  have hb := C0.2.1
  unfold fX4_markCount_l11_b at h
  refine lv_iload_n hx hb dX4_markCount_11 rfl (lv_at hl 3 rfl) ?_
  refine lv_aload_n hx hb dX4_markCount_12 rfl (lv_at hl 0 rfl) ?_
  obtain ⟨v1, h2, h⟩ := ob h
  refine xr_getI C0 W0 cl_X4 7 (by decide) fl_X4_37 rfl h2 dX4_markCount_13 ?_
  refine lv_icmp_ge (tgt := 45) hx hb dX4_markCount_16 (by decide) (fun hcq => ?_) (fun hcq => ?_)
  · have h := it_t hcq h
    cases h
    exact hK W0 (lv_sub hl [0, 1, 2] rfl)
  · have h := it_f hcq h
    refine lv_iload_n hx hb dX4_markCount_19 rfl (lv_at hl 1 rfl) ?_
    refine lv_aload_n hx hb dX4_markCount_20 rfl (lv_at hl 0 rfl) ?_
    obtain ⟨q3, h4, h⟩ := ob h
    refine xr_getR C0 W0 cl_X4 5 (by decide) fl_X4_30 rfl h4 dX4_markCount_21 ?_
    refine lv_iload_n hx hb dX4_markCount_24 rfl (lv_at hl 2 rfl) ?_
    obtain ⟨q5, h6, h⟩ := ob h
    refine xr_aldq C0 W0 6 (by decide) rfl rfl h6 dX4_markCount_25 ?_
    refine lv_iload_n hx hb dX4_markCount_26 rfl (lv_at hl 3 rfl) ?_
    obtain ⟨v7, h8, h⟩ := ob h
    refine xr_iald C0 W0 h8 dX4_markCount_27 ?_
    refine lv_iconst (v := (-1)) hx hb dX4_markCount_28 (by decide) ?_
    refine lv_icmp_ne (tgt := 36) hx hb dX4_markCount_29 (by decide) (fun hcq => ?_) (fun hcq => ?_)
    · have h := it_f hcq h
      refine lv_iconst (v := 1) hx hb dX4_markCount_36 (by decide) ?_
      exact tX4_markCount_j37 C0 hret hrec hK W0 (lv_sub hl [0, 2, 3] rfl) h
    · have h := it_t hcq h
      refine lv_iconst (v := 0) hx hb dX4_markCount_32 (by decide) ?_
      refine lv_goto (tgt := 37) hx hb dX4_markCount_33 (by decide) ?_
      exact tX4_markCount_j37 C0 hret hrec hK W0 (lv_sub hl [0, 2, 3] rfl) h
theorem tX4_markCount_l11 {p : Program} {l : Launch} {e : Env} {s : State} {m : MethodId} {args : Array Value} {below : List Frame} {meth : Method} {c : Code} {G : XG} {X0 : XW} (C0 : XC p s m args meth c RX4 cX4_markCount 4 G) (hret : meth.sig.returnType = (some .int)) {r : Int32 × XW} {l0 : Nat} {l2 : Int32} {Q : State → Prop} (hK : ∀ {H : Heap} {locs : List Loc} {ls : Array Slot}, XD G X0 r.2 s H locs → lv_has ls 4 [(0, .ref l0), (1, .int r.1), (2, .int l2)] → W p l e { frames := 0, cells := 0, slots := 0, locals := 0 } s m args below meth c H locs 0 0 Q (F0 m 45 ls [])) : ∀ (n : Nat) {y1 : Int32} {y3 : Int32} {X : XW} {H : Heap} {locs : List Loc} {ls : Array Slot}, XD G X0 X s H locs → lv_has ls 4 [(0, .ref l0), (1, .int y1), (2, .int l2), (3, .int y3)] → fX4_markCount_l11 l0 l2 n y1 y3 X = some r → W p l e { frames := 0, cells := 0, slots := 0, locals := 0 } s m args below meth c H locs 0 0 Q (F0 m 11 ls []) := by
  intro n
  induction n with
  | zero =>
    intro y1 y3 X H locs ls W0 hl h
    cases h
  | succ n ih =>
    intro y1 y3 X H locs ls W0 hl h
    exact tX4_markCount_l11_b C0 hret (rec := fX4_markCount_l11 l0 l2 n) (fun W0 hl h => ih W0 hl h) hK W0 hl h
theorem tX4_markCount_l4_b {p : Program} {l : Launch} {e : Env} {s : State} {m : MethodId} {args : Array Value} {below : List Frame} {meth : Method} {c : Code} {G : XG} {X0 : XW} (C0 : XC p s m args meth c RX4 cX4_markCount 4 G) (hret : meth.sig.returnType = (some .int)) {r : Int32 × XW} {l0 : Nat} {Q : State → Prop} {rec : Int32 → Int32 → XW → Option (Int32 × XW)} (hrec : ∀ {y1 : Int32} {y2 : Int32} {X : XW} {H : Heap} {locs : List Loc} {ls : Array Slot}, XD G X0 X s H locs → lv_has ls 4 [(0, .ref l0), (1, .int y1), (2, .int y2)] → rec y1 y2 X = some r → W p l e { frames := 0, cells := 0, slots := 0, locals := 0 } s m args below meth c H locs 0 0 Q (F0 m 4 ls [])) (hK : ∀ {H : Heap} {locs : List Loc} {ls : Array Slot}, XD G X0 r.2 s H locs → lv_has ls 4 [(1, .int r.1)] → W p l e { frames := 0, cells := 0, slots := 0, locals := 0 } s m args below meth c H locs 0 0 Q (F0 m 51 ls []))  {l1 : Int32} {l2 : Int32} {X : XW} {H : Heap} {locs : List Loc} {ls : Array Slot} (W0 : XD G X0 X s H locs) (hl : lv_has ls 4 [(0, .ref l0), (1, .int l1), (2, .int l2)]) (h : fX4_markCount_l4_b rec l0 l1 l2 X = some r) : W p l e { frames := 0, cells := 0, slots := 0, locals := 0 } s m args below meth c H locs 0 0 Q (F0 m 4 ls []) := by
  have hx := C0.1
  have hb := C0.2.1
  unfold fX4_markCount_l4_b at h
  refine lv_iload_n hx hb dX4_markCount_4 rfl (lv_at hl 2 rfl) ?_
  refine lv_iconst (v := 3) hx hb dX4_markCount_5 (by decide) ?_
  refine lv_icmp_ge (tgt := 51) hx hb dX4_markCount_6 (by decide) (fun hcq => ?_) (fun hcq => ?_)
  · have h := it_t hcq h
    cases h
    exact hK W0 (lv_sub hl [1] rfl)
  · have h := it_f hcq h
    refine lv_iconst (v := 0) hx hb dX4_markCount_9 (by decide) ?_
    refine lv_istore_n (lv' := [(3, .int 0), (0, .ref l0), (1, .int l1), (2, .int l2)]) hx hb dX4_markCount_10 rfl hl (by decide) rfl (fun ls hl => ?_)
    obtain ⟨r1, h2, h⟩ := ob h
    refine tX4_markCount_l11 C0 hret (fun {H} {locs} {ls} W0 hl => ?_) FU W0 (lv_sub hl [1, 2, 3, 0] rfl) h2
    refine lv_iinc (v := (l2 + 1)) (lv' := [(2, .int (l2 + 1)), (0, .ref l0), (1, .int r1.1)]) hx hb dX4_markCount_45 hl (k := 2) rfl (ii (by decide)) (by decide) rfl (fun ls hl => ?_)
    refine lv_goto (tgt := 4) hx hb dX4_markCount_48 (by decide) ?_
    exact hrec W0 (lv_sub hl [1, 2, 0] rfl) h
theorem tX4_markCount_l4 {p : Program} {l : Launch} {e : Env} {s : State} {m : MethodId} {args : Array Value} {below : List Frame} {meth : Method} {c : Code} {G : XG} {X0 : XW} (C0 : XC p s m args meth c RX4 cX4_markCount 4 G) (hret : meth.sig.returnType = (some .int)) {r : Int32 × XW} {l0 : Nat} {Q : State → Prop} (hK : ∀ {H : Heap} {locs : List Loc} {ls : Array Slot}, XD G X0 r.2 s H locs → lv_has ls 4 [(1, .int r.1)] → W p l e { frames := 0, cells := 0, slots := 0, locals := 0 } s m args below meth c H locs 0 0 Q (F0 m 51 ls [])) : ∀ (n : Nat) {y1 : Int32} {y2 : Int32} {X : XW} {H : Heap} {locs : List Loc} {ls : Array Slot}, XD G X0 X s H locs → lv_has ls 4 [(0, .ref l0), (1, .int y1), (2, .int y2)] → fX4_markCount_l4 l0 n y1 y2 X = some r → W p l e { frames := 0, cells := 0, slots := 0, locals := 0 } s m args below meth c H locs 0 0 Q (F0 m 4 ls []) := by
  intro n
  induction n with
  | zero =>
    intro y1 y2 X H locs ls W0 hl h
    cases h
  | succ n ih =>
    intro y1 y2 X H locs ls W0 hl h
    exact tX4_markCount_l4_b C0 hret (rec := fX4_markCount_l4 l0 n) (fun W0 hl h => ih W0 hl h) hK W0 hl h
theorem ctX4_markCount (l : Launch) (G : XG) {l0 : Nat} {X : XW} {r : Int32 × XW}  (h : fX4_markCount l0 X = some r) : XM l G yX4_markCount cX4_markCount 4 (some .int) 0 0 0 0 [.ref l0] X (some (.int r.1), r.2) := by
  refine xm_of (own := RX4) (by decide) rfl (Nat.le_of_ble_eq_true rfl) ?_
  intro p e s m below meth c ls C0 W0 hret hnm hl
  have hx := C0.1
  have hb := C0.2.1
  have hl : lv_has ls 4 [(0, .ref l0)] := hl
  unfold fX4_markCount at h
  refine lv_iconst (v := 0) hx hb dX4_markCount_0 (by decide) ?_
  refine lv_istore_n (lv' := [(1, .int 0), (0, .ref l0)]) hx hb dX4_markCount_1 rfl hl (by decide) rfl (fun ls hl => ?_)
  refine lv_iconst (v := 0) hx hb dX4_markCount_2 (by decide) ?_
  refine lv_istore_n (lv' := [(2, .int 0), (1, .int 0), (0, .ref l0)]) hx hb dX4_markCount_3 rfl hl (by decide) rfl (fun ls hl => ?_)
  obtain ⟨r1, h2, h⟩ := ob h
  refine tX4_markCount_l4 C0 hret (fun {H} {locs} {ls} W0 hl => ?_) FU W0 (lv_sub hl [2, 1, 0] rfl) h2
  refine lv_iload_n hx hb dX4_markCount_51 rfl (lv_at hl 0 rfl) ?_
  exact xr_iret C0 W0 hret (Option.some.inj h) dX4_markCount_52
def fX4_putWord (l0 : Nat) (l1 : Int32) (l2 : Int32) (l3 : Int32) (l4 : Int32) (l5 : Int32) (l6 : Int32) (X : XW) : Option (XW) :=
  gI X l0 4 7 >>= fun v1 =>
  gR X l0 4 0 >>= fun q3 =>
  aI X q3 1 l1 >>= fun v5 =>
  pI X l0 4 7 (v1 + (l2 - v5)) >>= fun X7 =>
  gR X7 l0 4 0 >>= fun q9 =>
  uI X7 q9 l1 l2 >>= fun X11 =>
  gR X11 l0 4 1 >>= fun q13 =>
  uI X11 q13 l1 l3 >>= fun X15 =>
  gR X15 l0 4 2 >>= fun q17 =>
  uI X15 q17 l1 l4 >>= fun X19 =>
  gR X19 l0 4 3 >>= fun q21 =>
  uZ X19 q21 l1 l5 >>= fun X23 =>
  gR X23 l0 4 4 >>= fun q25 =>
  uZ X23 q25 l1 l6 >>= fun X27 =>
  some X27
theorem ctX4_putWord (l : Launch) (G : XG) {l0 : Nat} {l1 : Int32} {l2 : Int32} {l3 : Int32} {l4 : Int32} {l5 : Int32} {l6 : Int32} {X : XW} {r : XW}  (h : fX4_putWord l0 l1 l2 l3 l4 l5 l6 X = some r) : XM l G yX4_putWord cX4_putWord 7 none 0 0 0 0 [.ref l0, .int l1, .int l2, .int l3, .int l4, .int l5, .int l6] X (none, r) := by
  refine xm_of (own := RX4) (by decide) rfl (Nat.le_of_ble_eq_true rfl) ?_
  intro p e s m below meth c ls C0 W0 hret hnm hl
  have hx := C0.1
  have hb := C0.2.1
  have hl : lv_has ls 7 [(0, .ref l0), (1, .int l1), (2, .int l2), (3, .int l3), (4, .int l4), (5, .int l5), (6, .int l6)] := hl
  unfold fX4_putWord at h
  refine lv_aload_n hx hb dX4_putWord_0 rfl (lv_at hl 0 rfl) ?_
  refine lv_dup hx hb dX4_putWord_1 rfl ?_
  obtain ⟨v1, h2, h⟩ := ob h
  refine xr_getI C0 W0 cl_X4 7 (by decide) fl_X4_37 rfl h2 dX4_putWord_2 ?_
  refine lv_iload_n hx hb dX4_putWord_5 rfl (lv_at hl 2 rfl) ?_
  refine lv_aload_n hx hb dX4_putWord_6 rfl (lv_at hl 0 rfl) ?_
  obtain ⟨q3, h4, h⟩ := ob h
  refine xr_getR C0 W0 cl_X4 0 (by decide) fl_X4_9 rfl h4 dX4_putWord_7 ?_
  refine lv_iload_n hx hb dX4_putWord_10 rfl (lv_at hl 1 rfl) ?_
  obtain ⟨v5, h6, h⟩ := ob h
  refine xr_iald C0 W0 h6 dX4_putWord_11 ?_
  refine lv_isub hx hb dX4_putWord_12 ?_
  refine lv_iadd hx hb dX4_putWord_13 ?_
  obtain ⟨X7, h8, h⟩ := ob h
  refine xr_putI C0 W0 cl_X4 7 (by decide) fl_X4_37 rfl rfl rfl (by decide) h8 dX4_putWord_14 (fun H locs W0 => ?_)
  refine lv_aload_n hx hb dX4_putWord_17 rfl (lv_at hl 0 rfl) ?_
  obtain ⟨q9, h10, h⟩ := ob h
  refine xr_getR C0 W0 cl_X4 0 (by decide) fl_X4_9 rfl h10 dX4_putWord_18 ?_
  refine lv_iload_n hx hb dX4_putWord_21 rfl (lv_at hl 1 rfl) ?_
  refine lv_iload_n hx hb dX4_putWord_22 rfl (lv_at hl 2 rfl) ?_
  obtain ⟨X11, h12, h⟩ := ob h
  refine xr_iast C0 W0 h12 dX4_putWord_23 (fun H locs W0 => ?_)
  refine lv_aload_n hx hb dX4_putWord_24 rfl (lv_at hl 0 rfl) ?_
  obtain ⟨q13, h14, h⟩ := ob h
  refine xr_getR C0 W0 cl_X4 1 (by decide) fl_X4_15 rfl h14 dX4_putWord_25 ?_
  refine lv_iload_n hx hb dX4_putWord_28 rfl (lv_at hl 1 rfl) ?_
  refine lv_iload_n hx hb dX4_putWord_29 rfl (lv_at hl 3 rfl) ?_
  obtain ⟨X15, h16, h⟩ := ob h
  refine xr_iast C0 W0 h16 dX4_putWord_30 (fun H locs W0 => ?_)
  refine lv_aload_n hx hb dX4_putWord_31 rfl (lv_at hl 0 rfl) ?_
  obtain ⟨q17, h18, h⟩ := ob h
  refine xr_getR C0 W0 cl_X4 2 (by decide) fl_X4_18 rfl h18 dX4_putWord_32 ?_
  refine lv_iload_n hx hb dX4_putWord_35 rfl (lv_at hl 1 rfl) ?_
  refine lv_iload hx hb dX4_putWord_36 (lv_at hl 4 rfl) ?_
  obtain ⟨X19, h20, h⟩ := ob h
  refine xr_iast C0 W0 h20 dX4_putWord_38 (fun H locs W0 => ?_)
  refine lv_aload_n hx hb dX4_putWord_39 rfl (lv_at hl 0 rfl) ?_
  obtain ⟨q21, h22, h⟩ := ob h
  refine xr_getR C0 W0 cl_X4 3 (by decide) fl_X4_21 rfl h22 dX4_putWord_40 ?_
  refine lv_iload_n hx hb dX4_putWord_43 rfl (lv_at hl 1 rfl) ?_
  refine lv_iload hx hb dX4_putWord_44 (lv_at hl 5 rfl) ?_
  obtain ⟨X23, h24, h⟩ := ob h
  refine xr_zast C0 W0 h24 dX4_putWord_46 (fun H locs W0 => ?_)
  refine lv_aload_n hx hb dX4_putWord_47 rfl (lv_at hl 0 rfl) ?_
  obtain ⟨q25, h26, h⟩ := ob h
  refine xr_getR C0 W0 cl_X4 4 (by decide) fl_X4_25 rfl h26 dX4_putWord_48 ?_
  refine lv_iload_n hx hb dX4_putWord_51 rfl (lv_at hl 1 rfl) ?_
  refine lv_iload hx hb dX4_putWord_52 (lv_at hl 6 rfl) ?_
  obtain ⟨X27, h28, h⟩ := ob h
  refine xr_zast C0 W0 h28 dX4_putWord_54 (fun H locs W0 => ?_)
  exact xr_vret C0 W0 hret (Option.some.inj h).symm dX4_putWord_55
def fX4_becomeLike_l2_b (rec : Int32 → XW → Option (XW)) (l0 : Nat) (l1 : Nat) (l2 : Int32) (X : XW) : Option (XW) :=
  gI X l1 4 6 >>= fun v1 =>
  if (v1 ≤ l2 : Prop) then (some (X))
  else (gR X l1 4 0 >>= fun q3 =>
    aI X q3 1 l2 >>= fun v5 =>
    gR X l1 4 1 >>= fun q7 =>
    aI X q7 1 l2 >>= fun v9 =>
    gR X l1 4 2 >>= fun q11 =>
    aI X q11 1 l2 >>= fun v13 =>
    gR X l1 4 3 >>= fun q15 =>
    aI X q15 3 l2 >>= fun v17 =>
    gR X l1 4 4 >>= fun q19 =>
    aI X q19 3 l2 >>= fun v21 =>
    gK X l0 4 >>= fun u23 =>
    fX4_putWord l0 l2 v5 v9 v13 v17 v21 X >>= fun X25 =>
    rec (l2 + 1) X25)
def fX4_becomeLike_l2 (l0 : Nat) (l1 : Nat) (n : Nat) : Int32 → XW → Option (XW) := iter (fun rec => fX4_becomeLike_l2_b rec l0 l1) (fun _ _ => none) n
def fX4_becomeLike_l69_b (rec : Int32 → XW → Option (XW)) (l0 : Nat) (l1 : Nat) (l2 : Int32) (X : XW) : Option (XW) :=
  if (3 ≤ l2 : Prop) then (some (X))
  else (gR X l1 4 5 >>= fun q1 =>
    aQ X q1 6 l2 >>= fun q3 =>
    gR X l0 4 5 >>= fun q5 =>
    aQ X q5 6 l2 >>= fun q7 =>
    cpI X q3 0 q7 0 80 >>= fun X9 =>
    rec (l2 + 1) X9)
def fX4_becomeLike_l69 (l0 : Nat) (l1 : Nat) (n : Nat) : Int32 → XW → Option (XW) := iter (fun rec => fX4_becomeLike_l69_b rec l0 l1) (fun _ _ => none) n
def fX4_becomeLike (l0 : Nat) (l1 : Nat) (X : XW) : Option (XW) :=
  fX4_becomeLike_l2 l0 l1 FU 0 X >>= fun r1 =>
  gI r1 l1 4 6 >>= fun v3 =>
  pI r1 l0 4 6 v3 >>= fun X5 =>
  gI X5 l1 4 8 >>= fun v7 =>
  pI X5 l0 4 8 v7 >>= fun X9 =>
  fX4_becomeLike_l69 l0 l1 FU 0 X9 >>= fun r11 =>
  some r11
theorem tX4_becomeLike_l2_b {p : Program} {l : Launch} {e : Env} {s : State} {m : MethodId} {args : Array Value} {below : List Frame} {meth : Method} {c : Code} {G : XG} {X0 : XW} (C0 : XC p s m args meth c RX4 cX4_becomeLike 3 G) (hret : meth.sig.returnType = none) {r : XW} {l0 : Nat} {l1 : Nat} {Q : State → Prop} {rec : Int32 → XW → Option (XW)} (hrec : ∀ {y2 : Int32} {X : XW} {H : Heap} {locs : List Loc} {ls : Array Slot}, XD G X0 X s H locs → lv_has ls 3 [(0, .ref l0), (1, .ref l1), (2, .int y2)] → rec y2 X = some r → W p l e { frames := 1, cells := 0, slots := 0, locals := 60 } s m args below meth c H locs 0 0 Q (F0 m 2 ls [])) (hK : ∀ {H : Heap} {locs : List Loc} {ls : Array Slot}, XD G X0 r s H locs → lv_has ls 3 [(0, .ref l0), (1, .ref l1)] → W p l e { frames := 1, cells := 0, slots := 0, locals := 60 } s m args below meth c H locs 0 0 Q (F0 m 51 ls []))  {l2 : Int32} {X : XW} {H : Heap} {locs : List Loc} {ls : Array Slot} (W0 : XD G X0 X s H locs) (hl : lv_has ls 3 [(0, .ref l0), (1, .ref l1), (2, .int l2)]) (h : fX4_becomeLike_l2_b rec l0 l1 l2 X = some r) : W p l e { frames := 1, cells := 0, slots := 0, locals := 60 } s m args below meth c H locs 0 0 Q (F0 m 2 ls []) := by
  have hx := C0.1
  have hb := C0.2.1
  unfold fX4_becomeLike_l2_b at h
  refine lv_iload_n hx hb dX4_becomeLike_2 rfl (lv_at hl 2 rfl) ?_
  refine lv_aload_n hx hb dX4_becomeLike_3 rfl (lv_at hl 1 rfl) ?_
  obtain ⟨v1, h2, h⟩ := ob h
  refine xr_getI C0 W0 cl_X4 6 (by decide) fl_X4_33 rfl h2 dX4_becomeLike_4 ?_
  refine lv_icmp_ge (tgt := 51) hx hb dX4_becomeLike_7 (by decide) (fun hcq => ?_) (fun hcq => ?_)
  · have h := it_t hcq h
    cases h
    exact hK W0 (lv_sub hl [0, 1] rfl)
  · have h := it_f hcq h
    refine lv_aload_n hx hb dX4_becomeLike_10 rfl (lv_at hl 0 rfl) ?_
    refine lv_iload_n hx hb dX4_becomeLike_11 rfl (lv_at hl 2 rfl) ?_
    refine lv_aload_n hx hb dX4_becomeLike_12 rfl (lv_at hl 1 rfl) ?_
    obtain ⟨q3, h4, h⟩ := ob h
    refine xr_getR C0 W0 cl_X4 0 (by decide) fl_X4_9 rfl h4 dX4_becomeLike_13 ?_
    refine lv_iload_n hx hb dX4_becomeLike_16 rfl (lv_at hl 2 rfl) ?_
    obtain ⟨v5, h6, h⟩ := ob h
    refine xr_iald C0 W0 h6 dX4_becomeLike_17 ?_
    refine lv_aload_n hx hb dX4_becomeLike_18 rfl (lv_at hl 1 rfl) ?_
    obtain ⟨q7, h8, h⟩ := ob h
    refine xr_getR C0 W0 cl_X4 1 (by decide) fl_X4_15 rfl h8 dX4_becomeLike_19 ?_
    refine lv_iload_n hx hb dX4_becomeLike_22 rfl (lv_at hl 2 rfl) ?_
    obtain ⟨v9, h10, h⟩ := ob h
    refine xr_iald C0 W0 h10 dX4_becomeLike_23 ?_
    refine lv_aload_n hx hb dX4_becomeLike_24 rfl (lv_at hl 1 rfl) ?_
    obtain ⟨q11, h12, h⟩ := ob h
    refine xr_getR C0 W0 cl_X4 2 (by decide) fl_X4_18 rfl h12 dX4_becomeLike_25 ?_
    refine lv_iload_n hx hb dX4_becomeLike_28 rfl (lv_at hl 2 rfl) ?_
    obtain ⟨v13, h14, h⟩ := ob h
    refine xr_iald C0 W0 h14 dX4_becomeLike_29 ?_
    refine lv_aload_n hx hb dX4_becomeLike_30 rfl (lv_at hl 1 rfl) ?_
    obtain ⟨q15, h16, h⟩ := ob h
    refine xr_getR C0 W0 cl_X4 3 (by decide) fl_X4_21 rfl h16 dX4_becomeLike_31 ?_
    refine lv_iload_n hx hb dX4_becomeLike_34 rfl (lv_at hl 2 rfl) ?_
    obtain ⟨v17, h18, h⟩ := ob h
    refine xr_zald C0 W0 h18 dX4_becomeLike_35 ?_
    refine lv_aload_n hx hb dX4_becomeLike_36 rfl (lv_at hl 1 rfl) ?_
    obtain ⟨q19, h20, h⟩ := ob h
    refine xr_getR C0 W0 cl_X4 4 (by decide) fl_X4_25 rfl h20 dX4_becomeLike_37 ?_
    refine lv_iload_n hx hb dX4_becomeLike_40 rfl (lv_at hl 2 rfl) ?_
    obtain ⟨v21, h22, h⟩ := ob h
    refine xr_zald C0 W0 h22 dX4_becomeLike_41 ?_
    obtain ⟨u23, h24, h⟩ := ob h
    obtain ⟨X25, h26, h⟩ := ob h
    refine xr_V (As := [.int l2, .int v5, .int v9, .int v13, .int v17, .int v21]) (rest := []) C0 W0 (ctX4_putWord l G h26) (gK_of h24) (rr := (RX4, TX4, 9)) rfl rfl mc_X4_putWord mv_X4_putWord ml_X4_52 ⟨by decide, by decide⟩ rfl hl.1 rfl (Nat.le_of_ble_eq_true rfl) ⟨by decide, by decide⟩ dX4_becomeLike_42 (fun H locs W0 => ?_)
    refine W.cs (cells' := 0) (slots' := 0) rfl rfl ?_
    refine W.eq (g2 := F0 m 45 ls []) rfl ?_
    refine lv_iinc (v := (l2 + 1)) (lv' := [(2, .int (l2 + 1)), (0, .ref l0), (1, .ref l1)]) hx hb dX4_becomeLike_45 hl (k := 2) rfl (ii (by decide)) (by decide) rfl (fun ls hl => ?_)
    refine lv_goto (tgt := 2) hx hb dX4_becomeLike_48 (by decide) ?_
    exact hrec W0 (lv_sub hl [1, 2, 0] rfl) h
theorem tX4_becomeLike_l2 {p : Program} {l : Launch} {e : Env} {s : State} {m : MethodId} {args : Array Value} {below : List Frame} {meth : Method} {c : Code} {G : XG} {X0 : XW} (C0 : XC p s m args meth c RX4 cX4_becomeLike 3 G) (hret : meth.sig.returnType = none) {r : XW} {l0 : Nat} {l1 : Nat} {Q : State → Prop} (hK : ∀ {H : Heap} {locs : List Loc} {ls : Array Slot}, XD G X0 r s H locs → lv_has ls 3 [(0, .ref l0), (1, .ref l1)] → W p l e { frames := 1, cells := 0, slots := 0, locals := 60 } s m args below meth c H locs 0 0 Q (F0 m 51 ls [])) : ∀ (n : Nat) {y2 : Int32} {X : XW} {H : Heap} {locs : List Loc} {ls : Array Slot}, XD G X0 X s H locs → lv_has ls 3 [(0, .ref l0), (1, .ref l1), (2, .int y2)] → fX4_becomeLike_l2 l0 l1 n y2 X = some r → W p l e { frames := 1, cells := 0, slots := 0, locals := 60 } s m args below meth c H locs 0 0 Q (F0 m 2 ls []) := by
  intro n
  induction n with
  | zero =>
    intro y2 X H locs ls W0 hl h
    cases h
  | succ n ih =>
    intro y2 X H locs ls W0 hl h
    exact tX4_becomeLike_l2_b C0 hret (rec := fX4_becomeLike_l2 l0 l1 n) (fun W0 hl h => ih W0 hl h) hK W0 hl h
theorem tX4_becomeLike_l69_b {p : Program} {l : Launch} {e : Env} {s : State} {m : MethodId} {args : Array Value} {below : List Frame} {meth : Method} {c : Code} {G : XG} {X0 : XW} (C0 : XC p s m args meth c RX4 cX4_becomeLike 3 G) (hret : meth.sig.returnType = none) {r : XW} {l0 : Nat} {l1 : Nat} {Q : State → Prop} {rec : Int32 → XW → Option (XW)} (hrec : ∀ {y2 : Int32} {X : XW} {H : Heap} {locs : List Loc} {ls : Array Slot}, XD G X0 X s H locs → lv_has ls 3 [(0, .ref l0), (1, .ref l1), (2, .int y2)] → rec y2 X = some r → W p l e { frames := 1, cells := 0, slots := 0, locals := 60 } s m args below meth c H locs 0 0 Q (F0 m 69 ls [])) (hK : ∀ {H : Heap} {locs : List Loc} {ls : Array Slot}, XD G X0 r s H locs → lv_has ls 3 [] → W p l e { frames := 1, cells := 0, slots := 0, locals := 60 } s m args below meth c H locs 0 0 Q (F0 m 99 ls []))  {l2 : Int32} {X : XW} {H : Heap} {locs : List Loc} {ls : Array Slot} (W0 : XD G X0 X s H locs) (hl : lv_has ls 3 [(0, .ref l0), (1, .ref l1), (2, .int l2)]) (h : fX4_becomeLike_l69_b rec l0 l1 l2 X = some r) : W p l e { frames := 1, cells := 0, slots := 0, locals := 60 } s m args below meth c H locs 0 0 Q (F0 m 69 ls []) := by
  have hx := C0.1
  have hb := C0.2.1
  unfold fX4_becomeLike_l69_b at h
  refine lv_iload_n hx hb dX4_becomeLike_69 rfl (lv_at hl 2 rfl) ?_
  refine lv_iconst (v := 3) hx hb dX4_becomeLike_70 (by decide) ?_
  refine lv_icmp_ge (tgt := 99) hx hb dX4_becomeLike_71 (by decide) (fun hcq => ?_) (fun hcq => ?_)
  · have h := it_t hcq h
    cases h
    exact hK W0 (lv_sub hl [] rfl)
  · have h := it_f hcq h
    refine lv_aload_n hx hb dX4_becomeLike_74 rfl (lv_at hl 1 rfl) ?_
    obtain ⟨q1, h2, h⟩ := ob h
    refine xr_getR C0 W0 cl_X4 5 (by decide) fl_X4_30 rfl h2 dX4_becomeLike_75 ?_
    refine lv_iload_n hx hb dX4_becomeLike_78 rfl (lv_at hl 2 rfl) ?_
    obtain ⟨q3, h4, h⟩ := ob h
    refine xr_aldq C0 W0 6 (by decide) rfl rfl h4 dX4_becomeLike_79 ?_
    refine lv_iconst (v := 0) hx hb dX4_becomeLike_80 (by decide) ?_
    refine lv_aload_n hx hb dX4_becomeLike_81 rfl (lv_at hl 0 rfl) ?_
    obtain ⟨q5, h6, h⟩ := ob h
    refine xr_getR C0 W0 cl_X4 5 (by decide) fl_X4_30 rfl h6 dX4_becomeLike_82 ?_
    refine lv_iload_n hx hb dX4_becomeLike_85 rfl (lv_at hl 2 rfl) ?_
    obtain ⟨q7, h8, h⟩ := ob h
    refine xr_aldq C0 W0 6 (by decide) rfl rfl h8 dX4_becomeLike_86 ?_
    refine lv_iconst (v := 0) hx hb dX4_becomeLike_87 (by decide) ?_
    refine lv_bipush (v := 80) hx hb dX4_becomeLike_88 (by decide) ?_
    obtain ⟨X9, h10, h⟩ := ob h
    refine xr_copy C0 W0 hl.1 (xws_t 339 (by decide +kernel) rfl) h10 (by decide) (Nat.le_of_ble_eq_true rfl) dX4_becomeLike_90 (fun H locs W0 => ?_)
    refine lv_iinc (v := (l2 + 1)) (lv' := [(2, .int (l2 + 1)), (0, .ref l0), (1, .ref l1)]) hx hb dX4_becomeLike_93 hl (k := 2) rfl (ii (by decide)) (by decide) rfl (fun ls hl => ?_)
    refine lv_goto (tgt := 69) hx hb dX4_becomeLike_96 (by decide) ?_
    exact hrec W0 (lv_sub hl [1, 2, 0] rfl) h
theorem tX4_becomeLike_l69 {p : Program} {l : Launch} {e : Env} {s : State} {m : MethodId} {args : Array Value} {below : List Frame} {meth : Method} {c : Code} {G : XG} {X0 : XW} (C0 : XC p s m args meth c RX4 cX4_becomeLike 3 G) (hret : meth.sig.returnType = none) {r : XW} {l0 : Nat} {l1 : Nat} {Q : State → Prop} (hK : ∀ {H : Heap} {locs : List Loc} {ls : Array Slot}, XD G X0 r s H locs → lv_has ls 3 [] → W p l e { frames := 1, cells := 0, slots := 0, locals := 60 } s m args below meth c H locs 0 0 Q (F0 m 99 ls [])) : ∀ (n : Nat) {y2 : Int32} {X : XW} {H : Heap} {locs : List Loc} {ls : Array Slot}, XD G X0 X s H locs → lv_has ls 3 [(0, .ref l0), (1, .ref l1), (2, .int y2)] → fX4_becomeLike_l69 l0 l1 n y2 X = some r → W p l e { frames := 1, cells := 0, slots := 0, locals := 60 } s m args below meth c H locs 0 0 Q (F0 m 69 ls []) := by
  intro n
  induction n with
  | zero =>
    intro y2 X H locs ls W0 hl h
    cases h
  | succ n ih =>
    intro y2 X H locs ls W0 hl h
    exact tX4_becomeLike_l69_b C0 hret (rec := fX4_becomeLike_l69 l0 l1 n) (fun W0 hl h => ih W0 hl h) hK W0 hl h
theorem ctX4_becomeLike (l : Launch) (G : XG) {l0 : Nat} {l1 : Nat} {X : XW} {r : XW}  (h : fX4_becomeLike l0 l1 X = some r) : XM l G yX4_becomeLike cX4_becomeLike 3 none 1 60 0 0 [.ref l0, .ref l1] X (none, r) := by
  refine xm_of (own := RX4) (by decide) rfl (Nat.le_of_ble_eq_true rfl) ?_
  intro p e s m below meth c ls C0 W0 hret hnm hl
  have hx := C0.1
  have hb := C0.2.1
  have hl : lv_has ls 3 [(0, .ref l0), (1, .ref l1)] := hl
  unfold fX4_becomeLike at h
  refine lv_iconst (v := 0) hx hb dX4_becomeLike_0 (by decide) ?_
  refine lv_istore_n (lv' := [(2, .int 0), (0, .ref l0), (1, .ref l1)]) hx hb dX4_becomeLike_1 rfl hl (by decide) rfl (fun ls hl => ?_)
  obtain ⟨r1, h2, h⟩ := ob h
  refine tX4_becomeLike_l2 C0 hret (fun {H} {locs} {ls} W0 hl => ?_) FU W0 (lv_sub hl [1, 2, 0] rfl) h2
  refine lv_aload_n hx hb dX4_becomeLike_51 rfl (lv_at hl 0 rfl) ?_
  refine lv_aload_n hx hb dX4_becomeLike_52 rfl (lv_at hl 1 rfl) ?_
  obtain ⟨v3, h4, h⟩ := ob h
  refine xr_getI C0 W0 cl_X4 6 (by decide) fl_X4_33 rfl h4 dX4_becomeLike_53 ?_
  obtain ⟨X5, h6, h⟩ := ob h
  refine xr_putI C0 W0 cl_X4 6 (by decide) fl_X4_33 rfl rfl rfl (by decide) h6 dX4_becomeLike_56 (fun H locs W0 => ?_)
  refine lv_aload_n hx hb dX4_becomeLike_59 rfl (lv_at hl 0 rfl) ?_
  refine lv_aload_n hx hb dX4_becomeLike_60 rfl (lv_at hl 1 rfl) ?_
  obtain ⟨v7, h8, h⟩ := ob h
  refine xr_getI C0 W0 cl_X4 8 (by decide) fl_X4_40 rfl h8 dX4_becomeLike_61 ?_
  obtain ⟨X9, h10, h⟩ := ob h
  refine xr_putI C0 W0 cl_X4 8 (by decide) fl_X4_40 rfl rfl rfl (by decide) h10 dX4_becomeLike_64 (fun H locs W0 => ?_)
  refine lv_iconst (v := 0) hx hb dX4_becomeLike_67 (by decide) ?_
  refine lv_istore_n (lv' := [(2, .int 0), (0, .ref l0), (1, .ref l1)]) hx hb dX4_becomeLike_68 rfl hl (by decide) rfl (fun ls hl => ?_)
  obtain ⟨r11, h12, h⟩ := ob h
  refine tX4_becomeLike_l69 C0 hret (fun {H} {locs} {ls} W0 hl => ?_) FU W0 (lv_sub hl [1, 2, 0] rfl) h12
  exact xr_vret C0 W0 hret (Option.some.inj h).symm dX4_becomeLike_99
def fX6_init (l0 : Nat) (X : XW) : Option (XW) :=
  fX3_init ((nO X 3).1) (nO X 3).2 >>= fun X1 =>
  pR X1 l0 6 0 ((nO X 3).1) >>= fun X3 =>
  pR (nM X3 14 80).2 l0 6 1 ((nM X3 14 80).1) >>= fun X5 =>
  pI X5 l0 6 2 (-1) >>= fun X7 =>
  pI X7 l0 6 3 0 >>= fun X9 =>
  pZ X9 l0 6 4 1 >>= fun X11 =>
  some X11
theorem ctX6_init (l : Launch) (G : XG) {l0 : Nat} {X : XW} {r : XW}  (h : fX6_init l0 X = some r) : XM l G yX6_init cX6_init 1 none 2 120 23 1255 [.ref l0] X (none, r) := by
  refine xm_of (own := RX6) (by decide) rfl (Nat.le_of_ble_eq_true rfl) ?_
  intro p e s m below meth c ls C0 W0 hret hin hl
  have hx := C0.1
  have hb := C0.2.1
  have hl : lv_has ls 1 [(0, .ref l0)] := hl
  unfold fX6_init at h
  refine lv_aload_n hx hb dX6_init_0 rfl (lv_at hl 0 rfl) ?_
  refine W.objInit hx hb C0.2.2.2.1 (C0.2.2.2.2.1 _ (xws_t 72 (by decide +kernel) rfl)) (C0.2.2.2.2.1 _ xoi1) (C0.2.2.2.2.1 _ xoi2) rfl (by rw [C0.2.2.1]; exact hl.1) rfl dX6_init_1 (by decide) (Nat.le_of_ble_eq_true rfl) ?_
  refine W.eq (g2 := F0 m 4 ls []) rfl ?_
  refine lv_aload_n hx hb dX6_init_4 rfl (lv_at hl 0 rfl) ?_
  refine xr_new C0 W0 cl_X3 (by decide) dv_X3 kl_X6_9 kn_X3.1 kn_X3.2 (by decide) (by decide) dX6_init_5 (fun H W0 => ?_)
  refine W.cs (cells' := 1) (slots' := 8) rfl rfl ?_
  refine lv_dup hx hb dX6_init_8 rfl ?_
  obtain ⟨X1, h2, h⟩ := ob h
  refine xr_IN (As := []) (rest := [.ref ((nO X 3).1), .ref l0]) C0 W0 (ctX3_init l G h2) mc_X3_init mi_X3_init (xnw_75 C0.2.2.2.2.2.1.2) ⟨by decide, by decide⟩ rfl hl.1 rfl (Nat.le_of_ble_eq_true rfl) ⟨by decide, by decide⟩ dX6_init_9 (fun H locs W0 => ?_)
  refine W.cs (cells' := 8) (slots' := 121) rfl rfl ?_
  refine W.eq (g2 := F0 m 12 ls [.ref ((nO X 3).1), .ref l0]) rfl ?_
  obtain ⟨X3, h4, h⟩ := ob h
  refine xr_putR C0 W0 cl_X6 0 (by decide) fl_X6_12 (Or.inr ⟨rfl, hin, rfl⟩) rfl ⟨rfl, rfl⟩ (by decide) h4 dX6_init_12 (fun H locs W0 => ?_)
  refine lv_aload_n hx hb dX6_init_15 rfl (lv_at hl 0 rfl) ?_
  refine lv_bipush (v := 14) hx hb dX6_init_16 (by decide) ?_
  refine lv_bipush (v := 80) hx hb dX6_init_18 (by decide) ?_
  refine xr_mna C0 W0 14 80 (xws_t 116 (by decide +kernel) rfl) rfl rfl (by decide) (by decide) (by decide) (by decide) dX6_init_20 (fun H W0 => ?_)
  refine W.cs (cells' := 23) (slots' := 1255) rfl rfl ?_
  obtain ⟨X5, h6, h⟩ := ob h
  refine xr_putR C0 W0 cl_X6 1 (by decide) fl_X6_20 (Or.inr ⟨rfl, hin, rfl⟩) rfl ⟨rfl, rfl⟩ (by decide) h6 dX6_init_24 (fun H locs W0 => ?_)
  refine lv_aload_n hx hb dX6_init_27 rfl (lv_at hl 0 rfl) ?_
  refine lv_iconst (v := (-1)) hx hb dX6_init_28 (by decide) ?_
  obtain ⟨X7, h8, h⟩ := ob h
  refine xr_putI C0 W0 cl_X6 2 (by decide) fl_X6_23 rfl rfl rfl (by decide) h8 dX6_init_29 (fun H locs W0 => ?_)
  refine lv_aload_n hx hb dX6_init_32 rfl (lv_at hl 0 rfl) ?_
  refine lv_iconst (v := 0) hx hb dX6_init_33 (by decide) ?_
  obtain ⟨X9, h10, h⟩ := ob h
  refine xr_putI C0 W0 cl_X6 3 (by decide) fl_X6_27 rfl rfl rfl (by decide) h10 dX6_init_34 (fun H locs W0 => ?_)
  refine lv_aload_n hx hb dX6_init_37 rfl (lv_at hl 0 rfl) ?_
  refine lv_iconst (v := 1) hx hb dX6_init_38 (by decide) ?_
  obtain ⟨X11, h12, h⟩ := ob h
  refine xr_putZ C0 W0 cl_X6 4 (by decide) fl_X6_30 rfl rfl rfl (by decide) h12 dX6_init_39 (fun H locs W0 => ?_)
  exact xr_vret C0 W0 hret (Option.some.inj h).symm dX6_init_42
