def fX10_findPhrases_j98 (rec : Int32 → XW → Option (XW)) (l0 : Nat) (l1 : Int32) (l2 : Int32) (l3 : Int32) (s0 : Int32) (s1 : Int32) (s2 : Nat) (X : XW) : Option (XW) :=
  uI X s2 s1 s0 >>= fun X1 =>
  rec (l3 + 1) X1
def fX10_findPhrases_j87 (rec : Int32 → XW → Option (XW)) (l0 : Nat) (l1 : Int32) (l2 : Int32) (l3 : Int32) (l4 : Int32) (s0 : Int32) (s1 : Nat) (X : XW) : Option (XW) :=
  fX10_findPhrases_j98 rec l0 l1 l2 l3 l4 s0 s1 X
def fX10_findPhrases_l36_b (rec : Int32 → XW → Option (XW)) (l0 : Nat) (l1 : Int32) (l2 : Int32) (l3 : Int32) (X : XW) : Option (XW) :=
  gR X l0 10 30 >>= fun q1 =>
  aI X q1 1 l1 >>= fun v3 =>
  if (v3 < l3 : Prop) then (some (X))
  else (gK X l0 10 >>= fun u5 =>
    fX10_costOf l0 l1 l2 l3 X >>= fun r7 =>
    gR r7.2 l0 10 41 >>= fun q9 =>
    aI r7.2 q9 1 l3 >>= fun v11 =>
    gR r7.2 l0 10 41 >>= fun q13 =>
    gR r7.2 l0 10 41 >>= fun q15 =>
    aI r7.2 q15 1 l2 >>= fun v17 =>
    if (v17 < 0 : Prop) then (fX10_findPhrases_j87 rec l0 l1 l2 l3 (r7.1 + v11) l2 q13 r7.2)
    else (gR r7.2 l0 10 41 >>= fun q19 =>
      aI r7.2 q19 1 l2 >>= fun v21 =>
      if (v21 ≤ (r7.1 + v11) : Prop) then (gR r7.2 l0 10 41 >>= fun q23 =>
        aI r7.2 q23 1 l2 >>= fun v25 =>
        fX10_findPhrases_j98 rec l0 l1 l2 l3 v25 l2 q13 r7.2)
      else (fX10_findPhrases_j87 rec l0 l1 l2 l3 (r7.1 + v11) l2 q13 r7.2)))
def fX10_findPhrases_l36 (l0 : Nat) (l1 : Int32) (l2 : Int32) (n : Nat) : Int32 → XW → Option (XW) := iter (fun rec => fX10_findPhrases_l36_b rec l0 l1 l2) (fun _ _ => none) n
def fX10_findPhrases_l21_b (rec : Int32 → XW → Option (XW)) (l0 : Nat) (l1 : Int32) (l2 : Int32) (X : XW) : Option (XW) :=
  if (l2 < 0 : Prop) then (some (X))
  else (gR X l0 10 41 >>= fun q1 =>
    uI X q1 l2 (-1) >>= fun X3 =>
    fX10_findPhrases_l36 l0 l1 l2 FU (l2 + 1) X3 >>= fun r5 =>
    rec (l2 + (-1)) r5)
def fX10_findPhrases_l21 (l0 : Nat) (l1 : Int32) (n : Nat) : Int32 → XW → Option (XW) := iter (fun rec => fX10_findPhrases_l21_b rec l0 l1) (fun _ _ => none) n
def fX10_findPhrases_l135_b (rec : Int32 → XW → Option (Int32 × XW)) (l0 : Nat) (l1 : Int32) (l2 : Int32) (l3 : Int32) (X : XW) : Option (Int32 × XW) :=
  gK X l0 10 >>= fun u1 =>
  fX10_costOf l0 l1 l2 l3 X >>= fun r3 =>
  gR r3.2 l0 10 41 >>= fun q5 =>
  aI r3.2 q5 1 l3 >>= fun v7 =>
  gR r3.2 l0 10 41 >>= fun q9 =>
  aI r3.2 q9 1 l2 >>= fun v11 =>
  if ((r3.1 + v7) = v11 : Prop) then (some (l3, r3.2))
  else (rec (l3 + (-1)) r3.2)
def fX10_findPhrases_l135 (l0 : Nat) (l1 : Int32) (l2 : Int32) (n : Nat) : Int32 → XW → Option (Int32 × XW) := iter (fun rec => fX10_findPhrases_l135_b rec l0 l1 l2) (fun _ _ => none) n
def fX10_findPhrases_l204_b (rec : Int32 → XW → Option (XW)) (l0 : Nat) (l1 : Int32) (l3 : Int32) (l4 : Int32) (X : XW) : Option (XW) :=
  if (((16 * l1) + l3) ≤ l4 : Prop) then (some (X))
  else (gR X l0 10 45 >>= fun q1 =>
    gI X l0 10 42 >>= fun v3 =>
    aI X q1 1 v3 >>= fun v5 =>
    gR X l0 10 31 >>= fun q7 =>
    aI X q7 1 l4 >>= fun v9 =>
    uI X q1 v3 (v5 + v9) >>= fun X11 =>
    rec (l4 + 1) X11)
def fX10_findPhrases_l204 (l0 : Nat) (l1 : Int32) (l3 : Int32) (n : Nat) : Int32 → XW → Option (XW) := iter (fun rec => fX10_findPhrases_l204_b rec l0 l1 l3) (fun _ _ => none) n
def fX10_findPhrases_l118_b (rec : Int32 → XW → Option (XW)) (l0 : Nat) (l1 : Int32) (l2 : Int32) (X : XW) : Option (XW) :=
  gR X l0 10 30 >>= fun q1 =>
  aI X q1 1 l1 >>= fun v3 =>
  if (v3 ≤ l2 : Prop) then (some (X))
  else (gR X l0 10 30 >>= fun q5 =>
    aI X q5 1 l1 >>= fun v7 =>
    fX10_findPhrases_l135 l0 l1 l2 FU v7 X >>= fun r9 =>
    gR r9.2 l0 10 43 >>= fun q11 =>
    gI r9.2 l0 10 42 >>= fun v13 =>
    uI r9.2 q11 v13 l2 >>= fun X15 =>
    gR X15 l0 10 44 >>= fun q17 =>
    gI X15 l0 10 42 >>= fun v19 =>
    uI X15 q17 v19 (r9.1 - l2) >>= fun X21 =>
    gR X21 l0 10 45 >>= fun q23 =>
    gI X21 l0 10 42 >>= fun v25 =>
    uI X21 q23 v25 0 >>= fun X27 =>
    fX10_findPhrases_l204 l0 l1 r9.1 FU ((16 * l1) + l2) X27 >>= fun r29 =>
    gI r29 l0 10 42 >>= fun v31 =>
    pI r29 l0 10 42 (v31 + 1) >>= fun X33 =>
    rec r9.1 X33)
def fX10_findPhrases_l118 (l0 : Nat) (l1 : Int32) (n : Nat) : Int32 → XW → Option (XW) := iter (fun rec => fX10_findPhrases_l118_b rec l0 l1) (fun _ _ => none) n
def fX10_findPhrases (l0 : Nat) (l1 : Int32) (X : XW) : Option (XW) :=
  gR X l0 10 41 >>= fun q1 =>
  gR X l0 10 30 >>= fun q3 =>
  aI X q3 1 l1 >>= fun v5 =>
  uI X q1 v5 0 >>= fun X7 =>
  gR X7 l0 10 30 >>= fun q9 =>
  aI X7 q9 1 l1 >>= fun v11 =>
  fX10_findPhrases_l21 l0 l1 FU (v11 - 1) X7 >>= fun r13 =>
  pI r13 l0 10 42 0 >>= fun X15 =>
  fX10_findPhrases_l118 l0 l1 FU 0 X15 >>= fun r17 =>
  some r17
theorem tX10_findPhrases_j98 {p : Program} {l : Launch} {e : Env} {s : State} {m : MethodId} {args : Array Value} {below : List Frame} {meth : Method} {c : Code} {G : XG} {X0 : XW} (C0 : XC p s m args meth c RX10 cX10_findPhrases 5 G) (hret : meth.sig.returnType = none) {r : XW} {l0 : Nat} {l1 : Int32} {l2 : Int32} {Q : State → Prop} {rec : Int32 → XW → Option (XW)} (hrec : ∀ {y3 : Int32} {X : XW} {H : Heap} {locs : List Loc} {ls : Array Slot}, XD G X0 X s H locs → lv_has ls 5 [(0, .ref l0), (1, .int l1), (2, .int l2), (3, .int y3)] → rec y3 X = some r → W p l e { frames := 1, cells := 0, slots := 0, locals := 60 } s m args below meth c H locs 0 0 Q (F0 m 36 ls [])) (hK : ∀ {H : Heap} {locs : List Loc} {ls : Array Slot}, XD G X0 r s H locs → lv_has ls 5 [(0, .ref l0), (1, .int l1), (2, .int l2)] → W p l e { frames := 1, cells := 0, slots := 0, locals := 60 } s m args below meth c H locs 0 0 Q (F0 m 105 ls []))  {l3 : Int32} {s0 : Int32} {s1 : Int32} {s2 : Nat} {X : XW} {H : Heap} {locs : List Loc} {ls : Array Slot} (W0 : XD G X0 X s H locs) (hl : lv_has ls 5 [(0, .ref l0), (1, .int l1), (2, .int l2), (3, .int l3)]) (h : fX10_findPhrases_j98 rec l0 l1 l2 l3 s0 s1 s2 X = some r) : W p l e { frames := 1, cells := 0, slots := 0, locals := 60 } s m args below meth c H locs 0 0 Q (F0 m 98 ls [.int s0, .int s1, .ref s2]) := by
  have hx := C0.1
  have hb := C0.2.1
  unfold fX10_findPhrases_j98 at h
  obtain ⟨X1, h2, h⟩ := ob h
  refine xr_iast C0 W0 h2 dX10_findPhrases_98 (fun H locs W0 => ?_)
  refine lv_iinc (v := (l3 + 1)) (lv' := [(3, .int (l3 + 1)), (0, .ref l0), (1, .int l1), (2, .int l2)]) hx hb dX10_findPhrases_99 hl (k := 3) rfl (ii (by decide)) (by decide) rfl (fun ls hl => ?_)
  refine lv_goto (tgt := 36) hx hb dX10_findPhrases_102 (by decide) ?_
  exact hrec W0 (lv_sub hl [1, 2, 3, 0] rfl) h
theorem tX10_findPhrases_j87 {p : Program} {l : Launch} {e : Env} {s : State} {m : MethodId} {args : Array Value} {below : List Frame} {meth : Method} {c : Code} {G : XG} {X0 : XW} (C0 : XC p s m args meth c RX10 cX10_findPhrases 5 G) (hret : meth.sig.returnType = none) {r : XW} {l0 : Nat} {l1 : Int32} {l2 : Int32} {Q : State → Prop} {rec : Int32 → XW → Option (XW)} (hrec : ∀ {y3 : Int32} {X : XW} {H : Heap} {locs : List Loc} {ls : Array Slot}, XD G X0 X s H locs → lv_has ls 5 [(0, .ref l0), (1, .int l1), (2, .int l2), (3, .int y3)] → rec y3 X = some r → W p l e { frames := 1, cells := 0, slots := 0, locals := 60 } s m args below meth c H locs 0 0 Q (F0 m 36 ls [])) (hK : ∀ {H : Heap} {locs : List Loc} {ls : Array Slot}, XD G X0 r s H locs → lv_has ls 5 [(0, .ref l0), (1, .int l1), (2, .int l2)] → W p l e { frames := 1, cells := 0, slots := 0, locals := 60 } s m args below meth c H locs 0 0 Q (F0 m 105 ls []))  {l3 : Int32} {l4 : Int32} {s0 : Int32} {s1 : Nat} {X : XW} {H : Heap} {locs : List Loc} {ls : Array Slot} (W0 : XD G X0 X s H locs) (hl : lv_has ls 5 [(0, .ref l0), (1, .int l1), (2, .int l2), (3, .int l3), (4, .int l4)]) (h : fX10_findPhrases_j87 rec l0 l1 l2 l3 l4 s0 s1 X = some r) : W p l e { frames := 1, cells := 0, slots := 0, locals := 60 } s m args below meth c H locs 0 0 Q (F0 m 87 ls [.int s0, .ref s1]) := by
  have hx := C0.1
  have hb := C0.2.1
  unfold fX10_findPhrases_j87 at h
  refine lv_iload hx hb dX10_findPhrases_87 (lv_at hl 4 rfl) ?_
  refine lv_goto (tgt := 98) hx hb dX10_findPhrases_89 (by decide) ?_
  exact tX10_findPhrases_j98 C0 hret hrec hK W0 (lv_sub hl [0, 1, 2, 3] rfl) h
theorem tX10_findPhrases_l36_b {p : Program} {l : Launch} {e : Env} {s : State} {m : MethodId} {args : Array Value} {below : List Frame} {meth : Method} {c : Code} {G : XG} {X0 : XW} (C0 : XC p s m args meth c RX10 cX10_findPhrases 5 G) (hret : meth.sig.returnType = none) {r : XW} {l0 : Nat} {l1 : Int32} {l2 : Int32} {Q : State → Prop} {rec : Int32 → XW → Option (XW)} (hrec : ∀ {y3 : Int32} {X : XW} {H : Heap} {locs : List Loc} {ls : Array Slot}, XD G X0 X s H locs → lv_has ls 5 [(0, .ref l0), (1, .int l1), (2, .int l2), (3, .int y3)] → rec y3 X = some r → W p l e { frames := 1, cells := 0, slots := 0, locals := 60 } s m args below meth c H locs 0 0 Q (F0 m 36 ls [])) (hK : ∀ {H : Heap} {locs : List Loc} {ls : Array Slot}, XD G X0 r s H locs → lv_has ls 5 [(0, .ref l0), (1, .int l1), (2, .int l2)] → W p l e { frames := 1, cells := 0, slots := 0, locals := 60 } s m args below meth c H locs 0 0 Q (F0 m 105 ls []))  {l3 : Int32} {X : XW} {H : Heap} {locs : List Loc} {ls : Array Slot} (W0 : XD G X0 X s H locs) (hl : lv_has ls 5 [(0, .ref l0), (1, .int l1), (2, .int l2), (3, .int l3)]) (h : fX10_findPhrases_l36_b rec l0 l1 l2 l3 X = some r) : W p l e { frames := 1, cells := 0, slots := 0, locals := 60 } s m args below meth c H locs 0 0 Q (F0 m 36 ls []) := by
  have hx := C0.1
  have hb := C0.2.1
  unfold fX10_findPhrases_l36_b at h
  refine lv_iload_n hx hb dX10_findPhrases_36 rfl (lv_at hl 3 rfl) ?_
  refine lv_aload_n hx hb dX10_findPhrases_37 rfl (lv_at hl 0 rfl) ?_
  obtain ⟨q1, h2, h⟩ := ob h
  refine xr_getR C0 W0 cl_X10 30 (by decide) fl_X10_120 rfl h2 dX10_findPhrases_38 ?_
  refine lv_iload_n hx hb dX10_findPhrases_41 rfl (lv_at hl 1 rfl) ?_
  obtain ⟨v3, h4, h⟩ := ob h
  refine xr_iald C0 W0 h4 dX10_findPhrases_42 ?_
  refine lv_icmp_gt (tgt := 105) hx hb dX10_findPhrases_43 (by decide) (fun hcq => ?_) (fun hcq => ?_)
  · have h := it_t hcq h
    cases h
    exact hK W0 (lv_sub hl [0, 1, 2] rfl)
  · have h := it_f hcq h
    refine lv_aload_n hx hb dX10_findPhrases_46 rfl (lv_at hl 0 rfl) ?_
    refine lv_iload_n hx hb dX10_findPhrases_47 rfl (lv_at hl 1 rfl) ?_
    refine lv_iload_n hx hb dX10_findPhrases_48 rfl (lv_at hl 2 rfl) ?_
    refine lv_iload_n hx hb dX10_findPhrases_49 rfl (lv_at hl 3 rfl) ?_
    obtain ⟨u5, h6, h⟩ := ob h
    obtain ⟨r7, h8, h⟩ := ob h
    refine xr_V (As := [.int l1, .int l2, .int l3]) (rest := []) C0 W0 (ctX10_costOf l G h8) (gK_of h6) (rr := (RX10, TX10, 57)) rfl rfl mc_X10_costOf mv_X10_costOf ml_X10_296 ⟨by decide, by decide⟩ rfl hl.1 rfl (Nat.le_of_ble_eq_true rfl) ⟨by decide, by decide⟩ dX10_findPhrases_50 (fun H locs W0 => ?_)
    refine W.cs (cells' := 0) (slots' := 0) rfl rfl ?_
    refine W.eq (g2 := F0 m 53 ls [.int r7.1]) rfl ?_
    refine lv_aload_n hx hb dX10_findPhrases_53 rfl (lv_at hl 0 rfl) ?_
    obtain ⟨q9, h10, h⟩ := ob h
    refine xr_getR C0 W0 cl_X10 41 (by decide) fl_X10_153 rfl h10 dX10_findPhrases_54 ?_
    refine lv_iload_n hx hb dX10_findPhrases_57 rfl (lv_at hl 3 rfl) ?_
    obtain ⟨v11, h12, h⟩ := ob h
    refine xr_iald C0 W0 h12 dX10_findPhrases_58 ?_
    refine lv_iadd hx hb dX10_findPhrases_59 ?_
    refine lv_istore (lv' := [(4, .int (r7.1 + v11)), (0, .ref l0), (1, .int l1), (2, .int l2), (3, .int l3)]) hx hb dX10_findPhrases_60 hl (by decide) rfl (fun ls hl => ?_)
    refine lv_aload_n hx hb dX10_findPhrases_62 rfl (lv_at hl 1 rfl) ?_
    obtain ⟨q13, h14, h⟩ := ob h
    refine xr_getR C0 W0 cl_X10 41 (by decide) fl_X10_153 rfl h14 dX10_findPhrases_63 ?_
    refine lv_iload_n hx hb dX10_findPhrases_66 rfl (lv_at hl 3 rfl) ?_
    refine lv_aload_n hx hb dX10_findPhrases_67 rfl (lv_at hl 1 rfl) ?_
    obtain ⟨q15, h16, h⟩ := ob h
    refine xr_getR C0 W0 cl_X10 41 (by decide) fl_X10_153 rfl h16 dX10_findPhrases_68 ?_
    refine lv_iload_n hx hb dX10_findPhrases_71 rfl (lv_at hl 3 rfl) ?_
    obtain ⟨v17, h18, h⟩ := ob h
    refine xr_iald C0 W0 h18 dX10_findPhrases_72 ?_
    refine lv_if_lt (tgt := 87) hx hb dX10_findPhrases_73 (by decide) (fun hcq => ?_) (fun hcq => ?_)
    · have h := it_t hcq h
      exact tX10_findPhrases_j87 C0 hret hrec hK W0 (lv_sub hl [1, 2, 3, 4, 0] rfl) h
    · have h := it_f hcq h
      refine lv_iload hx hb dX10_findPhrases_76 (lv_at hl 0 rfl) ?_
      refine lv_aload_n hx hb dX10_findPhrases_78 rfl (lv_at hl 1 rfl) ?_
      obtain ⟨q19, h20, h⟩ := ob h
      refine xr_getR C0 W0 cl_X10 41 (by decide) fl_X10_153 rfl h20 dX10_findPhrases_79 ?_
      refine lv_iload_n hx hb dX10_findPhrases_82 rfl (lv_at hl 3 rfl) ?_
      obtain ⟨v21, h22, h⟩ := ob h
      refine xr_iald C0 W0 h22 dX10_findPhrases_83 ?_
      refine lv_icmp_ge (tgt := 92) hx hb dX10_findPhrases_84 (by decide) (fun hcq => ?_) (fun hcq => ?_)
      · have h := it_t hcq h
        refine lv_aload_n hx hb dX10_findPhrases_92 rfl (lv_at hl 1 rfl) ?_
        obtain ⟨q23, h24, h⟩ := ob h
        refine xr_getR C0 W0 cl_X10 41 (by decide) fl_X10_153 rfl h24 dX10_findPhrases_93 ?_
        refine lv_iload_n hx hb dX10_findPhrases_96 rfl (lv_at hl 3 rfl) ?_
        obtain ⟨v25, h26, h⟩ := ob h
        refine xr_iald C0 W0 h26 dX10_findPhrases_97 ?_
        exact tX10_findPhrases_j98 C0 hret hrec hK W0 (lv_sub hl [1, 2, 3, 4] rfl) h
      · have h := it_f hcq h
        exact tX10_findPhrases_j87 C0 hret hrec hK W0 (lv_sub hl [1, 2, 3, 4, 0] rfl) h
theorem tX10_findPhrases_l36 {p : Program} {l : Launch} {e : Env} {s : State} {m : MethodId} {args : Array Value} {below : List Frame} {meth : Method} {c : Code} {G : XG} {X0 : XW} (C0 : XC p s m args meth c RX10 cX10_findPhrases 5 G) (hret : meth.sig.returnType = none) {r : XW} {l0 : Nat} {l1 : Int32} {l2 : Int32} {Q : State → Prop} (hK : ∀ {H : Heap} {locs : List Loc} {ls : Array Slot}, XD G X0 r s H locs → lv_has ls 5 [(0, .ref l0), (1, .int l1), (2, .int l2)] → W p l e { frames := 1, cells := 0, slots := 0, locals := 60 } s m args below meth c H locs 0 0 Q (F0 m 105 ls [])) : ∀ (n : Nat) {y3 : Int32} {X : XW} {H : Heap} {locs : List Loc} {ls : Array Slot}, XD G X0 X s H locs → lv_has ls 5 [(0, .ref l0), (1, .int l1), (2, .int l2), (3, .int y3)] → fX10_findPhrases_l36 l0 l1 l2 n y3 X = some r → W p l e { frames := 1, cells := 0, slots := 0, locals := 60 } s m args below meth c H locs 0 0 Q (F0 m 36 ls []) := by
  intro n
  induction n with
  | zero =>
    intro y3 X H locs ls W0 hl h
    cases h
  | succ n ih =>
    intro y3 X H locs ls W0 hl h
    exact tX10_findPhrases_l36_b C0 hret (rec := fX10_findPhrases_l36 l0 l1 l2 n) (fun W0 hl h => ih W0 hl h) hK W0 hl h
theorem tX10_findPhrases_l21_b {p : Program} {l : Launch} {e : Env} {s : State} {m : MethodId} {args : Array Value} {below : List Frame} {meth : Method} {c : Code} {G : XG} {X0 : XW} (C0 : XC p s m args meth c RX10 cX10_findPhrases 5 G) (hret : meth.sig.returnType = none) {r : XW} {l0 : Nat} {l1 : Int32} {Q : State → Prop} {rec : Int32 → XW → Option (XW)} (hrec : ∀ {y2 : Int32} {X : XW} {H : Heap} {locs : List Loc} {ls : Array Slot}, XD G X0 X s H locs → lv_has ls 5 [(0, .ref l0), (1, .int l1), (2, .int y2)] → rec y2 X = some r → W p l e { frames := 1, cells := 0, slots := 0, locals := 60 } s m args below meth c H locs 0 0 Q (F0 m 21 ls [])) (hK : ∀ {H : Heap} {locs : List Loc} {ls : Array Slot}, XD G X0 r s H locs → lv_has ls 5 [(0, .ref l0), (1, .int l1)] → W p l e { frames := 1, cells := 0, slots := 0, locals := 60 } s m args below meth c H locs 0 0 Q (F0 m 111 ls []))  {l2 : Int32} {X : XW} {H : Heap} {locs : List Loc} {ls : Array Slot} (W0 : XD G X0 X s H locs) (hl : lv_has ls 5 [(0, .ref l0), (1, .int l1), (2, .int l2)]) (h : fX10_findPhrases_l21_b rec l0 l1 l2 X = some r) : W p l e { frames := 1, cells := 0, slots := 0, locals := 60 } s m args below meth c H locs 0 0 Q (F0 m 21 ls []) := by
  have hx := C0.1
  have hb := C0.2.1
  unfold fX10_findPhrases_l21_b at h
  refine lv_iload_n hx hb dX10_findPhrases_21 rfl (lv_at hl 2 rfl) ?_
  refine lv_if_lt (tgt := 111) hx hb dX10_findPhrases_22 (by decide) (fun hcq => ?_) (fun hcq => ?_)
  · have h := it_t hcq h
    cases h
    exact hK W0 (lv_sub hl [0, 1] rfl)
  · have h := it_f hcq h
    refine lv_aload_n hx hb dX10_findPhrases_25 rfl (lv_at hl 0 rfl) ?_
    obtain ⟨q1, h2, h⟩ := ob h
    refine xr_getR C0 W0 cl_X10 41 (by decide) fl_X10_153 rfl h2 dX10_findPhrases_26 ?_
    refine lv_iload_n hx hb dX10_findPhrases_29 rfl (lv_at hl 2 rfl) ?_
    refine lv_iconst (v := (-1)) hx hb dX10_findPhrases_30 (by decide) ?_
    obtain ⟨X3, h4, h⟩ := ob h
    refine xr_iast C0 W0 h4 dX10_findPhrases_31 (fun H locs W0 => ?_)
    refine lv_iload_n hx hb dX10_findPhrases_32 rfl (lv_at hl 2 rfl) ?_
    refine lv_iconst (v := 1) hx hb dX10_findPhrases_33 (by decide) ?_
    refine lv_iadd hx hb dX10_findPhrases_34 ?_
    refine lv_istore_n (lv' := [(3, .int (l2 + 1)), (0, .ref l0), (1, .int l1), (2, .int l2)]) hx hb dX10_findPhrases_35 rfl hl (by decide) rfl (fun ls hl => ?_)
    obtain ⟨r5, h6, h⟩ := ob h
    refine tX10_findPhrases_l36 C0 hret (fun {H} {locs} {ls} W0 hl => ?_) FU W0 (lv_sub hl [1, 2, 3, 0] rfl) h6
    refine lv_iinc (v := (l2 + (-1))) (lv' := [(2, .int (l2 + (-1))), (0, .ref l0), (1, .int l1)]) hx hb dX10_findPhrases_105 hl (k := 2) rfl (ii (by decide)) (by decide) rfl (fun ls hl => ?_)
    refine lv_goto (tgt := 21) hx hb dX10_findPhrases_108 (by decide) ?_
    exact hrec W0 (lv_sub hl [1, 2, 0] rfl) h
theorem tX10_findPhrases_l21 {p : Program} {l : Launch} {e : Env} {s : State} {m : MethodId} {args : Array Value} {below : List Frame} {meth : Method} {c : Code} {G : XG} {X0 : XW} (C0 : XC p s m args meth c RX10 cX10_findPhrases 5 G) (hret : meth.sig.returnType = none) {r : XW} {l0 : Nat} {l1 : Int32} {Q : State → Prop} (hK : ∀ {H : Heap} {locs : List Loc} {ls : Array Slot}, XD G X0 r s H locs → lv_has ls 5 [(0, .ref l0), (1, .int l1)] → W p l e { frames := 1, cells := 0, slots := 0, locals := 60 } s m args below meth c H locs 0 0 Q (F0 m 111 ls [])) : ∀ (n : Nat) {y2 : Int32} {X : XW} {H : Heap} {locs : List Loc} {ls : Array Slot}, XD G X0 X s H locs → lv_has ls 5 [(0, .ref l0), (1, .int l1), (2, .int y2)] → fX10_findPhrases_l21 l0 l1 n y2 X = some r → W p l e { frames := 1, cells := 0, slots := 0, locals := 60 } s m args below meth c H locs 0 0 Q (F0 m 21 ls []) := by
  intro n
  induction n with
  | zero =>
    intro y2 X H locs ls W0 hl h
    cases h
  | succ n ih =>
    intro y2 X H locs ls W0 hl h
    exact tX10_findPhrases_l21_b C0 hret (rec := fX10_findPhrases_l21 l0 l1 n) (fun W0 hl h => ih W0 hl h) hK W0 hl h
theorem tX10_findPhrases_l135_b {p : Program} {l : Launch} {e : Env} {s : State} {m : MethodId} {args : Array Value} {below : List Frame} {meth : Method} {c : Code} {G : XG} {X0 : XW} (C0 : XC p s m args meth c RX10 cX10_findPhrases 5 G) (hret : meth.sig.returnType = none) {r : Int32 × XW} {l0 : Nat} {l1 : Int32} {l2 : Int32} {Q : State → Prop} {rec : Int32 → XW → Option (Int32 × XW)} (hrec : ∀ {y3 : Int32} {X : XW} {H : Heap} {locs : List Loc} {ls : Array Slot}, XD G X0 X s H locs → lv_has ls 5 [(0, .ref l0), (1, .int l1), (2, .int l2), (3, .int y3)] → rec y3 X = some r → W p l e { frames := 1, cells := 0, slots := 0, locals := 60 } s m args below meth c H locs 0 0 Q (F0 m 135 ls [])) (hK : ∀ {H : Heap} {locs : List Loc} {ls : Array Slot}, XD G X0 r.2 s H locs → lv_has ls 5 [(0, .ref l0), (1, .int l1), (2, .int l2), (3, .int r.1)] → W p l e { frames := 1, cells := 0, slots := 0, locals := 60 } s m args below meth c H locs 0 0 Q (F0 m 164 ls []))  {l3 : Int32} {X : XW} {H : Heap} {locs : List Loc} {ls : Array Slot} (W0 : XD G X0 X s H locs) (hl : lv_has ls 5 [(0, .ref l0), (1, .int l1), (2, .int l2), (3, .int l3)]) (h : fX10_findPhrases_l135_b rec l0 l1 l2 l3 X = some r) : W p l e { frames := 1, cells := 0, slots := 0, locals := 60 } s m args below meth c H locs 0 0 Q (F0 m 135 ls []) := by
  have hx := C0.1
  have hb := C0.2.1
  unfold fX10_findPhrases_l135_b at h
  refine lv_aload_n hx hb dX10_findPhrases_135 rfl (lv_at hl 0 rfl) ?_
  refine lv_iload_n hx hb dX10_findPhrases_136 rfl (lv_at hl 1 rfl) ?_
  refine lv_iload_n hx hb dX10_findPhrases_137 rfl (lv_at hl 2 rfl) ?_
  refine lv_iload_n hx hb dX10_findPhrases_138 rfl (lv_at hl 3 rfl) ?_
  obtain ⟨u1, h2, h⟩ := ob h
  obtain ⟨r3, h4, h⟩ := ob h
  refine xr_V (As := [.int l1, .int l2, .int l3]) (rest := []) C0 W0 (ctX10_costOf l G h4) (gK_of h2) (rr := (RX10, TX10, 57)) rfl rfl mc_X10_costOf mv_X10_costOf ml_X10_296 ⟨by decide, by decide⟩ rfl hl.1 rfl (Nat.le_of_ble_eq_true rfl) ⟨by decide, by decide⟩ dX10_findPhrases_139 (fun H locs W0 => ?_)
  refine W.cs (cells' := 0) (slots' := 0) rfl rfl ?_
  refine W.eq (g2 := F0 m 142 ls [.int r3.1]) rfl ?_
  refine lv_aload_n hx hb dX10_findPhrases_142 rfl (lv_at hl 0 rfl) ?_
  obtain ⟨q5, h6, h⟩ := ob h
  refine xr_getR C0 W0 cl_X10 41 (by decide) fl_X10_153 rfl h6 dX10_findPhrases_143 ?_
  refine lv_iload_n hx hb dX10_findPhrases_146 rfl (lv_at hl 3 rfl) ?_
  obtain ⟨v7, h8, h⟩ := ob h
  refine xr_iald C0 W0 h8 dX10_findPhrases_147 ?_
  refine lv_iadd hx hb dX10_findPhrases_148 ?_
  refine lv_aload_n hx hb dX10_findPhrases_149 rfl (lv_at hl 0 rfl) ?_
  obtain ⟨q9, h10, h⟩ := ob h
  refine xr_getR C0 W0 cl_X10 41 (by decide) fl_X10_153 rfl h10 dX10_findPhrases_150 ?_
  refine lv_iload_n hx hb dX10_findPhrases_153 rfl (lv_at hl 2 rfl) ?_
  obtain ⟨v11, h12, h⟩ := ob h
  refine xr_iald C0 W0 h12 dX10_findPhrases_154 ?_
  refine lv_icmp_eq (tgt := 164) hx hb dX10_findPhrases_155 (by decide) (fun hcq => ?_) (fun hcq => ?_)
  · have h := it_t hcq h
    cases h
    exact hK W0 (lv_sub hl [0, 1, 2, 3] rfl)
  · have h := it_f hcq h
    refine lv_iinc (v := (l3 + (-1))) (lv' := [(3, .int (l3 + (-1))), (0, .ref l0), (1, .int l1), (2, .int l2)]) hx hb dX10_findPhrases_158 hl (k := 3) rfl (ii (by decide)) (by decide) rfl (fun ls hl => ?_)
    refine lv_goto (tgt := 135) hx hb dX10_findPhrases_161 (by decide) ?_
    exact hrec W0 (lv_sub hl [1, 2, 3, 0] rfl) h
theorem tX10_findPhrases_l135 {p : Program} {l : Launch} {e : Env} {s : State} {m : MethodId} {args : Array Value} {below : List Frame} {meth : Method} {c : Code} {G : XG} {X0 : XW} (C0 : XC p s m args meth c RX10 cX10_findPhrases 5 G) (hret : meth.sig.returnType = none) {r : Int32 × XW} {l0 : Nat} {l1 : Int32} {l2 : Int32} {Q : State → Prop} (hK : ∀ {H : Heap} {locs : List Loc} {ls : Array Slot}, XD G X0 r.2 s H locs → lv_has ls 5 [(0, .ref l0), (1, .int l1), (2, .int l2), (3, .int r.1)] → W p l e { frames := 1, cells := 0, slots := 0, locals := 60 } s m args below meth c H locs 0 0 Q (F0 m 164 ls [])) : ∀ (n : Nat) {y3 : Int32} {X : XW} {H : Heap} {locs : List Loc} {ls : Array Slot}, XD G X0 X s H locs → lv_has ls 5 [(0, .ref l0), (1, .int l1), (2, .int l2), (3, .int y3)] → fX10_findPhrases_l135 l0 l1 l2 n y3 X = some r → W p l e { frames := 1, cells := 0, slots := 0, locals := 60 } s m args below meth c H locs 0 0 Q (F0 m 135 ls []) := by
  intro n
  induction n with
  | zero =>
    intro y3 X H locs ls W0 hl h
    cases h
  | succ n ih =>
    intro y3 X H locs ls W0 hl h
    exact tX10_findPhrases_l135_b C0 hret (rec := fX10_findPhrases_l135 l0 l1 l2 n) (fun W0 hl h => ih W0 hl h) hK W0 hl h
theorem tX10_findPhrases_l204_b {p : Program} {l : Launch} {e : Env} {s : State} {m : MethodId} {args : Array Value} {below : List Frame} {meth : Method} {c : Code} {G : XG} {X0 : XW} (C0 : XC p s m args meth c RX10 cX10_findPhrases 5 G) (hret : meth.sig.returnType = none) {r : XW} {l0 : Nat} {l1 : Int32} {l3 : Int32} {Q : State → Prop} {rec : Int32 → XW → Option (XW)} (hrec : ∀ {y4 : Int32} {X : XW} {H : Heap} {locs : List Loc} {ls : Array Slot}, XD G X0 X s H locs → lv_has ls 5 [(0, .ref l0), (1, .int l1), (3, .int l3), (4, .int y4)] → rec y4 X = some r → W p l e { frames := 1, cells := 0, slots := 0, locals := 60 } s m args below meth c H locs 0 0 Q (F0 m 204 ls [])) (hK : ∀ {H : Heap} {locs : List Loc} {ls : Array Slot}, XD G X0 r s H locs → lv_has ls 5 [(0, .ref l0), (1, .int l1), (3, .int l3)] → W p l e { frames := 1, cells := 0, slots := 0, locals := 60 } s m args below meth c H locs 0 0 Q (F0 m 240 ls []))  {l4 : Int32} {X : XW} {H : Heap} {locs : List Loc} {ls : Array Slot} (W0 : XD G X0 X s H locs) (hl : lv_has ls 5 [(0, .ref l0), (1, .int l1), (3, .int l3), (4, .int l4)]) (h : fX10_findPhrases_l204_b rec l0 l1 l3 l4 X = some r) : W p l e { frames := 1, cells := 0, slots := 0, locals := 60 } s m args below meth c H locs 0 0 Q (F0 m 204 ls []) := by
  have hx := C0.1
  have hb := C0.2.1
  unfold fX10_findPhrases_l204_b at h
  refine lv_iload hx hb dX10_findPhrases_204 (lv_at hl 3 rfl) ?_
  refine lv_bipush (v := 16) hx hb dX10_findPhrases_206 (by decide) ?_
  refine lv_iload_n hx hb dX10_findPhrases_208 rfl (lv_at hl 1 rfl) ?_
  refine lv_imul hx hb dX10_findPhrases_209 ?_
  refine lv_iload_n hx hb dX10_findPhrases_210 rfl (lv_at hl 2 rfl) ?_
  refine lv_iadd hx hb dX10_findPhrases_211 ?_
  refine lv_icmp_ge (tgt := 240) hx hb dX10_findPhrases_212 (by decide) (fun hcq => ?_) (fun hcq => ?_)
  · have h := it_t hcq h
    cases h
    exact hK W0 (lv_sub hl [0, 1, 2] rfl)
  · have h := it_f hcq h
    refine lv_aload_n hx hb dX10_findPhrases_215 rfl (lv_at hl 0 rfl) ?_
    obtain ⟨q1, h2, h⟩ := ob h
    refine xr_getR C0 W0 cl_X10 45 (by decide) fl_X10_162 rfl h2 dX10_findPhrases_216 ?_
    refine lv_aload_n hx hb dX10_findPhrases_219 rfl (lv_at hl 0 rfl) ?_
    obtain ⟨v3, h4, h⟩ := ob h
    refine xr_getI C0 W0 cl_X10 42 (by decide) fl_X10_300 rfl h4 dX10_findPhrases_220 ?_
    refine lv_dup2_11 hx hb dX10_findPhrases_223 rfl rfl ?_
    obtain ⟨v5, h6, h⟩ := ob h
    refine xr_iald C0 W0 h6 dX10_findPhrases_224 ?_
    refine lv_aload_n hx hb dX10_findPhrases_225 rfl (lv_at hl 0 rfl) ?_
    obtain ⟨q7, h8, h⟩ := ob h
    refine xr_getR C0 W0 cl_X10 31 (by decide) fl_X10_123 rfl h8 dX10_findPhrases_226 ?_
    refine lv_iload hx hb dX10_findPhrases_229 (lv_at hl 3 rfl) ?_
    obtain ⟨v9, h10, h⟩ := ob h
    refine xr_iald C0 W0 h10 dX10_findPhrases_231 ?_
    refine lv_iadd hx hb dX10_findPhrases_232 ?_
    obtain ⟨X11, h12, h⟩ := ob h
    refine xr_iast C0 W0 h12 dX10_findPhrases_233 (fun H locs W0 => ?_)
    refine lv_iinc (v := (l4 + 1)) (lv' := [(4, .int (l4 + 1)), (0, .ref l0), (1, .int l1), (3, .int l3)]) hx hb dX10_findPhrases_234 hl (k := 3) rfl (ii (by decide)) (by decide) rfl (fun ls hl => ?_)
    refine lv_goto (tgt := 204) hx hb dX10_findPhrases_237 (by decide) ?_
    exact hrec W0 (lv_sub hl [1, 2, 3, 0] rfl) h
theorem tX10_findPhrases_l204 {p : Program} {l : Launch} {e : Env} {s : State} {m : MethodId} {args : Array Value} {below : List Frame} {meth : Method} {c : Code} {G : XG} {X0 : XW} (C0 : XC p s m args meth c RX10 cX10_findPhrases 5 G) (hret : meth.sig.returnType = none) {r : XW} {l0 : Nat} {l1 : Int32} {l3 : Int32} {Q : State → Prop} (hK : ∀ {H : Heap} {locs : List Loc} {ls : Array Slot}, XD G X0 r s H locs → lv_has ls 5 [(0, .ref l0), (1, .int l1), (3, .int l3)] → W p l e { frames := 1, cells := 0, slots := 0, locals := 60 } s m args below meth c H locs 0 0 Q (F0 m 240 ls [])) : ∀ (n : Nat) {y4 : Int32} {X : XW} {H : Heap} {locs : List Loc} {ls : Array Slot}, XD G X0 X s H locs → lv_has ls 5 [(0, .ref l0), (1, .int l1), (3, .int l3), (4, .int y4)] → fX10_findPhrases_l204 l0 l1 l3 n y4 X = some r → W p l e { frames := 1, cells := 0, slots := 0, locals := 60 } s m args below meth c H locs 0 0 Q (F0 m 204 ls []) := by
  intro n
  induction n with
  | zero =>
    intro y4 X H locs ls W0 hl h
    cases h
  | succ n ih =>
    intro y4 X H locs ls W0 hl h
    exact tX10_findPhrases_l204_b C0 hret (rec := fX10_findPhrases_l204 l0 l1 l3 n) (fun W0 hl h => ih W0 hl h) hK W0 hl h
theorem tX10_findPhrases_l118_b {p : Program} {l : Launch} {e : Env} {s : State} {m : MethodId} {args : Array Value} {below : List Frame} {meth : Method} {c : Code} {G : XG} {X0 : XW} (C0 : XC p s m args meth c RX10 cX10_findPhrases 5 G) (hret : meth.sig.returnType = none) {r : XW} {l0 : Nat} {l1 : Int32} {Q : State → Prop} {rec : Int32 → XW → Option (XW)} (hrec : ∀ {y2 : Int32} {X : XW} {H : Heap} {locs : List Loc} {ls : Array Slot}, XD G X0 X s H locs → lv_has ls 5 [(0, .ref l0), (1, .int l1), (2, .int y2)] → rec y2 X = some r → W p l e { frames := 1, cells := 0, slots := 0, locals := 60 } s m args below meth c H locs 0 0 Q (F0 m 118 ls [])) (hK : ∀ {H : Heap} {locs : List Loc} {ls : Array Slot}, XD G X0 r s H locs → lv_has ls 5 [] → W p l e { frames := 1, cells := 0, slots := 0, locals := 60 } s m args below meth c H locs 0 0 Q (F0 m 255 ls []))  {l2 : Int32} {X : XW} {H : Heap} {locs : List Loc} {ls : Array Slot} (W0 : XD G X0 X s H locs) (hl : lv_has ls 5 [(0, .ref l0), (1, .int l1), (2, .int l2)]) (h : fX10_findPhrases_l118_b rec l0 l1 l2 X = some r) : W p l e { frames := 1, cells := 0, slots := 0, locals := 60 } s m args below meth c H locs 0 0 Q (F0 m 118 ls []) := by
  have hx := C0.1
  have hb := C0.2.1
  unfold fX10_findPhrases_l118_b at h
  refine lv_iload_n hx hb dX10_findPhrases_118 rfl (lv_at hl 2 rfl) ?_
  refine lv_aload_n hx hb dX10_findPhrases_119 rfl (lv_at hl 0 rfl) ?_
  obtain ⟨q1, h2, h⟩ := ob h
  refine xr_getR C0 W0 cl_X10 30 (by decide) fl_X10_120 rfl h2 dX10_findPhrases_120 ?_
  refine lv_iload_n hx hb dX10_findPhrases_123 rfl (lv_at hl 1 rfl) ?_
  obtain ⟨v3, h4, h⟩ := ob h
  refine xr_iald C0 W0 h4 dX10_findPhrases_124 ?_
  refine lv_icmp_ge (tgt := 255) hx hb dX10_findPhrases_125 (by decide) (fun hcq => ?_) (fun hcq => ?_)
  · have h := it_t hcq h
    cases h
    exact hK W0 (lv_sub hl [] rfl)
  · have h := it_f hcq h
    refine lv_aload_n hx hb dX10_findPhrases_128 rfl (lv_at hl 0 rfl) ?_
    obtain ⟨q5, h6, h⟩ := ob h
    refine xr_getR C0 W0 cl_X10 30 (by decide) fl_X10_120 rfl h6 dX10_findPhrases_129 ?_
    refine lv_iload_n hx hb dX10_findPhrases_132 rfl (lv_at hl 1 rfl) ?_
    obtain ⟨v7, h8, h⟩ := ob h
    refine xr_iald C0 W0 h8 dX10_findPhrases_133 ?_
    refine lv_istore_n (lv' := [(3, .int v7), (0, .ref l0), (1, .int l1), (2, .int l2)]) hx hb dX10_findPhrases_134 rfl hl (by decide) rfl (fun ls hl => ?_)
    obtain ⟨r9, h10, h⟩ := ob h
    refine tX10_findPhrases_l135 C0 hret (fun {H} {locs} {ls} W0 hl => ?_) FU W0 (lv_sub hl [1, 2, 3, 0] rfl) h10
    refine lv_aload_n hx hb dX10_findPhrases_164 rfl (lv_at hl 0 rfl) ?_
    obtain ⟨q11, h12, h⟩ := ob h
    refine xr_getR C0 W0 cl_X10 43 (by decide) fl_X10_156 rfl h12 dX10_findPhrases_165 ?_
    refine lv_aload_n hx hb dX10_findPhrases_168 rfl (lv_at hl 0 rfl) ?_
    obtain ⟨v13, h14, h⟩ := ob h
    refine xr_getI C0 W0 cl_X10 42 (by decide) fl_X10_300 rfl h14 dX10_findPhrases_169 ?_
    refine lv_iload_n hx hb dX10_findPhrases_172 rfl (lv_at hl 2 rfl) ?_
    obtain ⟨X15, h16, h⟩ := ob h
    refine xr_iast C0 W0 h16 dX10_findPhrases_173 (fun H locs W0 => ?_)
    refine lv_aload_n hx hb dX10_findPhrases_174 rfl (lv_at hl 0 rfl) ?_
    obtain ⟨q17, h18, h⟩ := ob h
    refine xr_getR C0 W0 cl_X10 44 (by decide) fl_X10_159 rfl h18 dX10_findPhrases_175 ?_
    refine lv_aload_n hx hb dX10_findPhrases_178 rfl (lv_at hl 0 rfl) ?_
    obtain ⟨v19, h20, h⟩ := ob h
    refine xr_getI C0 W0 cl_X10 42 (by decide) fl_X10_300 rfl h20 dX10_findPhrases_179 ?_
    refine lv_iload_n hx hb dX10_findPhrases_182 rfl (lv_at hl 3 rfl) ?_
    refine lv_iload_n hx hb dX10_findPhrases_183 rfl (lv_at hl 2 rfl) ?_
    refine lv_isub hx hb dX10_findPhrases_184 ?_
    obtain ⟨X21, h22, h⟩ := ob h
    refine xr_iast C0 W0 h22 dX10_findPhrases_185 (fun H locs W0 => ?_)
    refine lv_aload_n hx hb dX10_findPhrases_186 rfl (lv_at hl 0 rfl) ?_
    obtain ⟨q23, h24, h⟩ := ob h
    refine xr_getR C0 W0 cl_X10 45 (by decide) fl_X10_162 rfl h24 dX10_findPhrases_187 ?_
    refine lv_aload_n hx hb dX10_findPhrases_190 rfl (lv_at hl 0 rfl) ?_
    obtain ⟨v25, h26, h⟩ := ob h
    refine xr_getI C0 W0 cl_X10 42 (by decide) fl_X10_300 rfl h26 dX10_findPhrases_191 ?_
    refine lv_iconst (v := 0) hx hb dX10_findPhrases_194 (by decide) ?_
    obtain ⟨X27, h28, h⟩ := ob h
    refine xr_iast C0 W0 h28 dX10_findPhrases_195 (fun H locs W0 => ?_)
    refine lv_bipush (v := 16) hx hb dX10_findPhrases_196 (by decide) ?_
    refine lv_iload_n hx hb dX10_findPhrases_198 rfl (lv_at hl 1 rfl) ?_
    refine lv_imul hx hb dX10_findPhrases_199 ?_
    refine lv_iload_n hx hb dX10_findPhrases_200 rfl (lv_at hl 2 rfl) ?_
    refine lv_iadd hx hb dX10_findPhrases_201 ?_
    refine lv_istore (lv' := [(4, .int ((16 * l1) + l2)), (0, .ref l0), (1, .int l1), (2, .int l2), (3, .int r9.1)]) hx hb dX10_findPhrases_202 hl (by decide) rfl (fun ls hl => ?_)
    obtain ⟨r29, h30, h⟩ := ob h
    refine tX10_findPhrases_l204 C0 hret (fun {H} {locs} {ls} W0 hl => ?_) FU W0 (lv_sub hl [1, 2, 4, 0] rfl) h30
    refine lv_aload_n hx hb dX10_findPhrases_240 rfl (lv_at hl 0 rfl) ?_
    refine lv_dup hx hb dX10_findPhrases_241 rfl ?_
    obtain ⟨v31, h32, h⟩ := ob h
    refine xr_getI C0 W0 cl_X10 42 (by decide) fl_X10_300 rfl h32 dX10_findPhrases_242 ?_
    refine lv_iconst (v := 1) hx hb dX10_findPhrases_245 (by decide) ?_
    refine lv_iadd hx hb dX10_findPhrases_246 ?_
    obtain ⟨X33, h34, h⟩ := ob h
    refine xr_putI C0 W0 cl_X10 42 (by decide) fl_X10_300 rfl rfl rfl (by decide) h34 dX10_findPhrases_247 (fun H locs W0 => ?_)
    refine lv_iload_n hx hb dX10_findPhrases_250 rfl (lv_at hl 2 rfl) ?_
    refine lv_istore_n (lv' := [(2, .int r9.1), (0, .ref l0), (1, .int l1), (3, .int r9.1)]) hx hb dX10_findPhrases_251 rfl hl (by decide) rfl (fun ls hl => ?_)
    refine lv_goto (tgt := 118) hx hb dX10_findPhrases_252 (by decide) ?_
    exact hrec W0 (lv_sub hl [1, 2, 0] rfl) h
theorem tX10_findPhrases_l118 {p : Program} {l : Launch} {e : Env} {s : State} {m : MethodId} {args : Array Value} {below : List Frame} {meth : Method} {c : Code} {G : XG} {X0 : XW} (C0 : XC p s m args meth c RX10 cX10_findPhrases 5 G) (hret : meth.sig.returnType = none) {r : XW} {l0 : Nat} {l1 : Int32} {Q : State → Prop} (hK : ∀ {H : Heap} {locs : List Loc} {ls : Array Slot}, XD G X0 r s H locs → lv_has ls 5 [] → W p l e { frames := 1, cells := 0, slots := 0, locals := 60 } s m args below meth c H locs 0 0 Q (F0 m 255 ls [])) : ∀ (n : Nat) {y2 : Int32} {X : XW} {H : Heap} {locs : List Loc} {ls : Array Slot}, XD G X0 X s H locs → lv_has ls 5 [(0, .ref l0), (1, .int l1), (2, .int y2)] → fX10_findPhrases_l118 l0 l1 n y2 X = some r → W p l e { frames := 1, cells := 0, slots := 0, locals := 60 } s m args below meth c H locs 0 0 Q (F0 m 118 ls []) := by
  intro n
  induction n with
  | zero =>
    intro y2 X H locs ls W0 hl h
    cases h
  | succ n ih =>
    intro y2 X H locs ls W0 hl h
    exact tX10_findPhrases_l118_b C0 hret (rec := fX10_findPhrases_l118 l0 l1 n) (fun W0 hl h => ih W0 hl h) hK W0 hl h
theorem ctX10_findPhrases (l : Launch) (G : XG) {l0 : Nat} {l1 : Int32} {X : XW} {r : XW}  (h : fX10_findPhrases l0 l1 X = some r) : XM l G yX10_findPhrases cX10_findPhrases 5 none 1 60 0 0 [.ref l0, .int l1] X (none, r) := by
  refine xm_of (own := RX10) (by decide) rfl (Nat.le_of_ble_eq_true rfl) ?_
  intro p e s m below meth c ls C0 W0 hret hnm hl
  have hx := C0.1
  have hb := C0.2.1
  have hl : lv_has ls 5 [(0, .ref l0), (1, .int l1)] := hl
  unfold fX10_findPhrases at h
  refine lv_aload_n hx hb dX10_findPhrases_0 rfl (lv_at hl 0 rfl) ?_
  obtain ⟨q1, h2, h⟩ := ob h
  refine xr_getR C0 W0 cl_X10 41 (by decide) fl_X10_153 rfl h2 dX10_findPhrases_1 ?_
  refine lv_aload_n hx hb dX10_findPhrases_4 rfl (lv_at hl 0 rfl) ?_
  obtain ⟨q3, h4, h⟩ := ob h
  refine xr_getR C0 W0 cl_X10 30 (by decide) fl_X10_120 rfl h4 dX10_findPhrases_5 ?_
  refine lv_iload_n hx hb dX10_findPhrases_8 rfl (lv_at hl 1 rfl) ?_
  obtain ⟨v5, h6, h⟩ := ob h
  refine xr_iald C0 W0 h6 dX10_findPhrases_9 ?_
  refine lv_iconst (v := 0) hx hb dX10_findPhrases_10 (by decide) ?_
  obtain ⟨X7, h8, h⟩ := ob h
  refine xr_iast C0 W0 h8 dX10_findPhrases_11 (fun H locs W0 => ?_)
  refine lv_aload_n hx hb dX10_findPhrases_12 rfl (lv_at hl 0 rfl) ?_
  obtain ⟨q9, h10, h⟩ := ob h
  refine xr_getR C0 W0 cl_X10 30 (by decide) fl_X10_120 rfl h10 dX10_findPhrases_13 ?_
  refine lv_iload_n hx hb dX10_findPhrases_16 rfl (lv_at hl 1 rfl) ?_
  obtain ⟨v11, h12, h⟩ := ob h
  refine xr_iald C0 W0 h12 dX10_findPhrases_17 ?_
  refine lv_iconst (v := 1) hx hb dX10_findPhrases_18 (by decide) ?_
  refine lv_isub hx hb dX10_findPhrases_19 ?_
  refine lv_istore_n (lv' := [(2, .int (v11 - 1)), (0, .ref l0), (1, .int l1)]) hx hb dX10_findPhrases_20 rfl hl (by decide) rfl (fun ls hl => ?_)
  obtain ⟨r13, h14, h⟩ := ob h
  refine tX10_findPhrases_l21 C0 hret (fun {H} {locs} {ls} W0 hl => ?_) FU W0 (lv_sub hl [1, 2, 0] rfl) h14
  refine lv_aload_n hx hb dX10_findPhrases_111 rfl (lv_at hl 0 rfl) ?_
  refine lv_iconst (v := 0) hx hb dX10_findPhrases_112 (by decide) ?_
  obtain ⟨X15, h16, h⟩ := ob h
  refine xr_putI C0 W0 cl_X10 42 (by decide) fl_X10_300 rfl rfl rfl (by decide) h16 dX10_findPhrases_113 (fun H locs W0 => ?_)
  refine lv_iconst (v := 0) hx hb dX10_findPhrases_116 (by decide) ?_
  refine lv_istore_n (lv' := [(2, .int 0), (0, .ref l0), (1, .int l1)]) hx hb dX10_findPhrases_117 rfl hl (by decide) rfl (fun ls hl => ?_)
  obtain ⟨r17, h18, h⟩ := ob h
  refine tX10_findPhrases_l118 C0 hret (fun {H} {locs} {ls} W0 hl => ?_) FU W0 (lv_sub hl [1, 2, 0] rfl) h18
  exact xr_vret C0 W0 hret (Option.some.inj h).symm dX10_findPhrases_255
def fX10_accents_j141 (rec : Int32 → Int32 → Int32 → Int32 → XW → Option (Int32 × Int32 × XW)) (l0 : Nat) (l1 : Int32) (l4 : Int32) (l5 : Int32) (l6 : Int32) (l8 : Int32) (s0 : Int32) (X : XW) : Option (Int32 × Int32 × XW) :=
  rec l5 l6 s0 (l8 + 1) X
def fX10_accents_j136 (rec : Int32 → Int32 → Int32 → Int32 → XW → Option (Int32 × Int32 × XW)) (l0 : Nat) (l1 : Int32) (l4 : Int32) (l5 : Int32) (l6 : Int32) (l8 : Int32) (X : XW) : Option (Int32 × Int32 × XW) :=
  fX10_accents_j141 rec l0 l1 l4 l5 l6 l8 1 X
def fX10_accents_j114 (rec : Int32 → Int32 → Int32 → Int32 → XW → Option (Int32 × Int32 × XW)) (l0 : Nat) (l1 : Int32) (l4 : Int32) (l5 : Int32) (l7 : Int32) (l8 : Int32) (s0 : Int32) (X : XW) : Option (Int32 × Int32 × XW) :=
  if (l7 = 0 : Prop) then (gR X l0 10 34 >>= fun q1 =>
    aI X q1 3 ((16 * l1) + l8) >>= fun v3 =>
    if (v3 = 0 : Prop) then (fX10_accents_j141 rec l0 l1 l4 l5 s0 l8 0 X)
    else (fX10_accents_j136 rec l0 l1 l4 l5 s0 l8 X))
  else (fX10_accents_j136 rec l0 l1 l4 l5 s0 l8 X)
def fX10_accents_j107 (rec : Int32 → Int32 → Int32 → Int32 → XW → Option (Int32 × Int32 × XW)) (l0 : Nat) (l1 : Int32) (l4 : Int32) (l5 : Int32) (l7 : Int32) (l8 : Int32) (X : XW) : Option (Int32 × Int32 × XW) :=
  fX10_accents_j114 rec l0 l1 l4 l5 l7 l8 l8 X
def fX10_accents_j112 (rec : Int32 → Int32 → Int32 → Int32 → XW → Option (Int32 × Int32 × XW)) (l0 : Nat) (l1 : Int32) (l4 : Int32) (l5 : Int32) (l6 : Int32) (l7 : Int32) (l8 : Int32) (X : XW) : Option (Int32 × Int32 × XW) :=
  fX10_accents_j114 rec l0 l1 l4 l5 l7 l8 l6 X
def fX10_accents_j75 (rec : Int32 → Int32 → Int32 → Int32 → XW → Option (Int32 × Int32 × XW)) (l0 : Nat) (l1 : Int32) (l4 : Int32) (l6 : Int32) (l7 : Int32) (l8 : Int32) (s0 : Int32) (s1 : Int32) (X : XW) : Option (Int32 × Int32 × XW) :=
  gR X l0 10 34 >>= fun q1 =>
  aI X q1 3 ((16 * l1) + l8) >>= fun v3 =>
  if (v3 = 0 : Prop) then (if (l7 = 0 : Prop) then (if (l8 = (l4 - 1) : Prop) then (fX10_accents_j107 rec l0 l1 l4 (s1 + s0) l7 l8 X)
      else (fX10_accents_j112 rec l0 l1 l4 (s1 + s0) l6 l7 l8 X))
    else (fX10_accents_j112 rec l0 l1 l4 (s1 + s0) l6 l7 l8 X))
  else (fX10_accents_j107 rec l0 l1 l4 (s1 + s0) l7 l8 X)
def fX10_accents_l32_b (rec : Int32 → Int32 → Int32 → Int32 → XW → Option (Int32 × Int32 × XW)) (l0 : Nat) (l1 : Int32) (l4 : Int32) (l5 : Int32) (l6 : Int32) (l7 : Int32) (l8 : Int32) (X : XW) : Option (Int32 × Int32 × XW) :=
  if (l4 ≤ l8 : Prop) then (some (l5, l6, X))
  else (gR X l0 10 46 >>= fun q1 =>
    gR X l0 10 35 >>= fun q3 =>
    aI X q3 3 ((16 * l1) + l8) >>= fun v5 =>
    uZ X q1 l8 v5 >>= fun X7 =>
    gR X7 l0 10 46 >>= fun q9 =>
    aI X7 q9 3 l8 >>= fun v11 =>
    if (v11 = 0 : Prop) then (fX10_accents_j75 rec l0 l1 l4 l6 l7 l8 0 l5 X7)
    else (fX10_accents_j75 rec l0 l1 l4 l6 l7 l8 1 l5 X7))
def fX10_accents_l32 (l0 : Nat) (l1 : Int32) (l4 : Int32) (n : Nat) : Int32 → Int32 → Int32 → Int32 → XW → Option (Int32 × Int32 × XW) := iter (fun rec => fX10_accents_l32_b rec l0 l1 l4) (fun _ _ _ _ _ => none) n
def fX10_accents (l0 : Nat) (l1 : Int32) (l2 : Int32) (X : XW) : Option (Int32 × XW) :=
  gR X l0 10 43 >>= fun q1 =>
  aI X q1 1 l2 >>= fun v3 =>
  gR X l0 10 44 >>= fun q5 =>
  aI X q5 1 l2 >>= fun v7 =>
  fX10_accents_l32 l0 l1 (v3 + v7) FU 0 ((v3 + v7) - 1) 0 v3 X >>= fun r9 =>
  if (r9.1 = 0 : Prop) then (gR r9.2.2 l0 10 46 >>= fun q11 =>
    uZ r9.2.2 q11 r9.2.1 1 >>= fun X13 =>
    some (1, X13))
  else (some (r9.1, r9.2.2))
theorem tX10_accents_j141 {p : Program} {l : Launch} {e : Env} {s : State} {m : MethodId} {args : Array Value} {below : List Frame} {meth : Method} {c : Code} {G : XG} {X0 : XW} (C0 : XC p s m args meth c RX10 cX10_accents 9 G) (hret : meth.sig.returnType = (some .int)) {r : Int32 × Int32 × XW} {l0 : Nat} {l1 : Int32} {l4 : Int32} {Q : State → Prop} {rec : Int32 → Int32 → Int32 → Int32 → XW → Option (Int32 × Int32 × XW)} (hrec : ∀ {y5 : Int32} {y6 : Int32} {y7 : Int32} {y8 : Int32} {X : XW} {H : Heap} {locs : List Loc} {ls : Array Slot}, XD G X0 X s H locs → lv_has ls 9 [(0, .ref l0), (1, .int l1), (4, .int l4), (5, .int y5), (6, .int y6), (7, .int y7), (8, .int y8)] → rec y5 y6 y7 y8 X = some r → W p l e { frames := 0, cells := 0, slots := 0, locals := 0 } s m args below meth c H locs 0 0 Q (F0 m 32 ls [])) (hK : ∀ {H : Heap} {locs : List Loc} {ls : Array Slot}, XD G X0 r.2.2 s H locs → lv_has ls 9 [(0, .ref l0), (5, .int r.1), (6, .int r.2.1)] → W p l e { frames := 0, cells := 0, slots := 0, locals := 0 } s m args below meth c H locs 0 0 Q (F0 m 149 ls []))  {l5 : Int32} {l6 : Int32} {l8 : Int32} {s0 : Int32} {X : XW} {H : Heap} {locs : List Loc} {ls : Array Slot} (W0 : XD G X0 X s H locs) (hl : lv_has ls 9 [(0, .ref l0), (1, .int l1), (4, .int l4), (5, .int l5), (6, .int l6), (8, .int l8)]) (h : fX10_accents_j141 rec l0 l1 l4 l5 l6 l8 s0 X = some r) : W p l e { frames := 0, cells := 0, slots := 0, locals := 0 } s m args below meth c H locs 0 0 Q (F0 m 141 ls [.int s0]) := by
  have hx := C0.1
  have hb := C0.2.1
  unfold fX10_accents_j141 at h
  refine lv_istore (lv' := [(7, .int s0), (0, .ref l0), (1, .int l1), (4, .int l4), (5, .int l5), (6, .int l6), (8, .int l8)]) hx hb dX10_accents_141 hl (by decide) rfl (fun ls hl => ?_)
  refine lv_iinc (v := (l8 + 1)) (lv' := [(8, .int (l8 + 1)), (7, .int s0), (0, .ref l0), (1, .int l1), (4, .int l4), (5, .int l5), (6, .int l6)]) hx hb dX10_accents_143 hl (k := 6) rfl (ii (by decide)) (by decide) rfl (fun ls hl => ?_)
  refine lv_goto (tgt := 32) hx hb dX10_accents_146 (by decide) ?_
  exact hrec W0 (lv_sub hl [2, 3, 4, 5, 6, 1, 0] rfl) h
theorem tX10_accents_j136 {p : Program} {l : Launch} {e : Env} {s : State} {m : MethodId} {args : Array Value} {below : List Frame} {meth : Method} {c : Code} {G : XG} {X0 : XW} (C0 : XC p s m args meth c RX10 cX10_accents 9 G) (hret : meth.sig.returnType = (some .int)) {r : Int32 × Int32 × XW} {l0 : Nat} {l1 : Int32} {l4 : Int32} {Q : State → Prop} {rec : Int32 → Int32 → Int32 → Int32 → XW → Option (Int32 × Int32 × XW)} (hrec : ∀ {y5 : Int32} {y6 : Int32} {y7 : Int32} {y8 : Int32} {X : XW} {H : Heap} {locs : List Loc} {ls : Array Slot}, XD G X0 X s H locs → lv_has ls 9 [(0, .ref l0), (1, .int l1), (4, .int l4), (5, .int y5), (6, .int y6), (7, .int y7), (8, .int y8)] → rec y5 y6 y7 y8 X = some r → W p l e { frames := 0, cells := 0, slots := 0, locals := 0 } s m args below meth c H locs 0 0 Q (F0 m 32 ls [])) (hK : ∀ {H : Heap} {locs : List Loc} {ls : Array Slot}, XD G X0 r.2.2 s H locs → lv_has ls 9 [(0, .ref l0), (5, .int r.1), (6, .int r.2.1)] → W p l e { frames := 0, cells := 0, slots := 0, locals := 0 } s m args below meth c H locs 0 0 Q (F0 m 149 ls []))  {l5 : Int32} {l6 : Int32} {l8 : Int32} {X : XW} {H : Heap} {locs : List Loc} {ls : Array Slot} (W0 : XD G X0 X s H locs) (hl : lv_has ls 9 [(0, .ref l0), (1, .int l1), (4, .int l4), (5, .int l5), (6, .int l6), (8, .int l8)]) (h : fX10_accents_j136 rec l0 l1 l4 l5 l6 l8 X = some r) : W p l e { frames := 0, cells := 0, slots := 0, locals := 0 } s m args below meth c H locs 0 0 Q (F0 m 136 ls []) := by
  have hx := C0.1
  have hb := C0.2.1
  unfold fX10_accents_j136 at h
  refine lv_iconst (v := 1) hx hb dX10_accents_136 (by decide) ?_
  refine lv_goto (tgt := 141) hx hb dX10_accents_137 (by decide) ?_
  exact tX10_accents_j141 C0 hret hrec hK W0 (lv_sub hl [0, 1, 2, 3, 4, 5] rfl) h
theorem tX10_accents_j114 {p : Program} {l : Launch} {e : Env} {s : State} {m : MethodId} {args : Array Value} {below : List Frame} {meth : Method} {c : Code} {G : XG} {X0 : XW} (C0 : XC p s m args meth c RX10 cX10_accents 9 G) (hret : meth.sig.returnType = (some .int)) {r : Int32 × Int32 × XW} {l0 : Nat} {l1 : Int32} {l4 : Int32} {Q : State → Prop} {rec : Int32 → Int32 → Int32 → Int32 → XW → Option (Int32 × Int32 × XW)} (hrec : ∀ {y5 : Int32} {y6 : Int32} {y7 : Int32} {y8 : Int32} {X : XW} {H : Heap} {locs : List Loc} {ls : Array Slot}, XD G X0 X s H locs → lv_has ls 9 [(0, .ref l0), (1, .int l1), (4, .int l4), (5, .int y5), (6, .int y6), (7, .int y7), (8, .int y8)] → rec y5 y6 y7 y8 X = some r → W p l e { frames := 0, cells := 0, slots := 0, locals := 0 } s m args below meth c H locs 0 0 Q (F0 m 32 ls [])) (hK : ∀ {H : Heap} {locs : List Loc} {ls : Array Slot}, XD G X0 r.2.2 s H locs → lv_has ls 9 [(0, .ref l0), (5, .int r.1), (6, .int r.2.1)] → W p l e { frames := 0, cells := 0, slots := 0, locals := 0 } s m args below meth c H locs 0 0 Q (F0 m 149 ls []))  {l5 : Int32} {l7 : Int32} {l8 : Int32} {s0 : Int32} {X : XW} {H : Heap} {locs : List Loc} {ls : Array Slot} (W0 : XD G X0 X s H locs) (hl : lv_has ls 9 [(0, .ref l0), (1, .int l1), (4, .int l4), (5, .int l5), (7, .int l7), (8, .int l8)]) (h : fX10_accents_j114 rec l0 l1 l4 l5 l7 l8 s0 X = some r) : W p l e { frames := 0, cells := 0, slots := 0, locals := 0 } s m args below meth c H locs 0 0 Q (F0 m 114 ls [.int s0]) := by
  have hx := C0.1
  have hb := C0.2.1
  unfold fX10_accents_j114 at h
  refine lv_istore (lv' := [(6, .int s0), (0, .ref l0), (1, .int l1), (4, .int l4), (5, .int l5), (7, .int l7), (8, .int l8)]) hx hb dX10_accents_114 hl (by decide) rfl (fun ls hl => ?_)
  refine lv_iload hx hb dX10_accents_116 (lv_at hl 5 rfl) ?_
  refine lv_if_ne (tgt := 136) hx hb dX10_accents_118 (by decide) (fun hcq => ?_) (fun hcq => ?_)
  · have h := it_f hcq h
    exact tX10_accents_j136 C0 hret hrec hK W0 (lv_sub hl [1, 2, 3, 4, 0, 6] rfl) h
  · have h := it_t hcq h
    refine lv_aload_n hx hb dX10_accents_121 rfl (lv_at hl 1 rfl) ?_
    obtain ⟨q1, h2, h⟩ := ob h
    refine xr_getR C0 W0 cl_X10 34 (by decide) fl_X10_132 rfl h2 dX10_accents_122 ?_
    refine lv_bipush (v := 16) hx hb dX10_accents_125 (by decide) ?_
    refine lv_iload_n hx hb dX10_accents_127 rfl (lv_at hl 2 rfl) ?_
    refine lv_imul hx hb dX10_accents_128 ?_
    refine lv_iload hx hb dX10_accents_129 (lv_at hl 6 rfl) ?_
    refine lv_iadd hx hb dX10_accents_131 ?_
    obtain ⟨v3, h4, h⟩ := ob h
    refine xr_zald C0 W0 h4 dX10_accents_132 ?_
    refine lv_if_eq (tgt := 140) hx hb dX10_accents_133 (by decide) (fun hcq => ?_) (fun hcq => ?_)
    · have h := it_t hcq h
      refine lv_iconst (v := 0) hx hb dX10_accents_140 (by decide) ?_
      exact tX10_accents_j141 C0 hret hrec hK W0 (lv_sub hl [1, 2, 3, 4, 0, 6] rfl) h
    · have h := it_f hcq h
      exact tX10_accents_j136 C0 hret hrec hK W0 (lv_sub hl [1, 2, 3, 4, 0, 6] rfl) h
theorem tX10_accents_j107 {p : Program} {l : Launch} {e : Env} {s : State} {m : MethodId} {args : Array Value} {below : List Frame} {meth : Method} {c : Code} {G : XG} {X0 : XW} (C0 : XC p s m args meth c RX10 cX10_accents 9 G) (hret : meth.sig.returnType = (some .int)) {r : Int32 × Int32 × XW} {l0 : Nat} {l1 : Int32} {l4 : Int32} {Q : State → Prop} {rec : Int32 → Int32 → Int32 → Int32 → XW → Option (Int32 × Int32 × XW)} (hrec : ∀ {y5 : Int32} {y6 : Int32} {y7 : Int32} {y8 : Int32} {X : XW} {H : Heap} {locs : List Loc} {ls : Array Slot}, XD G X0 X s H locs → lv_has ls 9 [(0, .ref l0), (1, .int l1), (4, .int l4), (5, .int y5), (6, .int y6), (7, .int y7), (8, .int y8)] → rec y5 y6 y7 y8 X = some r → W p l e { frames := 0, cells := 0, slots := 0, locals := 0 } s m args below meth c H locs 0 0 Q (F0 m 32 ls [])) (hK : ∀ {H : Heap} {locs : List Loc} {ls : Array Slot}, XD G X0 r.2.2 s H locs → lv_has ls 9 [(0, .ref l0), (5, .int r.1), (6, .int r.2.1)] → W p l e { frames := 0, cells := 0, slots := 0, locals := 0 } s m args below meth c H locs 0 0 Q (F0 m 149 ls []))  {l5 : Int32} {l7 : Int32} {l8 : Int32} {X : XW} {H : Heap} {locs : List Loc} {ls : Array Slot} (W0 : XD G X0 X s H locs) (hl : lv_has ls 9 [(0, .ref l0), (1, .int l1), (4, .int l4), (5, .int l5), (7, .int l7), (8, .int l8)]) (h : fX10_accents_j107 rec l0 l1 l4 l5 l7 l8 X = some r) : W p l e { frames := 0, cells := 0, slots := 0, locals := 0 } s m args below meth c H locs 0 0 Q (F0 m 107 ls []) := by
  have hx := C0.1
  have hb := C0.2.1
  unfold fX10_accents_j107 at h
  refine lv_iload hx hb dX10_accents_107 (lv_at hl 5 rfl) ?_
  refine lv_goto (tgt := 114) hx hb dX10_accents_109 (by decide) ?_
  exact tX10_accents_j114 C0 hret hrec hK W0 (lv_sub hl [0, 1, 2, 3, 4, 5] rfl) h
theorem tX10_accents_j112 {p : Program} {l : Launch} {e : Env} {s : State} {m : MethodId} {args : Array Value} {below : List Frame} {meth : Method} {c : Code} {G : XG} {X0 : XW} (C0 : XC p s m args meth c RX10 cX10_accents 9 G) (hret : meth.sig.returnType = (some .int)) {r : Int32 × Int32 × XW} {l0 : Nat} {l1 : Int32} {l4 : Int32} {Q : State → Prop} {rec : Int32 → Int32 → Int32 → Int32 → XW → Option (Int32 × Int32 × XW)} (hrec : ∀ {y5 : Int32} {y6 : Int32} {y7 : Int32} {y8 : Int32} {X : XW} {H : Heap} {locs : List Loc} {ls : Array Slot}, XD G X0 X s H locs → lv_has ls 9 [(0, .ref l0), (1, .int l1), (4, .int l4), (5, .int y5), (6, .int y6), (7, .int y7), (8, .int y8)] → rec y5 y6 y7 y8 X = some r → W p l e { frames := 0, cells := 0, slots := 0, locals := 0 } s m args below meth c H locs 0 0 Q (F0 m 32 ls [])) (hK : ∀ {H : Heap} {locs : List Loc} {ls : Array Slot}, XD G X0 r.2.2 s H locs → lv_has ls 9 [(0, .ref l0), (5, .int r.1), (6, .int r.2.1)] → W p l e { frames := 0, cells := 0, slots := 0, locals := 0 } s m args below meth c H locs 0 0 Q (F0 m 149 ls []))  {l5 : Int32} {l6 : Int32} {l7 : Int32} {l8 : Int32} {X : XW} {H : Heap} {locs : List Loc} {ls : Array Slot} (W0 : XD G X0 X s H locs) (hl : lv_has ls 9 [(0, .ref l0), (1, .int l1), (4, .int l4), (5, .int l5), (6, .int l6), (7, .int l7), (8, .int l8)]) (h : fX10_accents_j112 rec l0 l1 l4 l5 l6 l7 l8 X = some r) : W p l e { frames := 0, cells := 0, slots := 0, locals := 0 } s m args below meth c H locs 0 0 Q (F0 m 112 ls []) := by
  have hx := C0.1
  have hb := C0.2.1
  unfold fX10_accents_j112 at h
  refine lv_iload hx hb dX10_accents_112 (lv_at hl 4 rfl) ?_
  exact tX10_accents_j114 C0 hret hrec hK W0 (lv_sub hl [0, 1, 2, 3, 5, 6] rfl) h
theorem tX10_accents_j75 {p : Program} {l : Launch} {e : Env} {s : State} {m : MethodId} {args : Array Value} {below : List Frame} {meth : Method} {c : Code} {G : XG} {X0 : XW} (C0 : XC p s m args meth c RX10 cX10_accents 9 G) (hret : meth.sig.returnType = (some .int)) {r : Int32 × Int32 × XW} {l0 : Nat} {l1 : Int32} {l4 : Int32} {Q : State → Prop} {rec : Int32 → Int32 → Int32 → Int32 → XW → Option (Int32 × Int32 × XW)} (hrec : ∀ {y5 : Int32} {y6 : Int32} {y7 : Int32} {y8 : Int32} {X : XW} {H : Heap} {locs : List Loc} {ls : Array Slot}, XD G X0 X s H locs → lv_has ls 9 [(0, .ref l0), (1, .int l1), (4, .int l4), (5, .int y5), (6, .int y6), (7, .int y7), (8, .int y8)] → rec y5 y6 y7 y8 X = some r → W p l e { frames := 0, cells := 0, slots := 0, locals := 0 } s m args below meth c H locs 0 0 Q (F0 m 32 ls [])) (hK : ∀ {H : Heap} {locs : List Loc} {ls : Array Slot}, XD G X0 r.2.2 s H locs → lv_has ls 9 [(0, .ref l0), (5, .int r.1), (6, .int r.2.1)] → W p l e { frames := 0, cells := 0, slots := 0, locals := 0 } s m args below meth c H locs 0 0 Q (F0 m 149 ls []))  {l6 : Int32} {l7 : Int32} {l8 : Int32} {s0 : Int32} {s1 : Int32} {X : XW} {H : Heap} {locs : List Loc} {ls : Array Slot} (W0 : XD G X0 X s H locs) (hl : lv_has ls 9 [(0, .ref l0), (1, .int l1), (4, .int l4), (6, .int l6), (7, .int l7), (8, .int l8)]) (h : fX10_accents_j75 rec l0 l1 l4 l6 l7 l8 s0 s1 X = some r) : W p l e { frames := 0, cells := 0, slots := 0, locals := 0 } s m args below meth c H locs 0 0 Q (F0 m 75 ls [.int s0, .int s1]) := by
  have hx := C0.1
  have hb := C0.2.1
  unfold fX10_accents_j75 at h
  refine lv_iadd hx hb dX10_accents_75 ?_
  refine lv_istore (lv' := [(5, .int (s1 + s0)), (0, .ref l0), (1, .int l1), (4, .int l4), (6, .int l6), (7, .int l7), (8, .int l8)]) hx hb dX10_accents_76 hl (by decide) rfl (fun ls hl => ?_)
  refine lv_aload_n hx hb dX10_accents_78 rfl (lv_at hl 1 rfl) ?_
  obtain ⟨q1, h2, h⟩ := ob h
  refine xr_getR C0 W0 cl_X10 34 (by decide) fl_X10_132 rfl h2 dX10_accents_79 ?_
  refine lv_bipush (v := 16) hx hb dX10_accents_82 (by decide) ?_
  refine lv_iload_n hx hb dX10_accents_84 rfl (lv_at hl 2 rfl) ?_
  refine lv_imul hx hb dX10_accents_85 ?_
  refine lv_iload hx hb dX10_accents_86 (lv_at hl 6 rfl) ?_
  refine lv_iadd hx hb dX10_accents_88 ?_
  obtain ⟨v3, h4, h⟩ := ob h
  refine xr_zald C0 W0 h4 dX10_accents_89 ?_
  refine lv_if_ne (tgt := 107) hx hb dX10_accents_90 (by decide) (fun hcq => ?_) (fun hcq => ?_)
  · have h := it_f hcq h
    exact tX10_accents_j107 C0 hret hrec hK W0 (lv_sub hl [1, 2, 3, 0, 5, 6] rfl) h
  · have h := it_t hcq h
    refine lv_iload hx hb dX10_accents_93 (lv_at hl 5 rfl) ?_
    refine lv_if_ne (tgt := 112) hx hb dX10_accents_95 (by decide) (fun hcq => ?_) (fun hcq => ?_)
    · have h := it_f hcq h
      exact tX10_accents_j112 C0 hret hrec hK W0 (lv_sub hl [1, 2, 3, 0, 4, 5, 6] rfl) h
    · have h := it_t hcq h
      refine lv_iload hx hb dX10_accents_98 (lv_at hl 6 rfl) ?_
      refine lv_iload hx hb dX10_accents_100 (lv_at hl 3 rfl) ?_
      refine lv_iconst (v := 1) hx hb dX10_accents_102 (by decide) ?_
      refine lv_isub hx hb dX10_accents_103 ?_
      refine lv_icmp_ne (tgt := 112) hx hb dX10_accents_104 (by decide) (fun hcq => ?_) (fun hcq => ?_)
      · have h := it_f hcq h
        exact tX10_accents_j112 C0 hret hrec hK W0 (lv_sub hl [1, 2, 3, 0, 4, 5, 6] rfl) h
      · have h := it_t hcq h
        exact tX10_accents_j107 C0 hret hrec hK W0 (lv_sub hl [1, 2, 3, 0, 5, 6] rfl) h
theorem tX10_accents_l32_b {p : Program} {l : Launch} {e : Env} {s : State} {m : MethodId} {args : Array Value} {below : List Frame} {meth : Method} {c : Code} {G : XG} {X0 : XW} (C0 : XC p s m args meth c RX10 cX10_accents 9 G) (hret : meth.sig.returnType = (some .int)) {r : Int32 × Int32 × XW} {l0 : Nat} {l1 : Int32} {l4 : Int32} {Q : State → Prop} {rec : Int32 → Int32 → Int32 → Int32 → XW → Option (Int32 × Int32 × XW)} (hrec : ∀ {y5 : Int32} {y6 : Int32} {y7 : Int32} {y8 : Int32} {X : XW} {H : Heap} {locs : List Loc} {ls : Array Slot}, XD G X0 X s H locs → lv_has ls 9 [(0, .ref l0), (1, .int l1), (4, .int l4), (5, .int y5), (6, .int y6), (7, .int y7), (8, .int y8)] → rec y5 y6 y7 y8 X = some r → W p l e { frames := 0, cells := 0, slots := 0, locals := 0 } s m args below meth c H locs 0 0 Q (F0 m 32 ls [])) (hK : ∀ {H : Heap} {locs : List Loc} {ls : Array Slot}, XD G X0 r.2.2 s H locs → lv_has ls 9 [(0, .ref l0), (5, .int r.1), (6, .int r.2.1)] → W p l e { frames := 0, cells := 0, slots := 0, locals := 0 } s m args below meth c H locs 0 0 Q (F0 m 149 ls []))  {l5 : Int32} {l6 : Int32} {l7 : Int32} {l8 : Int32} {X : XW} {H : Heap} {locs : List Loc} {ls : Array Slot} (W0 : XD G X0 X s H locs) (hl : lv_has ls 9 [(0, .ref l0), (1, .int l1), (4, .int l4), (5, .int l5), (6, .int l6), (7, .int l7), (8, .int l8)]) (h : fX10_accents_l32_b rec l0 l1 l4 l5 l6 l7 l8 X = some r) : W p l e { frames := 0, cells := 0, slots := 0, locals := 0 } s m args below meth c H locs 0 0 Q (F0 m 32 ls []) := by
  have hx := C0.1
  have hb := C0.2.1
  unfold fX10_accents_l32_b at h
  refine lv_iload hx hb dX10_accents_32 (lv_at hl 6 rfl) ?_
  refine lv_iload hx hb dX10_accents_34 (lv_at hl 2 rfl) ?_
  refine lv_icmp_ge (tgt := 149) hx hb dX10_accents_36 (by decide) (fun hcq => ?_) (fun hcq => ?_)
  · have h := it_t hcq h
    cases h
    exact hK W0 (lv_sub hl [0, 3, 4] rfl)
  · have h := it_f hcq h
    refine lv_aload_n hx hb dX10_accents_39 rfl (lv_at hl 0 rfl) ?_
    obtain ⟨q1, h2, h⟩ := ob h
    refine xr_getR C0 W0 cl_X10 46 (by decide) fl_X10_165 rfl h2 dX10_accents_40 ?_
    refine lv_iload hx hb dX10_accents_43 (lv_at hl 6 rfl) ?_
    refine lv_aload_n hx hb dX10_accents_45 rfl (lv_at hl 0 rfl) ?_
    obtain ⟨q3, h4, h⟩ := ob h
    refine xr_getR C0 W0 cl_X10 35 (by decide) fl_X10_135 rfl h4 dX10_accents_46 ?_
    refine lv_bipush (v := 16) hx hb dX10_accents_49 (by decide) ?_
    refine lv_iload_n hx hb dX10_accents_51 rfl (lv_at hl 1 rfl) ?_
    refine lv_imul hx hb dX10_accents_52 ?_
    refine lv_iload hx hb dX10_accents_53 (lv_at hl 6 rfl) ?_
    refine lv_iadd hx hb dX10_accents_55 ?_
    obtain ⟨v5, h6, h⟩ := ob h
    refine xr_zald C0 W0 h6 dX10_accents_56 ?_
    obtain ⟨X7, h8, h⟩ := ob h
    refine xr_zast C0 W0 h8 dX10_accents_57 (fun H locs W0 => ?_)
    refine lv_iload hx hb dX10_accents_58 (lv_at hl 3 rfl) ?_
    refine lv_aload_n hx hb dX10_accents_60 rfl (lv_at hl 0 rfl) ?_
    obtain ⟨q9, h10, h⟩ := ob h
    refine xr_getR C0 W0 cl_X10 46 (by decide) fl_X10_165 rfl h10 dX10_accents_61 ?_
    refine lv_iload hx hb dX10_accents_64 (lv_at hl 6 rfl) ?_
    obtain ⟨v11, h12, h⟩ := ob h
    refine xr_zald C0 W0 h12 dX10_accents_66 ?_
    refine lv_if_eq (tgt := 74) hx hb dX10_accents_67 (by decide) (fun hcq => ?_) (fun hcq => ?_)
    · have h := it_t hcq h
      refine lv_iconst (v := 0) hx hb dX10_accents_74 (by decide) ?_
      exact tX10_accents_j75 C0 hret hrec hK W0 (lv_sub hl [0, 1, 2, 4, 5, 6] rfl) h
    · have h := it_f hcq h
      refine lv_iconst (v := 1) hx hb dX10_accents_70 (by decide) ?_
      refine lv_goto (tgt := 75) hx hb dX10_accents_71 (by decide) ?_
      exact tX10_accents_j75 C0 hret hrec hK W0 (lv_sub hl [0, 1, 2, 4, 5, 6] rfl) h
theorem tX10_accents_l32 {p : Program} {l : Launch} {e : Env} {s : State} {m : MethodId} {args : Array Value} {below : List Frame} {meth : Method} {c : Code} {G : XG} {X0 : XW} (C0 : XC p s m args meth c RX10 cX10_accents 9 G) (hret : meth.sig.returnType = (some .int)) {r : Int32 × Int32 × XW} {l0 : Nat} {l1 : Int32} {l4 : Int32} {Q : State → Prop} (hK : ∀ {H : Heap} {locs : List Loc} {ls : Array Slot}, XD G X0 r.2.2 s H locs → lv_has ls 9 [(0, .ref l0), (5, .int r.1), (6, .int r.2.1)] → W p l e { frames := 0, cells := 0, slots := 0, locals := 0 } s m args below meth c H locs 0 0 Q (F0 m 149 ls [])) : ∀ (n : Nat) {y5 : Int32} {y6 : Int32} {y7 : Int32} {y8 : Int32} {X : XW} {H : Heap} {locs : List Loc} {ls : Array Slot}, XD G X0 X s H locs → lv_has ls 9 [(0, .ref l0), (1, .int l1), (4, .int l4), (5, .int y5), (6, .int y6), (7, .int y7), (8, .int y8)] → fX10_accents_l32 l0 l1 l4 n y5 y6 y7 y8 X = some r → W p l e { frames := 0, cells := 0, slots := 0, locals := 0 } s m args below meth c H locs 0 0 Q (F0 m 32 ls []) := by
  intro n
  induction n with
  | zero =>
    intro y5 y6 y7 y8 X H locs ls W0 hl h
    cases h
  | succ n ih =>
    intro y5 y6 y7 y8 X H locs ls W0 hl h
    exact tX10_accents_l32_b C0 hret (rec := fX10_accents_l32 l0 l1 l4 n) (fun W0 hl h => ih W0 hl h) hK W0 hl h
theorem ctX10_accents (l : Launch) (G : XG) {l0 : Nat} {l1 : Int32} {l2 : Int32} {X : XW} {r : Int32 × XW}  (h : fX10_accents l0 l1 l2 X = some r) : XM l G yX10_accents cX10_accents 9 (some .int) 0 0 0 0 [.ref l0, .int l1, .int l2] X (some (.int r.1), r.2) := by
  refine xm_of (own := RX10) (by decide) rfl (Nat.le_of_ble_eq_true rfl) ?_
  intro p e s m below meth c ls C0 W0 hret hnm hl
  have hx := C0.1
  have hb := C0.2.1
  have hl : lv_has ls 9 [(0, .ref l0), (1, .int l1), (2, .int l2)] := hl
  unfold fX10_accents at h
  refine lv_aload_n hx hb dX10_accents_0 rfl (lv_at hl 0 rfl) ?_
  obtain ⟨q1, h2, h⟩ := ob h
  refine xr_getR C0 W0 cl_X10 43 (by decide) fl_X10_156 rfl h2 dX10_accents_1 ?_
  refine lv_iload_n hx hb dX10_accents_4 rfl (lv_at hl 2 rfl) ?_
  obtain ⟨v3, h4, h⟩ := ob h
  refine xr_iald C0 W0 h4 dX10_accents_5 ?_
  refine lv_istore_n (lv' := [(3, .int v3), (0, .ref l0), (1, .int l1), (2, .int l2)]) hx hb dX10_accents_6 rfl hl (by decide) rfl (fun ls hl => ?_)
  refine lv_iload_n hx hb dX10_accents_7 rfl (lv_at hl 0 rfl) ?_
  refine lv_aload_n hx hb dX10_accents_8 rfl (lv_at hl 1 rfl) ?_
  obtain ⟨q5, h6, h⟩ := ob h
  refine xr_getR C0 W0 cl_X10 44 (by decide) fl_X10_159 rfl h6 dX10_accents_9 ?_
  refine lv_iload_n hx hb dX10_accents_12 rfl (lv_at hl 3 rfl) ?_
  obtain ⟨v7, h8, h⟩ := ob h
  refine xr_iald C0 W0 h8 dX10_accents_13 ?_
  refine lv_iadd hx hb dX10_accents_14 ?_
  refine lv_istore (lv' := [(4, .int (v3 + v7)), (3, .int v3), (0, .ref l0), (1, .int l1), (2, .int l2)]) hx hb dX10_accents_15 hl (by decide) rfl (fun ls hl => ?_)
  refine lv_iconst (v := 0) hx hb dX10_accents_17 (by decide) ?_
  refine lv_istore (lv' := [(5, .int 0), (4, .int (v3 + v7)), (3, .int v3), (0, .ref l0), (1, .int l1), (2, .int l2)]) hx hb dX10_accents_18 hl (by decide) rfl (fun ls hl => ?_)
  refine lv_iload hx hb dX10_accents_20 (lv_at hl 1 rfl) ?_
  refine lv_iconst (v := 1) hx hb dX10_accents_22 (by decide) ?_
  refine lv_isub hx hb dX10_accents_23 ?_
  refine lv_istore (lv' := [(6, .int ((v3 + v7) - 1)), (5, .int 0), (4, .int (v3 + v7)), (3, .int v3), (0, .ref l0), (1, .int l1), (2, .int l2)]) hx hb dX10_accents_24 hl (by decide) rfl (fun ls hl => ?_)
  refine lv_iconst (v := 0) hx hb dX10_accents_26 (by decide) ?_
  refine lv_istore (lv' := [(7, .int 0), (6, .int ((v3 + v7) - 1)), (5, .int 0), (4, .int (v3 + v7)), (3, .int v3), (0, .ref l0), (1, .int l1), (2, .int l2)]) hx hb dX10_accents_27 hl (by decide) rfl (fun ls hl => ?_)
  refine lv_iload_n hx hb dX10_accents_29 rfl (lv_at hl 4 rfl) ?_
  refine lv_istore (lv' := [(8, .int v3), (7, .int 0), (6, .int ((v3 + v7) - 1)), (5, .int 0), (4, .int (v3 + v7)), (3, .int v3), (0, .ref l0), (1, .int l1), (2, .int l2)]) hx hb dX10_accents_30 hl (by decide) rfl (fun ls hl => ?_)
  obtain ⟨r9, h10, h⟩ := ob h
  refine tX10_accents_l32 C0 hret (fun {H} {locs} {ls} W0 hl => ?_) FU W0 (lv_sub hl [6, 7, 4, 3, 2, 1, 0] rfl) h10
  refine lv_iload hx hb dX10_accents_149 (lv_at hl 1 rfl) ?_
  refine lv_if_ne (tgt := 164) hx hb dX10_accents_151 (by decide) (fun hcq => ?_) (fun hcq => ?_)
  · have h := it_f hcq h
    refine lv_iload hx hb dX10_accents_164 (lv_at hl 1 rfl) ?_
    exact xr_iret C0 W0 hret (Option.some.inj h) dX10_accents_166
  · have h := it_t hcq h
    refine lv_aload_n hx hb dX10_accents_154 rfl (lv_at hl 0 rfl) ?_
    obtain ⟨q11, h12, h⟩ := ob h
    refine xr_getR C0 W0 cl_X10 46 (by decide) fl_X10_165 rfl h12 dX10_accents_155 ?_
    refine lv_iload hx hb dX10_accents_158 (lv_at hl 2 rfl) ?_
    refine lv_iconst (v := 1) hx hb dX10_accents_160 (by decide) ?_
    obtain ⟨X13, h14, h⟩ := ob h
    refine xr_zast C0 W0 h14 dX10_accents_161 (fun H locs W0 => ?_)
    refine lv_iconst (v := 1) hx hb dX10_accents_162 (by decide) ?_
    exact xr_iret C0 W0 hret (Option.some.inj h) dX10_accents_163
def fX10_phrases (l0 : Nat) (X : XW) : Option (Int32 × XW) :=
  pI X l0 10 0 0 >>= fun X1 =>
  gI X1 l0 10 29 >>= fun v3 =>
  gK X1 l0 10 >>= fun u5 =>
  fX10_findPhrases l0 v3 X1 >>= fun X7 =>
  gI X7 l0 10 42 >>= fun v9 =>
  some (v9, X7)
theorem ctX10_phrases (l : Launch) (G : XG) {l0 : Nat} {X : XW} {r : Int32 × XW}  (h : fX10_phrases l0 X = some r) : XM l G yX10_phrases cX10_phrases 1 (some .int) 2 120 0 0 [.ref l0] X (some (.int r.1), r.2) := by
  refine xm_of (own := RX10) (by decide) rfl (Nat.le_of_ble_eq_true rfl) ?_
  intro p e s m below meth c ls C0 W0 hret hnm hl
  have hx := C0.1
  have hb := C0.2.1
  have hl : lv_has ls 1 [(0, .ref l0)] := hl
  unfold fX10_phrases at h
  refine lv_aload_n hx hb dX10_phrases_0 rfl (lv_at hl 0 rfl) ?_
  refine lv_iconst (v := 0) hx hb dX10_phrases_1 (by decide) ?_
  obtain ⟨X1, h2, h⟩ := ob h
  refine xr_putI C0 W0 cl_X10 0 (by decide) fl_X10_1 rfl rfl rfl (by decide) h2 dX10_phrases_2 (fun H locs W0 => ?_)
  refine lv_aload_n hx hb dX10_phrases_5 rfl (lv_at hl 0 rfl) ?_
  refine lv_aload_n hx hb dX10_phrases_6 rfl (lv_at hl 0 rfl) ?_
  obtain ⟨v3, h4, h⟩ := ob h
  refine xr_getI C0 W0 cl_X10 29 (by decide) fl_X10_283 rfl h4 dX10_phrases_7 ?_
  obtain ⟨u5, h6, h⟩ := ob h
  obtain ⟨X7, h8, h⟩ := ob h
  refine xr_V (As := [.int v3]) (rest := []) C0 W0 (ctX10_findPhrases l G h8) (gK_of h6) (rr := (RX10, TX10, 57)) rfl rfl mc_X10_findPhrases mv_X10_findPhrases ml_X10_303 ⟨by decide, by decide⟩ rfl hl.1 rfl (Nat.le_of_ble_eq_true rfl) ⟨by decide, by decide⟩ dX10_phrases_10 (fun H locs W0 => ?_)
  refine W.cs (cells' := 0) (slots' := 0) rfl rfl ?_
  refine W.eq (g2 := F0 m 13 ls []) rfl ?_
  refine lv_aload_n hx hb dX10_phrases_13 rfl (lv_at hl 0 rfl) ?_
  obtain ⟨v9, h10, h⟩ := ob h
  refine xr_getI C0 W0 cl_X10 42 (by decide) fl_X10_300 rfl h10 dX10_phrases_14 ?_
  exact xr_iret C0 W0 hret (Option.some.inj h) dX10_phrases_17
def fX10_phrase (l0 : Nat) (l1 : Int32) (l2 : Int32) (X : XW) : Option (Int32 × XW) :=
  pI X l0 10 0 0 >>= fun X1 =>
  gI X1 l0 10 29 >>= fun v3 =>
  gK X1 l0 10 >>= fun u5 =>
  fX10_findPhrases l0 v3 X1 >>= fun X7 =>
  if (l1 < 0 : Prop) then (some ((-1), X7))
  else (gI X7 l0 10 42 >>= fun v9 =>
    if (l1 < v9 : Prop) then (if (l2 = 0 : Prop) then (gR X7 l0 10 43 >>= fun q29 =>
        aI X7 q29 1 l1 >>= fun v31 =>
        some (v31, X7))
      else (if (l2 = 1 : Prop) then (gR X7 l0 10 44 >>= fun q25 =>
          aI X7 q25 1 l1 >>= fun v27 =>
          some (v27, X7))
        else (if (l2 = 2 : Prop) then (gR X7 l0 10 45 >>= fun q21 =>
            aI X7 q21 1 l1 >>= fun v23 =>
            some (v23, X7))
          else (if (l2 = 3 : Prop) then (gI X7 l0 10 29 >>= fun v15 =>
              gK X7 l0 10 >>= fun u17 =>
              fX10_accents l0 v15 l1 X7 >>= fun r19 =>
              some (r19.1, r19.2))
            else (if (l2 = 4 : Prop) then (gR X7 l0 10 41 >>= fun q11 =>
                aI X7 q11 1 0 >>= fun v13 =>
                some (v13, X7))
              else (some ((-1), X7)))))))
    else (some ((-1), X7)))
theorem ctX10_phrase (l : Launch) (G : XG) {l0 : Nat} {l1 : Int32} {l2 : Int32} {X : XW} {r : Int32 × XW}  (h : fX10_phrase l0 l1 l2 X = some r) : XM l G yX10_phrase cX10_phrase 3 (some .int) 2 120 0 0 [.ref l0, .int l1, .int l2] X (some (.int r.1), r.2) := by
  refine xm_of (own := RX10) (by decide) rfl (Nat.le_of_ble_eq_true rfl) ?_
  intro p e s m below meth c ls C0 W0 hret hnm hl
  have hx := C0.1
  have hb := C0.2.1
  have hl : lv_has ls 3 [(0, .ref l0), (1, .int l1), (2, .int l2)] := hl
  unfold fX10_phrase at h
  refine lv_aload_n hx hb dX10_phrase_0 rfl (lv_at hl 0 rfl) ?_
  refine lv_iconst (v := 0) hx hb dX10_phrase_1 (by decide) ?_
  obtain ⟨X1, h2, h⟩ := ob h
  refine xr_putI C0 W0 cl_X10 0 (by decide) fl_X10_1 rfl rfl rfl (by decide) h2 dX10_phrase_2 (fun H locs W0 => ?_)
  refine lv_aload_n hx hb dX10_phrase_5 rfl (lv_at hl 0 rfl) ?_
  refine lv_aload_n hx hb dX10_phrase_6 rfl (lv_at hl 0 rfl) ?_
  obtain ⟨v3, h4, h⟩ := ob h
  refine xr_getI C0 W0 cl_X10 29 (by decide) fl_X10_283 rfl h4 dX10_phrase_7 ?_
  obtain ⟨u5, h6, h⟩ := ob h
  obtain ⟨X7, h8, h⟩ := ob h
  refine xr_V (As := [.int v3]) (rest := []) C0 W0 (ctX10_findPhrases l G h8) (gK_of h6) (rr := (RX10, TX10, 57)) rfl rfl mc_X10_findPhrases mv_X10_findPhrases ml_X10_303 ⟨by decide, by decide⟩ rfl hl.1 rfl (Nat.le_of_ble_eq_true rfl) ⟨by decide, by decide⟩ dX10_phrase_10 (fun H locs W0 => ?_)
  refine W.cs (cells' := 0) (slots' := 0) rfl rfl ?_
  refine W.eq (g2 := F0 m 13 ls []) rfl ?_
  refine lv_iload_n hx hb dX10_phrase_13 rfl (lv_at hl 1 rfl) ?_
  refine lv_if_lt (tgt := 25) hx hb dX10_phrase_14 (by decide) (fun hcq => ?_) (fun hcq => ?_)
  · have h := it_t hcq h
    refine lv_iconst (v := (-1)) hx hb dX10_phrase_25 (by decide) ?_
    exact xr_iret C0 W0 hret (Option.some.inj h) dX10_phrase_26
  · have h := it_f hcq h
    refine lv_iload_n hx hb dX10_phrase_17 rfl (lv_at hl 1 rfl) ?_
    refine lv_aload_n hx hb dX10_phrase_18 rfl (lv_at hl 0 rfl) ?_
    obtain ⟨v9, h10, h⟩ := ob h
    refine xr_getI C0 W0 cl_X10 42 (by decide) fl_X10_300 rfl h10 dX10_phrase_19 ?_
    refine lv_icmp_lt (tgt := 27) hx hb dX10_phrase_22 (by decide) (fun hcq => ?_) (fun hcq => ?_)
    · have h := it_t hcq h
      refine lv_iload_n hx hb dX10_phrase_27 rfl (lv_at hl 2 rfl) ?_
      refine lv_if_ne (tgt := 40) hx hb dX10_phrase_28 (by decide) (fun hcq => ?_) (fun hcq => ?_)
      · have h := it_f hcq h
        refine lv_iload_n hx hb dX10_phrase_40 rfl (lv_at hl 2 rfl) ?_
        refine lv_iconst (v := 1) hx hb dX10_phrase_41 (by decide) ?_
        refine lv_icmp_ne (tgt := 54) hx hb dX10_phrase_42 (by decide) (fun hcq => ?_) (fun hcq => ?_)
        · have h := it_f hcq h
          refine lv_iload_n hx hb dX10_phrase_54 rfl (lv_at hl 2 rfl) ?_
          refine lv_iconst (v := 2) hx hb dX10_phrase_55 (by decide) ?_
          refine lv_icmp_ne (tgt := 68) hx hb dX10_phrase_56 (by decide) (fun hcq => ?_) (fun hcq => ?_)
          · have h := it_f hcq h
            refine lv_iload_n hx hb dX10_phrase_68 rfl (lv_at hl 2 rfl) ?_
            refine lv_iconst (v := 3) hx hb dX10_phrase_69 (by decide) ?_
            refine lv_icmp_ne (tgt := 85) hx hb dX10_phrase_70 (by decide) (fun hcq => ?_) (fun hcq => ?_)
            · have h := it_f hcq h
              refine lv_iload_n hx hb dX10_phrase_85 rfl (lv_at hl 2 rfl) ?_
              refine lv_iconst (v := 4) hx hb dX10_phrase_86 (by decide) ?_
              refine lv_icmp_ne (tgt := 99) hx hb dX10_phrase_87 (by decide) (fun hcq => ?_) (fun hcq => ?_)
              · have h := it_f hcq h
                refine lv_iconst (v := (-1)) hx hb dX10_phrase_99 (by decide) ?_
                exact xr_iret C0 W0 hret (Option.some.inj h) dX10_phrase_100
              · have h := it_t hcq h
                refine lv_aload_n hx hb dX10_phrase_90 rfl (lv_at hl 0 rfl) ?_
                obtain ⟨q11, h12, h⟩ := ob h
                refine xr_getR C0 W0 cl_X10 41 (by decide) fl_X10_153 rfl h12 dX10_phrase_91 ?_
                refine lv_iconst (v := 0) hx hb dX10_phrase_94 (by decide) ?_
                obtain ⟨v13, h14, h⟩ := ob h
                refine xr_iald C0 W0 h14 dX10_phrase_95 ?_
                refine lv_goto (tgt := 100) hx hb dX10_phrase_96 (by decide) ?_
                exact xr_iret C0 W0 hret (Option.some.inj h) dX10_phrase_100
            · have h := it_t hcq h
              refine lv_aload_n hx hb dX10_phrase_73 rfl (lv_at hl 0 rfl) ?_
              refine lv_aload_n hx hb dX10_phrase_74 rfl (lv_at hl 0 rfl) ?_
              obtain ⟨v15, h16, h⟩ := ob h
              refine xr_getI C0 W0 cl_X10 29 (by decide) fl_X10_283 rfl h16 dX10_phrase_75 ?_
              refine lv_iload_n hx hb dX10_phrase_78 rfl (lv_at hl 1 rfl) ?_
              obtain ⟨u17, h18, h⟩ := ob h
              obtain ⟨r19, h20, h⟩ := ob h
              refine xr_V (As := [.int v15, .int l1]) (rest := []) C0 W0 (ctX10_accents l G h20) (gK_of h18) (rr := (RX10, TX10, 57)) rfl rfl mc_X10_accents mv_X10_accents ml_X10_306 ⟨by decide, by decide⟩ rfl hl.1 rfl (Nat.le_of_ble_eq_true rfl) ⟨by decide, by decide⟩ dX10_phrase_79 (fun H locs W0 => ?_)
              refine W.cs (cells' := 0) (slots' := 0) rfl rfl ?_
              refine W.eq (g2 := F0 m 82 ls [.int r19.1]) rfl ?_
              refine lv_goto (tgt := 100) hx hb dX10_phrase_82 (by decide) ?_
              exact xr_iret C0 W0 hret (Option.some.inj h) dX10_phrase_100
          · have h := it_t hcq h
            refine lv_aload_n hx hb dX10_phrase_59 rfl (lv_at hl 0 rfl) ?_
            obtain ⟨q21, h22, h⟩ := ob h
            refine xr_getR C0 W0 cl_X10 45 (by decide) fl_X10_162 rfl h22 dX10_phrase_60 ?_
            refine lv_iload_n hx hb dX10_phrase_63 rfl (lv_at hl 1 rfl) ?_
            obtain ⟨v23, h24, h⟩ := ob h
            refine xr_iald C0 W0 h24 dX10_phrase_64 ?_
            refine lv_goto (tgt := 100) hx hb dX10_phrase_65 (by decide) ?_
            exact xr_iret C0 W0 hret (Option.some.inj h) dX10_phrase_100
        · have h := it_t hcq h
          refine lv_aload_n hx hb dX10_phrase_45 rfl (lv_at hl 0 rfl) ?_
          obtain ⟨q25, h26, h⟩ := ob h
          refine xr_getR C0 W0 cl_X10 44 (by decide) fl_X10_159 rfl h26 dX10_phrase_46 ?_
          refine lv_iload_n hx hb dX10_phrase_49 rfl (lv_at hl 1 rfl) ?_
          obtain ⟨v27, h28, h⟩ := ob h
          refine xr_iald C0 W0 h28 dX10_phrase_50 ?_
          refine lv_goto (tgt := 100) hx hb dX10_phrase_51 (by decide) ?_
          exact xr_iret C0 W0 hret (Option.some.inj h) dX10_phrase_100
      · have h := it_t hcq h
        refine lv_aload_n hx hb dX10_phrase_31 rfl (lv_at hl 0 rfl) ?_
        obtain ⟨q29, h30, h⟩ := ob h
        refine xr_getR C0 W0 cl_X10 43 (by decide) fl_X10_156 rfl h30 dX10_phrase_32 ?_
        refine lv_iload_n hx hb dX10_phrase_35 rfl (lv_at hl 1 rfl) ?_
        obtain ⟨v31, h32, h⟩ := ob h
        refine xr_iald C0 W0 h32 dX10_phrase_36 ?_
        refine lv_goto (tgt := 100) hx hb dX10_phrase_37 (by decide) ?_
        exact xr_iret C0 W0 hret (Option.some.inj h) dX10_phrase_100
    · have h := it_f hcq h
      refine lv_iconst (v := (-1)) hx hb dX10_phrase_25 (by decide) ?_
      exact xr_iret C0 W0 hret (Option.some.inj h) dX10_phrase_26
def fX10_setsOut_j147 (rec : Int32 → XW → Option (XW)) (l0 : Nat) (l1 : Int32) (l2 : Int32) (l4 : Int32) (l5 : Int32) (l6 : Int32) (s0 : Int32) (s1 : Int32) (s2 : Nat) (X : XW) : Option (XW) :=
  uZ X s2 s1 s0 >>= fun X1 =>
  gR X1 l0 10 52 >>= fun q3 =>
  gI X1 l0 10 47 >>= fun v5 =>
  uI X1 q3 (3 * v5) 10 >>= fun X7 =>
  gR X7 l0 10 52 >>= fun q9 =>
  gI X7 l0 10 47 >>= fun v11 =>
  uI X7 q9 ((3 * v11) + 1) 50 >>= fun X13 =>
  gR X13 l0 10 52 >>= fun q15 =>
  gI X13 l0 10 47 >>= fun v17 =>
  uI X13 q15 ((3 * v17) + 2) 5 >>= fun X19 =>
  gI X19 l0 10 47 >>= fun v21 =>
  pI X19 l0 10 47 (v21 + 1) >>= fun X23 =>
  rec (l6 + 1) X23
def fX10_setsOut_l62_b (rec : Int32 → XW → Option (XW)) (l0 : Nat) (l1 : Int32) (l2 : Int32) (l4 : Int32) (l5 : Int32) (l6 : Int32) (X : XW) : Option (XW) :=
  gR X l0 10 31 >>= fun q1 =>
  aI X q1 1 ((16 * l1) + l5) >>= fun v3 =>
  if (v3 ≤ l6 : Prop) then (some (X))
  else (gR X l0 10 48 >>= fun q5 =>
    gI X l0 10 47 >>= fun v7 =>
    uI X q5 v7 l5 >>= fun X9 =>
    gR X9 l0 10 49 >>= fun q11 =>
    gI X9 l0 10 47 >>= fun v13 =>
    uI X9 q11 v13 l2 >>= fun X15 =>
    gR X15 l0 10 50 >>= fun q17 =>
    gI X15 l0 10 47 >>= fun v19 =>
    gI X15 l0 10 47 >>= fun v21 =>
    uI X15 q17 v19 (v21 - l4) >>= fun X23 =>
    gR X23 l0 10 51 >>= fun q25 =>
    gI X23 l0 10 47 >>= fun v27 =>
    gI X23 l0 10 47 >>= fun v29 =>
    gR X23 l0 10 45 >>= fun q31 =>
    aI X23 q31 1 l2 >>= fun v33 =>
    if ((v29 - l4) = (v33 - 1) : Prop) then (fX10_setsOut_j147 rec l0 l1 l2 l4 l5 l6 1 v27 q25 X23)
    else (fX10_setsOut_j147 rec l0 l1 l2 l4 l5 l6 0 v27 q25 X23))
def fX10_setsOut_l62 (l0 : Nat) (l1 : Int32) (l2 : Int32) (l4 : Int32) (l5 : Int32) (n : Nat) : Int32 → XW → Option (XW) := iter (fun rec => fX10_setsOut_l62_b rec l0 l1 l2 l4 l5) (fun _ _ => none) n
def fX10_setsOut_l41_b (rec : Int32 → XW → Option (XW)) (l0 : Nat) (l1 : Int32) (l2 : Int32) (l4 : Int32) (l5 : Int32) (X : XW) : Option (XW) :=
  gR X l0 10 43 >>= fun q1 =>
  aI X q1 1 l2 >>= fun v3 =>
  gR X l0 10 44 >>= fun q5 =>
  aI X q5 1 l2 >>= fun v7 =>
  if ((v3 + v7) ≤ l5 : Prop) then (some (X))
  else (fX10_setsOut_l62 l0 l1 l2 l4 l5 FU 0 X >>= fun r9 =>
    rec (l5 + 1) r9)
def fX10_setsOut_l41 (l0 : Nat) (l1 : Int32) (l2 : Int32) (l4 : Int32) (n : Nat) : Int32 → XW → Option (XW) := iter (fun rec => fX10_setsOut_l41_b rec l0 l1 l2 l4) (fun _ _ => none) n
def fX10_setsOut_l12_b (rec : Int32 → XW → Option (XW)) (l0 : Nat) (l1 : Int32) (l2 : Int32) (X : XW) : Option (XW) :=
  gI X l0 10 42 >>= fun v1 =>
  if (v1 ≤ l2 : Prop) then (some (X))
  else (gK X l0 10 >>= fun u3 =>
    fX10_accents l0 l1 l2 X >>= fun r5 =>
    gI r5.2 l0 10 47 >>= fun v7 =>
    gR r5.2 l0 10 43 >>= fun q9 =>
    aI r5.2 q9 1 l2 >>= fun v11 =>
    fX10_setsOut_l41 l0 l1 l2 v7 FU v11 r5.2 >>= fun r13 =>
    rec (l2 + 1) r13)
def fX10_setsOut_l12 (l0 : Nat) (l1 : Int32) (n : Nat) : Int32 → XW → Option (XW) := iter (fun rec => fX10_setsOut_l12_b rec l0 l1) (fun _ _ => none) n
def fX10_setsOut (l0 : Nat) (l1 : Int32) (X : XW) : Option (XW) :=
  gK X l0 10 >>= fun u1 =>
  fX10_findPhrases l0 l1 X >>= fun X3 =>
  pI X3 l0 10 47 0 >>= fun X5 =>
  fX10_setsOut_l12 l0 l1 FU 0 X5 >>= fun r7 =>
  some r7
theorem tX10_setsOut_j147 {p : Program} {l : Launch} {e : Env} {s : State} {m : MethodId} {args : Array Value} {below : List Frame} {meth : Method} {c : Code} {G : XG} {X0 : XW} (C0 : XC p s m args meth c RX10 cX10_setsOut 7 G) (hret : meth.sig.returnType = none) {r : XW} {l0 : Nat} {l1 : Int32} {l2 : Int32} {l4 : Int32} {l5 : Int32} {Q : State → Prop} {rec : Int32 → XW → Option (XW)} (hrec : ∀ {y6 : Int32} {X : XW} {H : Heap} {locs : List Loc} {ls : Array Slot}, XD G X0 X s H locs → lv_has ls 7 [(0, .ref l0), (1, .int l1), (2, .int l2), (4, .int l4), (5, .int l5), (6, .int y6)] → rec y6 X = some r → W p l e { frames := 2, cells := 0, slots := 0, locals := 120 } s m args below meth c H locs 0 0 Q (F0 m 62 ls [])) (hK : ∀ {H : Heap} {locs : List Loc} {ls : Array Slot}, XD G X0 r s H locs → lv_has ls 7 [(0, .ref l0), (1, .int l1), (2, .int l2), (4, .int l4), (5, .int l5)] → W p l e { frames := 2, cells := 0, slots := 0, locals := 120 } s m args below meth c H locs 0 0 Q (F0 m 206 ls []))  {l6 : Int32} {s0 : Int32} {s1 : Int32} {s2 : Nat} {X : XW} {H : Heap} {locs : List Loc} {ls : Array Slot} (W0 : XD G X0 X s H locs) (hl : lv_has ls 7 [(0, .ref l0), (1, .int l1), (2, .int l2), (4, .int l4), (5, .int l5), (6, .int l6)]) (h : fX10_setsOut_j147 rec l0 l1 l2 l4 l5 l6 s0 s1 s2 X = some r) : W p l e { frames := 2, cells := 0, slots := 0, locals := 120 } s m args below meth c H locs 0 0 Q (F0 m 147 ls [.int s0, .int s1, .ref s2]) := by
  have hx := C0.1
  have hb := C0.2.1
  unfold fX10_setsOut_j147 at h
  obtain ⟨X1, h2, h⟩ := ob h
  refine xr_zast C0 W0 h2 dX10_setsOut_147 (fun H locs W0 => ?_)
  refine lv_aload_n hx hb dX10_setsOut_148 rfl (lv_at hl 0 rfl) ?_
  obtain ⟨q3, h4, h⟩ := ob h
  refine xr_getR C0 W0 cl_X10 52 (by decide) fl_X10_180 rfl h4 dX10_setsOut_149 ?_
  refine lv_iconst (v := 3) hx hb dX10_setsOut_152 (by decide) ?_
  refine lv_aload_n hx hb dX10_setsOut_153 rfl (lv_at hl 0 rfl) ?_
  obtain ⟨v5, h6, h⟩ := ob h
  refine xr_getI C0 W0 cl_X10 47 (by decide) fl_X10_310 rfl h6 dX10_setsOut_154 ?_
  refine lv_imul hx hb dX10_setsOut_157 ?_
  refine lv_bipush (v := 10) hx hb dX10_setsOut_158 (by decide) ?_
  obtain ⟨X7, h8, h⟩ := ob h
  refine xr_iast C0 W0 h8 dX10_setsOut_160 (fun H locs W0 => ?_)
  refine lv_aload_n hx hb dX10_setsOut_161 rfl (lv_at hl 0 rfl) ?_
  obtain ⟨q9, h10, h⟩ := ob h
  refine xr_getR C0 W0 cl_X10 52 (by decide) fl_X10_180 rfl h10 dX10_setsOut_162 ?_
  refine lv_iconst (v := 3) hx hb dX10_setsOut_165 (by decide) ?_
  refine lv_aload_n hx hb dX10_setsOut_166 rfl (lv_at hl 0 rfl) ?_
  obtain ⟨v11, h12, h⟩ := ob h
  refine xr_getI C0 W0 cl_X10 47 (by decide) fl_X10_310 rfl h12 dX10_setsOut_167 ?_
  refine lv_imul hx hb dX10_setsOut_170 ?_
  refine lv_iconst (v := 1) hx hb dX10_setsOut_171 (by decide) ?_
  refine lv_iadd hx hb dX10_setsOut_172 ?_
  refine lv_bipush (v := 50) hx hb dX10_setsOut_173 (by decide) ?_
  obtain ⟨X13, h14, h⟩ := ob h
  refine xr_iast C0 W0 h14 dX10_setsOut_175 (fun H locs W0 => ?_)
  refine lv_aload_n hx hb dX10_setsOut_176 rfl (lv_at hl 0 rfl) ?_
  obtain ⟨q15, h16, h⟩ := ob h
  refine xr_getR C0 W0 cl_X10 52 (by decide) fl_X10_180 rfl h16 dX10_setsOut_177 ?_
  refine lv_iconst (v := 3) hx hb dX10_setsOut_180 (by decide) ?_
  refine lv_aload_n hx hb dX10_setsOut_181 rfl (lv_at hl 0 rfl) ?_
  obtain ⟨v17, h18, h⟩ := ob h
  refine xr_getI C0 W0 cl_X10 47 (by decide) fl_X10_310 rfl h18 dX10_setsOut_182 ?_
  refine lv_imul hx hb dX10_setsOut_185 ?_
  refine lv_iconst (v := 2) hx hb dX10_setsOut_186 (by decide) ?_
  refine lv_iadd hx hb dX10_setsOut_187 ?_
  refine lv_iconst (v := 5) hx hb dX10_setsOut_188 (by decide) ?_
  obtain ⟨X19, h20, h⟩ := ob h
  refine xr_iast C0 W0 h20 dX10_setsOut_189 (fun H locs W0 => ?_)
  refine lv_aload_n hx hb dX10_setsOut_190 rfl (lv_at hl 0 rfl) ?_
  refine lv_dup hx hb dX10_setsOut_191 rfl ?_
  obtain ⟨v21, h22, h⟩ := ob h
  refine xr_getI C0 W0 cl_X10 47 (by decide) fl_X10_310 rfl h22 dX10_setsOut_192 ?_
  refine lv_iconst (v := 1) hx hb dX10_setsOut_195 (by decide) ?_
  refine lv_iadd hx hb dX10_setsOut_196 ?_
  obtain ⟨X23, h24, h⟩ := ob h
  refine xr_putI C0 W0 cl_X10 47 (by decide) fl_X10_310 rfl rfl rfl (by decide) h24 dX10_setsOut_197 (fun H locs W0 => ?_)
  refine lv_iinc (v := (l6 + 1)) (lv' := [(6, .int (l6 + 1)), (0, .ref l0), (1, .int l1), (2, .int l2), (4, .int l4), (5, .int l5)]) hx hb dX10_setsOut_200 hl (k := 5) rfl (ii (by decide)) (by decide) rfl (fun ls hl => ?_)
  refine lv_goto (tgt := 62) hx hb dX10_setsOut_203 (by decide) ?_
  exact hrec W0 (lv_sub hl [1, 2, 3, 4, 5, 0] rfl) h
theorem tX10_setsOut_l62_b {p : Program} {l : Launch} {e : Env} {s : State} {m : MethodId} {args : Array Value} {below : List Frame} {meth : Method} {c : Code} {G : XG} {X0 : XW} (C0 : XC p s m args meth c RX10 cX10_setsOut 7 G) (hret : meth.sig.returnType = none) {r : XW} {l0 : Nat} {l1 : Int32} {l2 : Int32} {l4 : Int32} {l5 : Int32} {Q : State → Prop} {rec : Int32 → XW → Option (XW)} (hrec : ∀ {y6 : Int32} {X : XW} {H : Heap} {locs : List Loc} {ls : Array Slot}, XD G X0 X s H locs → lv_has ls 7 [(0, .ref l0), (1, .int l1), (2, .int l2), (4, .int l4), (5, .int l5), (6, .int y6)] → rec y6 X = some r → W p l e { frames := 2, cells := 0, slots := 0, locals := 120 } s m args below meth c H locs 0 0 Q (F0 m 62 ls [])) (hK : ∀ {H : Heap} {locs : List Loc} {ls : Array Slot}, XD G X0 r s H locs → lv_has ls 7 [(0, .ref l0), (1, .int l1), (2, .int l2), (4, .int l4), (5, .int l5)] → W p l e { frames := 2, cells := 0, slots := 0, locals := 120 } s m args below meth c H locs 0 0 Q (F0 m 206 ls []))  {l6 : Int32} {X : XW} {H : Heap} {locs : List Loc} {ls : Array Slot} (W0 : XD G X0 X s H locs) (hl : lv_has ls 7 [(0, .ref l0), (1, .int l1), (2, .int l2), (4, .int l4), (5, .int l5), (6, .int l6)]) (h : fX10_setsOut_l62_b rec l0 l1 l2 l4 l5 l6 X = some r) : W p l e { frames := 2, cells := 0, slots := 0, locals := 120 } s m args below meth c H locs 0 0 Q (F0 m 62 ls []) := by
  have hx := C0.1
  have hb := C0.2.1
  unfold fX10_setsOut_l62_b at h
  refine lv_iload hx hb dX10_setsOut_62 (lv_at hl 5 rfl) ?_
  refine lv_aload_n hx hb dX10_setsOut_64 rfl (lv_at hl 0 rfl) ?_
  obtain ⟨q1, h2, h⟩ := ob h
  refine xr_getR C0 W0 cl_X10 31 (by decide) fl_X10_123 rfl h2 dX10_setsOut_65 ?_
  refine lv_bipush (v := 16) hx hb dX10_setsOut_68 (by decide) ?_
  refine lv_iload_n hx hb dX10_setsOut_70 rfl (lv_at hl 1 rfl) ?_
  refine lv_imul hx hb dX10_setsOut_71 ?_
  refine lv_iload hx hb dX10_setsOut_72 (lv_at hl 4 rfl) ?_
  refine lv_iadd hx hb dX10_setsOut_74 ?_
  obtain ⟨v3, h4, h⟩ := ob h
  refine xr_iald C0 W0 h4 dX10_setsOut_75 ?_
  refine lv_icmp_ge (tgt := 206) hx hb dX10_setsOut_76 (by decide) (fun hcq => ?_) (fun hcq => ?_)
  · have h := it_t hcq h
    cases h
    exact hK W0 (lv_sub hl [0, 1, 2, 3, 4] rfl)
  · have h := it_f hcq h
    refine lv_aload_n hx hb dX10_setsOut_79 rfl (lv_at hl 0 rfl) ?_
    obtain ⟨q5, h6, h⟩ := ob h
    refine xr_getR C0 W0 cl_X10 48 (by decide) fl_X10_168 rfl h6 dX10_setsOut_80 ?_
    refine lv_aload_n hx hb dX10_setsOut_83 rfl (lv_at hl 0 rfl) ?_
    obtain ⟨v7, h8, h⟩ := ob h
    refine xr_getI C0 W0 cl_X10 47 (by decide) fl_X10_310 rfl h8 dX10_setsOut_84 ?_
    refine lv_iload hx hb dX10_setsOut_87 (lv_at hl 4 rfl) ?_
    obtain ⟨X9, h10, h⟩ := ob h
    refine xr_iast C0 W0 h10 dX10_setsOut_89 (fun H locs W0 => ?_)
    refine lv_aload_n hx hb dX10_setsOut_90 rfl (lv_at hl 0 rfl) ?_
    obtain ⟨q11, h12, h⟩ := ob h
    refine xr_getR C0 W0 cl_X10 49 (by decide) fl_X10_171 rfl h12 dX10_setsOut_91 ?_
    refine lv_aload_n hx hb dX10_setsOut_94 rfl (lv_at hl 0 rfl) ?_
    obtain ⟨v13, h14, h⟩ := ob h
    refine xr_getI C0 W0 cl_X10 47 (by decide) fl_X10_310 rfl h14 dX10_setsOut_95 ?_
    refine lv_iload_n hx hb dX10_setsOut_98 rfl (lv_at hl 2 rfl) ?_
    obtain ⟨X15, h16, h⟩ := ob h
    refine xr_iast C0 W0 h16 dX10_setsOut_99 (fun H locs W0 => ?_)
    refine lv_aload_n hx hb dX10_setsOut_100 rfl (lv_at hl 0 rfl) ?_
    obtain ⟨q17, h18, h⟩ := ob h
    refine xr_getR C0 W0 cl_X10 50 (by decide) fl_X10_174 rfl h18 dX10_setsOut_101 ?_
    refine lv_aload_n hx hb dX10_setsOut_104 rfl (lv_at hl 0 rfl) ?_
    obtain ⟨v19, h20, h⟩ := ob h
    refine xr_getI C0 W0 cl_X10 47 (by decide) fl_X10_310 rfl h20 dX10_setsOut_105 ?_
    refine lv_aload_n hx hb dX10_setsOut_108 rfl (lv_at hl 0 rfl) ?_
    obtain ⟨v21, h22, h⟩ := ob h
    refine xr_getI C0 W0 cl_X10 47 (by decide) fl_X10_310 rfl h22 dX10_setsOut_109 ?_
    refine lv_iload hx hb dX10_setsOut_112 (lv_at hl 3 rfl) ?_
    refine lv_isub hx hb dX10_setsOut_114 ?_
    obtain ⟨X23, h24, h⟩ := ob h
    refine xr_iast C0 W0 h24 dX10_setsOut_115 (fun H locs W0 => ?_)
    refine lv_aload_n hx hb dX10_setsOut_116 rfl (lv_at hl 0 rfl) ?_
    obtain ⟨q25, h26, h⟩ := ob h
    refine xr_getR C0 W0 cl_X10 51 (by decide) fl_X10_177 rfl h26 dX10_setsOut_117 ?_
    refine lv_aload_n hx hb dX10_setsOut_120 rfl (lv_at hl 0 rfl) ?_
    obtain ⟨v27, h28, h⟩ := ob h
    refine xr_getI C0 W0 cl_X10 47 (by decide) fl_X10_310 rfl h28 dX10_setsOut_121 ?_
    refine lv_aload_n hx hb dX10_setsOut_124 rfl (lv_at hl 0 rfl) ?_
    obtain ⟨v29, h30, h⟩ := ob h
    refine xr_getI C0 W0 cl_X10 47 (by decide) fl_X10_310 rfl h30 dX10_setsOut_125 ?_
    refine lv_iload hx hb dX10_setsOut_128 (lv_at hl 3 rfl) ?_
    refine lv_isub hx hb dX10_setsOut_130 ?_
    refine lv_aload_n hx hb dX10_setsOut_131 rfl (lv_at hl 0 rfl) ?_
    obtain ⟨q31, h32, h⟩ := ob h
    refine xr_getR C0 W0 cl_X10 45 (by decide) fl_X10_162 rfl h32 dX10_setsOut_132 ?_
    refine lv_iload_n hx hb dX10_setsOut_135 rfl (lv_at hl 2 rfl) ?_
    obtain ⟨v33, h34, h⟩ := ob h
    refine xr_iald C0 W0 h34 dX10_setsOut_136 ?_
    refine lv_iconst (v := 1) hx hb dX10_setsOut_137 (by decide) ?_
    refine lv_isub hx hb dX10_setsOut_138 ?_
    refine lv_icmp_ne (tgt := 146) hx hb dX10_setsOut_139 (by decide) (fun hcq => ?_) (fun hcq => ?_)
    · have h := it_f hcq h
      refine lv_iconst (v := 0) hx hb dX10_setsOut_146 (by decide) ?_
      exact tX10_setsOut_j147 C0 hret hrec hK W0 (lv_sub hl [0, 1, 2, 3, 4, 5] rfl) h
    · have h := it_t hcq h
      refine lv_iconst (v := 1) hx hb dX10_setsOut_142 (by decide) ?_
      refine lv_goto (tgt := 147) hx hb dX10_setsOut_143 (by decide) ?_
      exact tX10_setsOut_j147 C0 hret hrec hK W0 (lv_sub hl [0, 1, 2, 3, 4, 5] rfl) h
theorem tX10_setsOut_l62 {p : Program} {l : Launch} {e : Env} {s : State} {m : MethodId} {args : Array Value} {below : List Frame} {meth : Method} {c : Code} {G : XG} {X0 : XW} (C0 : XC p s m args meth c RX10 cX10_setsOut 7 G) (hret : meth.sig.returnType = none) {r : XW} {l0 : Nat} {l1 : Int32} {l2 : Int32} {l4 : Int32} {l5 : Int32} {Q : State → Prop} (hK : ∀ {H : Heap} {locs : List Loc} {ls : Array Slot}, XD G X0 r s H locs → lv_has ls 7 [(0, .ref l0), (1, .int l1), (2, .int l2), (4, .int l4), (5, .int l5)] → W p l e { frames := 2, cells := 0, slots := 0, locals := 120 } s m args below meth c H locs 0 0 Q (F0 m 206 ls [])) : ∀ (n : Nat) {y6 : Int32} {X : XW} {H : Heap} {locs : List Loc} {ls : Array Slot}, XD G X0 X s H locs → lv_has ls 7 [(0, .ref l0), (1, .int l1), (2, .int l2), (4, .int l4), (5, .int l5), (6, .int y6)] → fX10_setsOut_l62 l0 l1 l2 l4 l5 n y6 X = some r → W p l e { frames := 2, cells := 0, slots := 0, locals := 120 } s m args below meth c H locs 0 0 Q (F0 m 62 ls []) := by
  intro n
  induction n with
  | zero =>
    intro y6 X H locs ls W0 hl h
    cases h
  | succ n ih =>
    intro y6 X H locs ls W0 hl h
    exact tX10_setsOut_l62_b C0 hret (rec := fX10_setsOut_l62 l0 l1 l2 l4 l5 n) (fun W0 hl h => ih W0 hl h) hK W0 hl h
theorem tX10_setsOut_l41_b {p : Program} {l : Launch} {e : Env} {s : State} {m : MethodId} {args : Array Value} {below : List Frame} {meth : Method} {c : Code} {G : XG} {X0 : XW} (C0 : XC p s m args meth c RX10 cX10_setsOut 7 G) (hret : meth.sig.returnType = none) {r : XW} {l0 : Nat} {l1 : Int32} {l2 : Int32} {l4 : Int32} {Q : State → Prop} {rec : Int32 → XW → Option (XW)} (hrec : ∀ {y5 : Int32} {X : XW} {H : Heap} {locs : List Loc} {ls : Array Slot}, XD G X0 X s H locs → lv_has ls 7 [(0, .ref l0), (1, .int l1), (2, .int l2), (4, .int l4), (5, .int y5)] → rec y5 X = some r → W p l e { frames := 2, cells := 0, slots := 0, locals := 120 } s m args below meth c H locs 0 0 Q (F0 m 41 ls [])) (hK : ∀ {H : Heap} {locs : List Loc} {ls : Array Slot}, XD G X0 r s H locs → lv_has ls 7 [(0, .ref l0), (1, .int l1), (2, .int l2)] → W p l e { frames := 2, cells := 0, slots := 0, locals := 120 } s m args below meth c H locs 0 0 Q (F0 m 212 ls []))  {l5 : Int32} {X : XW} {H : Heap} {locs : List Loc} {ls : Array Slot} (W0 : XD G X0 X s H locs) (hl : lv_has ls 7 [(0, .ref l0), (1, .int l1), (2, .int l2), (4, .int l4), (5, .int l5)]) (h : fX10_setsOut_l41_b rec l0 l1 l2 l4 l5 X = some r) : W p l e { frames := 2, cells := 0, slots := 0, locals := 120 } s m args below meth c H locs 0 0 Q (F0 m 41 ls []) := by
  have hx := C0.1
  have hb := C0.2.1
  unfold fX10_setsOut_l41_b at h
  refine lv_iload hx hb dX10_setsOut_41 (lv_at hl 4 rfl) ?_
  refine lv_aload_n hx hb dX10_setsOut_43 rfl (lv_at hl 0 rfl) ?_
  obtain ⟨q1, h2, h⟩ := ob h
  refine xr_getR C0 W0 cl_X10 43 (by decide) fl_X10_156 rfl h2 dX10_setsOut_44 ?_
  refine lv_iload_n hx hb dX10_setsOut_47 rfl (lv_at hl 2 rfl) ?_
  obtain ⟨v3, h4, h⟩ := ob h
  refine xr_iald C0 W0 h4 dX10_setsOut_48 ?_
  refine lv_aload_n hx hb dX10_setsOut_49 rfl (lv_at hl 0 rfl) ?_
  obtain ⟨q5, h6, h⟩ := ob h
  refine xr_getR C0 W0 cl_X10 44 (by decide) fl_X10_159 rfl h6 dX10_setsOut_50 ?_
  refine lv_iload_n hx hb dX10_setsOut_53 rfl (lv_at hl 2 rfl) ?_
  obtain ⟨v7, h8, h⟩ := ob h
  refine xr_iald C0 W0 h8 dX10_setsOut_54 ?_
  refine lv_iadd hx hb dX10_setsOut_55 ?_
  refine lv_icmp_ge (tgt := 212) hx hb dX10_setsOut_56 (by decide) (fun hcq => ?_) (fun hcq => ?_)
  · have h := it_t hcq h
    cases h
    exact hK W0 (lv_sub hl [0, 1, 2] rfl)
  · have h := it_f hcq h
    refine lv_iconst (v := 0) hx hb dX10_setsOut_59 (by decide) ?_
    refine lv_istore (lv' := [(6, .int 0), (0, .ref l0), (1, .int l1), (2, .int l2), (4, .int l4), (5, .int l5)]) hx hb dX10_setsOut_60 hl (by decide) rfl (fun ls hl => ?_)
    obtain ⟨r9, h10, h⟩ := ob h
    refine tX10_setsOut_l62 C0 hret (fun {H} {locs} {ls} W0 hl => ?_) FU W0 (lv_sub hl [1, 2, 3, 4, 5, 0] rfl) h10
    refine lv_iinc (v := (l5 + 1)) (lv' := [(5, .int (l5 + 1)), (0, .ref l0), (1, .int l1), (2, .int l2), (4, .int l4)]) hx hb dX10_setsOut_206 hl (k := 4) rfl (ii (by decide)) (by decide) rfl (fun ls hl => ?_)
    refine lv_goto (tgt := 41) hx hb dX10_setsOut_209 (by decide) ?_
    exact hrec W0 (lv_sub hl [1, 2, 3, 4, 0] rfl) h
theorem tX10_setsOut_l41 {p : Program} {l : Launch} {e : Env} {s : State} {m : MethodId} {args : Array Value} {below : List Frame} {meth : Method} {c : Code} {G : XG} {X0 : XW} (C0 : XC p s m args meth c RX10 cX10_setsOut 7 G) (hret : meth.sig.returnType = none) {r : XW} {l0 : Nat} {l1 : Int32} {l2 : Int32} {l4 : Int32} {Q : State → Prop} (hK : ∀ {H : Heap} {locs : List Loc} {ls : Array Slot}, XD G X0 r s H locs → lv_has ls 7 [(0, .ref l0), (1, .int l1), (2, .int l2)] → W p l e { frames := 2, cells := 0, slots := 0, locals := 120 } s m args below meth c H locs 0 0 Q (F0 m 212 ls [])) : ∀ (n : Nat) {y5 : Int32} {X : XW} {H : Heap} {locs : List Loc} {ls : Array Slot}, XD G X0 X s H locs → lv_has ls 7 [(0, .ref l0), (1, .int l1), (2, .int l2), (4, .int l4), (5, .int y5)] → fX10_setsOut_l41 l0 l1 l2 l4 n y5 X = some r → W p l e { frames := 2, cells := 0, slots := 0, locals := 120 } s m args below meth c H locs 0 0 Q (F0 m 41 ls []) := by
  intro n
  induction n with
  | zero =>
    intro y5 X H locs ls W0 hl h
    cases h
  | succ n ih =>
    intro y5 X H locs ls W0 hl h
    exact tX10_setsOut_l41_b C0 hret (rec := fX10_setsOut_l41 l0 l1 l2 l4 n) (fun W0 hl h => ih W0 hl h) hK W0 hl h
theorem tX10_setsOut_l12_b {p : Program} {l : Launch} {e : Env} {s : State} {m : MethodId} {args : Array Value} {below : List Frame} {meth : Method} {c : Code} {G : XG} {X0 : XW} (C0 : XC p s m args meth c RX10 cX10_setsOut 7 G) (hret : meth.sig.returnType = none) {r : XW} {l0 : Nat} {l1 : Int32} {Q : State → Prop} {rec : Int32 → XW → Option (XW)} (hrec : ∀ {y2 : Int32} {X : XW} {H : Heap} {locs : List Loc} {ls : Array Slot}, XD G X0 X s H locs → lv_has ls 7 [(0, .ref l0), (1, .int l1), (2, .int y2)] → rec y2 X = some r → W p l e { frames := 2, cells := 0, slots := 0, locals := 120 } s m args below meth c H locs 0 0 Q (F0 m 12 ls [])) (hK : ∀ {H : Heap} {locs : List Loc} {ls : Array Slot}, XD G X0 r s H locs → lv_has ls 7 [] → W p l e { frames := 2, cells := 0, slots := 0, locals := 120 } s m args below meth c H locs 0 0 Q (F0 m 218 ls []))  {l2 : Int32} {X : XW} {H : Heap} {locs : List Loc} {ls : Array Slot} (W0 : XD G X0 X s H locs) (hl : lv_has ls 7 [(0, .ref l0), (1, .int l1), (2, .int l2)]) (h : fX10_setsOut_l12_b rec l0 l1 l2 X = some r) : W p l e { frames := 2, cells := 0, slots := 0, locals := 120 } s m args below meth c H locs 0 0 Q (F0 m 12 ls []) := by
  have hx := C0.1
  have hb := C0.2.1
  unfold fX10_setsOut_l12_b at h
  refine lv_iload_n hx hb dX10_setsOut_12 rfl (lv_at hl 2 rfl) ?_
  refine lv_aload_n hx hb dX10_setsOut_13 rfl (lv_at hl 0 rfl) ?_
  obtain ⟨v1, h2, h⟩ := ob h
  refine xr_getI C0 W0 cl_X10 42 (by decide) fl_X10_300 rfl h2 dX10_setsOut_14 ?_
  refine lv_icmp_ge (tgt := 218) hx hb dX10_setsOut_17 (by decide) (fun hcq => ?_) (fun hcq => ?_)
  · have h := it_t hcq h
    cases h
    exact hK W0 (lv_sub hl [] rfl)
  · have h := it_f hcq h
    refine lv_aload_n hx hb dX10_setsOut_20 rfl (lv_at hl 0 rfl) ?_
    refine lv_iload_n hx hb dX10_setsOut_21 rfl (lv_at hl 1 rfl) ?_
    refine lv_iload_n hx hb dX10_setsOut_22 rfl (lv_at hl 2 rfl) ?_
    obtain ⟨u3, h4, h⟩ := ob h
    obtain ⟨r5, h6, h⟩ := ob h
    refine xr_V (As := [.int l1, .int l2]) (rest := []) C0 W0 (ctX10_accents l G h6) (gK_of h4) (rr := (RX10, TX10, 57)) rfl rfl mc_X10_accents mv_X10_accents ml_X10_306 ⟨by decide, by decide⟩ rfl hl.1 rfl (Nat.le_of_ble_eq_true rfl) ⟨by decide, by decide⟩ dX10_setsOut_23 (fun H locs W0 => ?_)
    refine W.cs (cells' := 0) (slots' := 0) rfl rfl ?_
    refine W.eq (g2 := F0 m 26 ls [.int r5.1]) rfl ?_
    refine lv_istore_n (lv' := [(3, .int r5.1), (0, .ref l0), (1, .int l1), (2, .int l2)]) hx hb dX10_setsOut_26 rfl hl (by decide) rfl (fun ls hl => ?_)
    refine lv_aload_n hx hb dX10_setsOut_27 rfl (lv_at hl 1 rfl) ?_
    obtain ⟨v7, h8, h⟩ := ob h
    refine xr_getI C0 W0 cl_X10 47 (by decide) fl_X10_310 rfl h8 dX10_setsOut_28 ?_
    refine lv_istore (lv' := [(4, .int v7), (3, .int r5.1), (0, .ref l0), (1, .int l1), (2, .int l2)]) hx hb dX10_setsOut_31 hl (by decide) rfl (fun ls hl => ?_)
    refine lv_aload_n hx hb dX10_setsOut_33 rfl (lv_at hl 2 rfl) ?_
    obtain ⟨q9, h10, h⟩ := ob h
    refine xr_getR C0 W0 cl_X10 43 (by decide) fl_X10_156 rfl h10 dX10_setsOut_34 ?_
    refine lv_iload_n hx hb dX10_setsOut_37 rfl (lv_at hl 4 rfl) ?_
    obtain ⟨v11, h12, h⟩ := ob h
    refine xr_iald C0 W0 h12 dX10_setsOut_38 ?_
    refine lv_istore (lv' := [(5, .int v11), (4, .int v7), (3, .int r5.1), (0, .ref l0), (1, .int l1), (2, .int l2)]) hx hb dX10_setsOut_39 hl (by decide) rfl (fun ls hl => ?_)
    obtain ⟨r13, h14, h⟩ := ob h
    refine tX10_setsOut_l41 C0 hret (fun {H} {locs} {ls} W0 hl => ?_) FU W0 (lv_sub hl [3, 4, 5, 1, 0] rfl) h14
    refine lv_iinc (v := (l2 + 1)) (lv' := [(2, .int (l2 + 1)), (0, .ref l0), (1, .int l1)]) hx hb dX10_setsOut_212 hl (k := 2) rfl (ii (by decide)) (by decide) rfl (fun ls hl => ?_)
    refine lv_goto (tgt := 12) hx hb dX10_setsOut_215 (by decide) ?_
    exact hrec W0 (lv_sub hl [1, 2, 0] rfl) h
theorem tX10_setsOut_l12 {p : Program} {l : Launch} {e : Env} {s : State} {m : MethodId} {args : Array Value} {below : List Frame} {meth : Method} {c : Code} {G : XG} {X0 : XW} (C0 : XC p s m args meth c RX10 cX10_setsOut 7 G) (hret : meth.sig.returnType = none) {r : XW} {l0 : Nat} {l1 : Int32} {Q : State → Prop} (hK : ∀ {H : Heap} {locs : List Loc} {ls : Array Slot}, XD G X0 r s H locs → lv_has ls 7 [] → W p l e { frames := 2, cells := 0, slots := 0, locals := 120 } s m args below meth c H locs 0 0 Q (F0 m 218 ls [])) : ∀ (n : Nat) {y2 : Int32} {X : XW} {H : Heap} {locs : List Loc} {ls : Array Slot}, XD G X0 X s H locs → lv_has ls 7 [(0, .ref l0), (1, .int l1), (2, .int y2)] → fX10_setsOut_l12 l0 l1 n y2 X = some r → W p l e { frames := 2, cells := 0, slots := 0, locals := 120 } s m args below meth c H locs 0 0 Q (F0 m 12 ls []) := by
  intro n
  induction n with
  | zero =>
    intro y2 X H locs ls W0 hl h
    cases h
  | succ n ih =>
    intro y2 X H locs ls W0 hl h
    exact tX10_setsOut_l12_b C0 hret (rec := fX10_setsOut_l12 l0 l1 n) (fun W0 hl h => ih W0 hl h) hK W0 hl h
theorem ctX10_setsOut (l : Launch) (G : XG) {l0 : Nat} {l1 : Int32} {X : XW} {r : XW}  (h : fX10_setsOut l0 l1 X = some r) : XM l G yX10_setsOut cX10_setsOut 7 none 2 120 0 0 [.ref l0, .int l1] X (none, r) := by
  refine xm_of (own := RX10) (by decide) rfl (Nat.le_of_ble_eq_true rfl) ?_
  intro p e s m below meth c ls C0 W0 hret hnm hl
  have hx := C0.1
  have hb := C0.2.1
  have hl : lv_has ls 7 [(0, .ref l0), (1, .int l1)] := hl
  unfold fX10_setsOut at h
  refine lv_aload_n hx hb dX10_setsOut_0 rfl (lv_at hl 0 rfl) ?_
  refine lv_iload_n hx hb dX10_setsOut_1 rfl (lv_at hl 1 rfl) ?_
  obtain ⟨u1, h2, h⟩ := ob h
  obtain ⟨X3, h4, h⟩ := ob h
  refine xr_V (As := [.int l1]) (rest := []) C0 W0 (ctX10_findPhrases l G h4) (gK_of h2) (rr := (RX10, TX10, 57)) rfl rfl mc_X10_findPhrases mv_X10_findPhrases ml_X10_303 ⟨by decide, by decide⟩ rfl hl.1 rfl (Nat.le_of_ble_eq_true rfl) ⟨by decide, by decide⟩ dX10_setsOut_2 (fun H locs W0 => ?_)
  refine W.cs (cells' := 0) (slots' := 0) rfl rfl ?_
  refine W.eq (g2 := F0 m 5 ls []) rfl ?_
  refine lv_aload_n hx hb dX10_setsOut_5 rfl (lv_at hl 0 rfl) ?_
  refine lv_iconst (v := 0) hx hb dX10_setsOut_6 (by decide) ?_
  obtain ⟨X5, h6, h⟩ := ob h
  refine xr_putI C0 W0 cl_X10 47 (by decide) fl_X10_310 rfl rfl rfl (by decide) h6 dX10_setsOut_7 (fun H locs W0 => ?_)
  refine lv_iconst (v := 0) hx hb dX10_setsOut_10 (by decide) ?_
  refine lv_istore_n (lv' := [(2, .int 0), (0, .ref l0), (1, .int l1)]) hx hb dX10_setsOut_11 rfl hl (by decide) rfl (fun ls hl => ?_)
  obtain ⟨r7, h8, h⟩ := ob h
  refine tX10_setsOut_l12 C0 hret (fun {H} {locs} {ls} W0 hl => ?_) FU W0 (lv_sub hl [1, 2, 0] rfl) h8
  exact xr_vret C0 W0 hret (Option.some.inj h).symm dX10_setsOut_218
