def fX10_rank (l0 : Int32) (X : XW) : Option (Int32 × XW) :=
  fX10_isLetter l0 X >>= fun r1 =>
  if (r1.1 = 0 : Prop) then (some ((l0 - 21), r1.2))
  else (some ((l0 - 96), r1.2))
theorem ctX10_rank (l : Launch) (G : XG) {l0 : Int32} {X : XW} {r : Int32 × XW}  (h : fX10_rank l0 X = some r) : XM l G yX10_rank cX10_rank 1 (some .int) 1 60 0 0 [.int l0] X (some (.int r.1), r.2) := by
  refine xm_of (own := RX10) (by decide) rfl (Nat.le_of_ble_eq_true rfl) ?_
  intro p e s m below meth c ls C0 W0 hret hnm hl
  have hx := C0.1
  have hb := C0.2.1
  have hl : lv_has ls 1 [(0, .int l0)] := hl
  unfold fX10_rank at h
  refine lv_iload_n hx hb dX10_rank_0 rfl (lv_at hl 0 rfl) ?_
  obtain ⟨r1, h2, h⟩ := ob h
  refine xr_S (As := [.int l0]) (rest := []) C0 W0 (ctX10_isLetter l G h2) mc_X10_isLetter ms_X10_isLetter ml_X10_192 ⟨by decide, by decide⟩ rfl hl.1 rfl (Nat.le_of_ble_eq_true rfl) ⟨by decide, by decide⟩ dX10_rank_1 (fun H locs W0 => ?_)
  refine W.cs (cells' := 0) (slots' := 0) rfl rfl ?_
  refine W.eq (g2 := F0 m 4 ls [.int r1.1]) rfl ?_
  refine lv_if_eq (tgt := 14) hx hb dX10_rank_4 (by decide) (fun hcq => ?_) (fun hcq => ?_)
  · have h := it_t hcq h
    refine lv_iload_n hx hb dX10_rank_14 rfl (lv_at hl 0 rfl) ?_
    refine lv_bipush (v := 21) hx hb dX10_rank_15 (by decide) ?_
    refine lv_isub hx hb dX10_rank_17 ?_
    exact xr_iret C0 W0 hret (Option.some.inj h) dX10_rank_18
  · have h := it_f hcq h
    refine lv_iload_n hx hb dX10_rank_7 rfl (lv_at hl 0 rfl) ?_
    refine lv_bipush (v := 96) hx hb dX10_rank_8 (by decide) ?_
    refine lv_isub hx hb dX10_rank_10 ?_
    refine lv_goto (tgt := 18) hx hb dX10_rank_11 (by decide) ?_
    exact xr_iret C0 W0 hret (Option.some.inj h) dX10_rank_18
def fX10_isSignOf_j42   (X : XW) : Option (Int32 × XW) :=
  some (1, X)
def fX10_isSignOf (l0 : Int32) (X : XW) : Option (Int32 × XW) :=
  if (l0 = 40 : Prop) then (fX10_isSignOf_j42  X)
  else (if (l0 = 41 : Prop) then (fX10_isSignOf_j42  X)
    else (if (l0 = 59 : Prop) then (fX10_isSignOf_j42  X)
      else (if (l0 = 61 : Prop) then (fX10_isSignOf_j42  X)
        else (if (l0 = 60 : Prop) then (fX10_isSignOf_j42  X)
          else (if (l0 = 43 : Prop) then (fX10_isSignOf_j42  X)
            else (if (l0 = 45 : Prop) then (fX10_isSignOf_j42  X)
              else (some (0, X))))))))
theorem tX10_isSignOf_j42 {p : Program} {l : Launch} {e : Env} {s : State} {m : MethodId} {args : Array Value} {below : List Frame} {meth : Method} {c : Code} {G : XG} {X0 : XW} (C0 : XC p s m args meth c RX10 cX10_isSignOf 1 G) (hret : meth.sig.returnType = (some .boolean)) {r : Int32 × XW}  {X : XW} {H : Heap} {locs : List Loc} {ls : Array Slot} (W0 : XD G X0 X s H locs) (hl : lv_has ls 1 []) (h : fX10_isSignOf_j42  X = some r) : W p l e { frames := 0, cells := 0, slots := 0, locals := 0 } s m args below meth c H locs 0 0 (MQ below (XQ G X0 (some (.int r.1), r.2)) args s 0 0 (xAd X0)) (F0 m 42 ls []) := by
  have hx := C0.1
  have hb := C0.2.1
  unfold fX10_isSignOf_j42 at h
  refine lv_iconst (v := 1) hx hb dX10_isSignOf_42 (by decide) ?_
  refine lv_goto (tgt := 47) hx hb dX10_isSignOf_43 (by decide) ?_
  exact xr_zret C0 W0 hret (by decide) (Option.some.inj h) dX10_isSignOf_47
theorem ctX10_isSignOf (l : Launch) (G : XG) {l0 : Int32} {X : XW} {r : Int32 × XW}  (h : fX10_isSignOf l0 X = some r) : XM l G yX10_isSignOf cX10_isSignOf 1 (some .boolean) 0 0 0 0 [.int l0] X (some (.int r.1), r.2) := by
  refine xm_of (own := RX10) (by decide) rfl (Nat.le_of_ble_eq_true rfl) ?_
  intro p e s m below meth c ls C0 W0 hret hnm hl
  have hx := C0.1
  have hb := C0.2.1
  have hl : lv_has ls 1 [(0, .int l0)] := hl
  unfold fX10_isSignOf at h
  refine lv_iload_n hx hb dX10_isSignOf_0 rfl (lv_at hl 0 rfl) ?_
  refine lv_bipush (v := 40) hx hb dX10_isSignOf_1 (by decide) ?_
  refine lv_icmp_eq (tgt := 42) hx hb dX10_isSignOf_3 (by decide) (fun hcq => ?_) (fun hcq => ?_)
  · have h := it_t hcq h
    exact tX10_isSignOf_j42 C0 hret W0 (lv_sub hl [] rfl) h
  · have h := it_f hcq h
    refine lv_iload_n hx hb dX10_isSignOf_6 rfl (lv_at hl 0 rfl) ?_
    refine lv_bipush (v := 41) hx hb dX10_isSignOf_7 (by decide) ?_
    refine lv_icmp_eq (tgt := 42) hx hb dX10_isSignOf_9 (by decide) (fun hcq => ?_) (fun hcq => ?_)
    · have h := it_t hcq h
      exact tX10_isSignOf_j42 C0 hret W0 (lv_sub hl [] rfl) h
    · have h := it_f hcq h
      refine lv_iload_n hx hb dX10_isSignOf_12 rfl (lv_at hl 0 rfl) ?_
      refine lv_bipush (v := 59) hx hb dX10_isSignOf_13 (by decide) ?_
      refine lv_icmp_eq (tgt := 42) hx hb dX10_isSignOf_15 (by decide) (fun hcq => ?_) (fun hcq => ?_)
      · have h := it_t hcq h
        exact tX10_isSignOf_j42 C0 hret W0 (lv_sub hl [] rfl) h
      · have h := it_f hcq h
        refine lv_iload_n hx hb dX10_isSignOf_18 rfl (lv_at hl 0 rfl) ?_
        refine lv_bipush (v := 61) hx hb dX10_isSignOf_19 (by decide) ?_
        refine lv_icmp_eq (tgt := 42) hx hb dX10_isSignOf_21 (by decide) (fun hcq => ?_) (fun hcq => ?_)
        · have h := it_t hcq h
          exact tX10_isSignOf_j42 C0 hret W0 (lv_sub hl [] rfl) h
        · have h := it_f hcq h
          refine lv_iload_n hx hb dX10_isSignOf_24 rfl (lv_at hl 0 rfl) ?_
          refine lv_bipush (v := 60) hx hb dX10_isSignOf_25 (by decide) ?_
          refine lv_icmp_eq (tgt := 42) hx hb dX10_isSignOf_27 (by decide) (fun hcq => ?_) (fun hcq => ?_)
          · have h := it_t hcq h
            exact tX10_isSignOf_j42 C0 hret W0 (lv_sub hl [] rfl) h
          · have h := it_f hcq h
            refine lv_iload_n hx hb dX10_isSignOf_30 rfl (lv_at hl 0 rfl) ?_
            refine lv_bipush (v := 43) hx hb dX10_isSignOf_31 (by decide) ?_
            refine lv_icmp_eq (tgt := 42) hx hb dX10_isSignOf_33 (by decide) (fun hcq => ?_) (fun hcq => ?_)
            · have h := it_t hcq h
              exact tX10_isSignOf_j42 C0 hret W0 (lv_sub hl [] rfl) h
            · have h := it_f hcq h
              refine lv_iload_n hx hb dX10_isSignOf_36 rfl (lv_at hl 0 rfl) ?_
              refine lv_bipush (v := 45) hx hb dX10_isSignOf_37 (by decide) ?_
              refine lv_icmp_ne (tgt := 46) hx hb dX10_isSignOf_39 (by decide) (fun hcq => ?_) (fun hcq => ?_)
              · have h := it_f hcq h
                refine lv_iconst (v := 0) hx hb dX10_isSignOf_46 (by decide) ?_
                exact xr_zret C0 W0 hret (by decide) (Option.some.inj h) dX10_isSignOf_47
              · have h := it_t hcq h
                exact tX10_isSignOf_j42 C0 hret W0 (lv_sub hl [] rfl) h
def fX10_cutAll_j44 (rec : Int32 → Int32 → XW → Option (Int32 × XW)) (l0 : Nat) (l1 : Int32) (l2 : Int32) (X : XW) : Option (Int32 × XW) :=
  rec l1 (l2 + 1) X
def fX10_cutAll_j265 (rec : Int32 → Int32 → XW → Option (Int32 × XW)) (l0 : Nat) (l1 : Int32) (l2 : Int32) (l5 : Int64) (X : XW) : Option (Int32 × XW) :=
  gR X l0 10 6 >>= fun q1 =>
  uL X q1 l1 l5 >>= fun X3 =>
  rec (l1 + 1) l2 X3
def fX10_cutAll_j261 (rec : Int32 → Int32 → XW → Option (Int32 × XW)) (l0 : Nat) (l1 : Int32) (l2 : Int32) (l5 : Int64) (s0 : Int32) (s1 : Int32) (s2 : Nat) (X : XW) : Option (Int32 × XW) :=
  uI X s2 s1 s0 >>= fun X1 =>
  fX10_cutAll_j265 rec l0 l1 (l2 + 1) l5 X1
def fX10_cutAll_j210 (rec : Int32 → Int64 → XW → Option (Int32 × Int64 × XW)) (l0 : Nat) (l1 : Int32) (l2 : Int32) (l4 : Int32) (s0 : Int64) (X : XW) : Option (Int32 × Int64 × XW) :=
  rec (l2 + 1) s0 X
def fX10_cutAll_l159_b (rec : Int32 → Int64 → XW → Option (Int32 × Int64 × XW)) (l0 : Nat) (l1 : Int32) (l4 : Int32) (l2 : Int32) (l5 : Int64) (X : XW) : Option (Int32 × Int64 × XW) :=
  gI X l0 10 3 >>= fun v1 =>
  if (v1 ≤ l2 : Prop) then (some (l2, l5, X))
  else (gR X l0 10 1 >>= fun q3 =>
    aI X q3 1 l2 >>= fun v5 =>
    fX10_isDigit v5 X >>= fun r7 =>
    if (r7.1 = 0 : Prop) then (some (l2, l5, r7.2))
    else (if (4 ≤ (l2 - l4) : Prop) then (fX10_cutAll_j210 rec l0 l1 l2 l4 l5 r7.2)
      else (gR r7.2 l0 10 1 >>= fun q9 =>
        aI r7.2 q9 1 l2 >>= fun v11 =>
        fX10_cutAll_j210 rec l0 l1 l2 l4 (((10 * l5) + ((v11).toInt64)) - 48) r7.2)))
def fX10_cutAll_l159 (l0 : Nat) (l1 : Int32) (l4 : Int32) (n : Nat) : Int32 → Int64 → XW → Option (Int32 × Int64 × XW) := iter (fun rec => fX10_cutAll_l159_b rec l0 l1 l4) (fun _ _ _ => none) n
def fX10_cutAll_j236 (rec : Int32 → Int32 → XW → Option (Int32 × XW)) (l0 : Nat) (l1 : Int32) (l2 : Int32) (l5 : Int64) (s0 : Int32) (s1 : Int32) (s2 : Nat) (X : XW) : Option (Int32 × XW) :=
  uI X s2 s1 s0 >>= fun X1 =>
  fX10_cutAll_j265 rec l0 l1 l2 l5 X1
def fX10_cutAll_j121 (rec : Int32 → Int64 → XW → Option (Int32 × Int64 × XW)) (l0 : Nat) (l1 : Int32) (l2 : Int32) (l4 : Int32) (s0 : Int64) (X : XW) : Option (Int32 × Int64 × XW) :=
  rec (l2 + 1) s0 X
def fX10_cutAll_l70_b (rec : Int32 → Int64 → XW → Option (Int32 × Int64 × XW)) (l0 : Nat) (l1 : Int32) (l4 : Int32) (l2 : Int32) (l5 : Int64) (X : XW) : Option (Int32 × Int64 × XW) :=
  gI X l0 10 3 >>= fun v1 =>
  if (v1 ≤ l2 : Prop) then (some (l2, l5, X))
  else (gR X l0 10 1 >>= fun q3 =>
    aI X q3 1 l2 >>= fun v5 =>
    fX10_isLetter v5 X >>= fun r7 =>
    if (r7.1 = 0 : Prop) then (some (l2, l5, r7.2))
    else (if (8 ≤ (l2 - l4) : Prop) then (fX10_cutAll_j121 rec l0 l1 l2 l4 l5 r7.2)
      else (gR r7.2 l0 10 1 >>= fun q9 =>
        aI r7.2 q9 1 l2 >>= fun v11 =>
        fX10_rank v11 r7.2 >>= fun r13 =>
        fX10_cutAll_j121 rec l0 l1 l2 l4 ((37 * l5) + ((r13.1).toInt64)) r13.2)))
def fX10_cutAll_l70 (l0 : Nat) (l1 : Int32) (l4 : Int32) (n : Nat) : Int32 → Int64 → XW → Option (Int32 × Int64 × XW) := iter (fun rec => fX10_cutAll_l70_b rec l0 l1 l4) (fun _ _ _ => none) n
def fX10_cutAll_j148 (rec : Int32 → Int32 → XW → Option (Int32 × XW)) (l0 : Nat) (l1 : Int32) (l2 : Int32) (l5 : Int64) (s0 : Int32) (s1 : Int32) (s2 : Nat) (X : XW) : Option (Int32 × XW) :=
  uI X s2 s1 s0 >>= fun X1 =>
  fX10_cutAll_j265 rec l0 l1 l2 l5 X1
def fX10_cutAll_l17_b (rec : Int32 → Int32 → XW → Option (Int32 × XW)) (l0 : Nat) (l1 : Int32) (l2 : Int32) (X : XW) : Option (Int32 × XW) :=
  gI X l0 10 3 >>= fun v1 =>
  if (v1 ≤ l2 : Prop) then (some (l1, X))
  else (gR X l0 10 1 >>= fun q3 =>
    aI X q3 1 l2 >>= fun v5 =>
    if (v5 = 10 : Prop) then (fX10_cutAll_j44 rec l0 l1 l2 X)
    else (if (v5 = 32 : Prop) then (fX10_cutAll_j44 rec l0 l1 l2 X)
      else (gR X l0 10 5 >>= fun q7 =>
        uI X q7 l1 l2 >>= fun X9 =>
        fX10_isLetter v5 X9 >>= fun r11 =>
        if (r11.1 = 0 : Prop) then (fX10_isDigit v5 r11.2 >>= fun r13 =>
          if (r13.1 = 0 : Prop) then (gR r13.2 l0 10 4 >>= fun q15 =>
            fX10_isSignOf v5 r13.2 >>= fun r17 =>
            if (r17.1 = 0 : Prop) then (fX10_cutAll_j261 rec l0 l1 l2 ((v5).toInt64) 4 l1 q15 r17.2)
            else (fX10_cutAll_j261 rec l0 l1 l2 ((v5).toInt64) 3 l1 q15 r17.2))
          else (fX10_cutAll_l159 l0 l1 l2 FU l2 0 r13.2 >>= fun r19 =>
            gR r19.2.2 l0 10 4 >>= fun q21 =>
            if ((r19.1 - l2) ≤ 4 : Prop) then (fX10_cutAll_j236 rec l0 l1 r19.1 r19.2.1 2 l1 q21 r19.2.2)
            else (fX10_cutAll_j236 rec l0 l1 r19.1 r19.2.1 4 l1 q21 r19.2.2)))
        else (fX10_cutAll_l70 l0 l1 l2 FU l2 0 r11.2 >>= fun r23 =>
          gR r23.2.2 l0 10 4 >>= fun q25 =>
          if ((r23.1 - l2) ≤ 8 : Prop) then (fX10_cutAll_j148 rec l0 l1 r23.1 r23.2.1 1 l1 q25 r23.2.2)
          else (fX10_cutAll_j148 rec l0 l1 r23.1 r23.2.1 4 l1 q25 r23.2.2)))))
def fX10_cutAll_l17 (l0 : Nat) (n : Nat) : Int32 → Int32 → XW → Option (Int32 × XW) := iter (fun rec => fX10_cutAll_l17_b rec l0) (fun _ _ _ => none) n
def fX10_cutAll (l0 : Nat) (X : XW) : Option (XW) :=
  gI X l0 10 2 >>= fun v1 =>
  pI X l0 10 3 v1 >>= fun X3 =>
  pI X3 l0 10 2 0 >>= fun X5 =>
  fX10_cutAll_l17 l0 FU 0 0 X5 >>= fun r7 =>
  gR r7.2 l0 10 4 >>= fun q9 =>
  uI r7.2 q9 r7.1 0 >>= fun X11 =>
  gR X11 l0 10 5 >>= fun q13 =>
  gI X11 l0 10 3 >>= fun v15 =>
  uI X11 q13 r7.1 v15 >>= fun X17 =>
  pI X17 l0 10 7 0 >>= fun X19 =>
  pI X19 l0 10 8 0 >>= fun X21 =>
  some X21
theorem tX10_cutAll_j44 {p : Program} {l : Launch} {e : Env} {s : State} {m : MethodId} {args : Array Value} {below : List Frame} {meth : Method} {c : Code} {G : XG} {X0 : XW} (C0 : XC p s m args meth c RX10 cX10_cutAll 7 G) (hret : meth.sig.returnType = none) {r : Int32 × XW} {l0 : Nat} {Q : State → Prop} {rec : Int32 → Int32 → XW → Option (Int32 × XW)} (hrec : ∀ {y1 : Int32} {y2 : Int32} {X : XW} {H : Heap} {locs : List Loc} {ls : Array Slot}, XD G X0 X s H locs → lv_has ls 7 [(0, .ref l0), (1, .int y1), (2, .int y2)] → rec y1 y2 X = some r → W p l e { frames := 2, cells := 0, slots := 0, locals := 120 } s m args below meth c H locs 0 0 Q (F0 m 17 ls [])) (hK : ∀ {H : Heap} {locs : List Loc} {ls : Array Slot}, XD G X0 r.2 s H locs → lv_has ls 7 [(0, .ref l0), (1, .int r.1)] → W p l e { frames := 2, cells := 0, slots := 0, locals := 120 } s m args below meth c H locs 0 0 Q (F0 m 279 ls []))  {l1 : Int32} {l2 : Int32} {X : XW} {H : Heap} {locs : List Loc} {ls : Array Slot} (W0 : XD G X0 X s H locs) (hl : lv_has ls 7 [(0, .ref l0), (1, .int l1), (2, .int l2)]) (h : fX10_cutAll_j44 rec l0 l1 l2 X = some r) : W p l e { frames := 2, cells := 0, slots := 0, locals := 120 } s m args below meth c H locs 0 0 Q (F0 m 44 ls []) := by
  have hx := C0.1
  have hb := C0.2.1
  unfold fX10_cutAll_j44 at h
  refine lv_iinc (v := (l2 + 1)) (lv' := [(2, .int (l2 + 1)), (0, .ref l0), (1, .int l1)]) hx hb dX10_cutAll_44 hl (k := 2) rfl (ii (by decide)) (by decide) rfl (fun ls hl => ?_)
  refine lv_goto (tgt := 17) hx hb dX10_cutAll_47 (by decide) ?_
  exact hrec W0 (lv_sub hl [1, 2, 0] rfl) h
theorem tX10_cutAll_j265 {p : Program} {l : Launch} {e : Env} {s : State} {m : MethodId} {args : Array Value} {below : List Frame} {meth : Method} {c : Code} {G : XG} {X0 : XW} (C0 : XC p s m args meth c RX10 cX10_cutAll 7 G) (hret : meth.sig.returnType = none) {r : Int32 × XW} {l0 : Nat} {Q : State → Prop} {rec : Int32 → Int32 → XW → Option (Int32 × XW)} (hrec : ∀ {y1 : Int32} {y2 : Int32} {X : XW} {H : Heap} {locs : List Loc} {ls : Array Slot}, XD G X0 X s H locs → lv_has ls 7 [(0, .ref l0), (1, .int y1), (2, .int y2)] → rec y1 y2 X = some r → W p l e { frames := 2, cells := 0, slots := 0, locals := 120 } s m args below meth c H locs 0 0 Q (F0 m 17 ls [])) (hK : ∀ {H : Heap} {locs : List Loc} {ls : Array Slot}, XD G X0 r.2 s H locs → lv_has ls 7 [(0, .ref l0), (1, .int r.1)] → W p l e { frames := 2, cells := 0, slots := 0, locals := 120 } s m args below meth c H locs 0 0 Q (F0 m 279 ls []))  {l1 : Int32} {l2 : Int32} {l5 : Int64} {X : XW} {H : Heap} {locs : List Loc} {ls : Array Slot} (W0 : XD G X0 X s H locs) (hl : lv_has ls 7 [(0, .ref l0), (1, .int l1), (2, .int l2), (5, .long l5)]) (h : fX10_cutAll_j265 rec l0 l1 l2 l5 X = some r) : W p l e { frames := 2, cells := 0, slots := 0, locals := 120 } s m args below meth c H locs 0 0 Q (F0 m 265 ls []) := by
  have hx := C0.1
  have hb := C0.2.1
  unfold fX10_cutAll_j265 at h
  refine lv_aload_n hx hb dX10_cutAll_265 rfl (lv_at hl 0 rfl) ?_
  obtain ⟨q1, h2, h⟩ := ob h
  refine xr_getR C0 W0 cl_X10 6 (by decide) fl_X10_30 rfl h2 dX10_cutAll_266 ?_
  refine lv_iload_n hx hb dX10_cutAll_269 rfl (lv_at hl 1 rfl) ?_
  refine lv_lload hx hb dX10_cutAll_270 (lv_at hl 3 rfl) ?_
  obtain ⟨X3, h4, h⟩ := ob h
  refine xr_last C0 W0 h4 dX10_cutAll_272 (fun H locs W0 => ?_)
  refine lv_iinc (v := (l1 + 1)) (lv' := [(1, .int (l1 + 1)), (0, .ref l0), (2, .int l2), (5, .long l5)]) hx hb dX10_cutAll_273 hl (k := 1) rfl (ii (by decide)) (by decide) rfl (fun ls hl => ?_)
  refine lv_goto (tgt := 17) hx hb dX10_cutAll_276 (by decide) ?_
  exact hrec W0 (lv_sub hl [1, 0, 2] rfl) h
theorem tX10_cutAll_j261 {p : Program} {l : Launch} {e : Env} {s : State} {m : MethodId} {args : Array Value} {below : List Frame} {meth : Method} {c : Code} {G : XG} {X0 : XW} (C0 : XC p s m args meth c RX10 cX10_cutAll 7 G) (hret : meth.sig.returnType = none) {r : Int32 × XW} {l0 : Nat} {Q : State → Prop} {rec : Int32 → Int32 → XW → Option (Int32 × XW)} (hrec : ∀ {y1 : Int32} {y2 : Int32} {X : XW} {H : Heap} {locs : List Loc} {ls : Array Slot}, XD G X0 X s H locs → lv_has ls 7 [(0, .ref l0), (1, .int y1), (2, .int y2)] → rec y1 y2 X = some r → W p l e { frames := 2, cells := 0, slots := 0, locals := 120 } s m args below meth c H locs 0 0 Q (F0 m 17 ls [])) (hK : ∀ {H : Heap} {locs : List Loc} {ls : Array Slot}, XD G X0 r.2 s H locs → lv_has ls 7 [(0, .ref l0), (1, .int r.1)] → W p l e { frames := 2, cells := 0, slots := 0, locals := 120 } s m args below meth c H locs 0 0 Q (F0 m 279 ls []))  {l1 : Int32} {l2 : Int32} {l5 : Int64} {s0 : Int32} {s1 : Int32} {s2 : Nat} {X : XW} {H : Heap} {locs : List Loc} {ls : Array Slot} (W0 : XD G X0 X s H locs) (hl : lv_has ls 7 [(0, .ref l0), (1, .int l1), (2, .int l2), (5, .long l5)]) (h : fX10_cutAll_j261 rec l0 l1 l2 l5 s0 s1 s2 X = some r) : W p l e { frames := 2, cells := 0, slots := 0, locals := 120 } s m args below meth c H locs 0 0 Q (F0 m 261 ls [.int s0, .int s1, .ref s2]) := by
  have hx := C0.1
  have hb := C0.2.1
  unfold fX10_cutAll_j261 at h
  obtain ⟨X1, h2, h⟩ := ob h
  refine xr_iast C0 W0 h2 dX10_cutAll_261 (fun H locs W0 => ?_)
  refine lv_iinc (v := (l2 + 1)) (lv' := [(2, .int (l2 + 1)), (0, .ref l0), (1, .int l1), (5, .long l5)]) hx hb dX10_cutAll_262 hl (k := 2) rfl (ii (by decide)) (by decide) rfl (fun ls hl => ?_)
  exact tX10_cutAll_j265 C0 hret hrec hK W0 (lv_sub hl [1, 2, 0, 3] rfl) h
theorem tX10_cutAll_j210 {p : Program} {l : Launch} {e : Env} {s : State} {m : MethodId} {args : Array Value} {below : List Frame} {meth : Method} {c : Code} {G : XG} {X0 : XW} (C0 : XC p s m args meth c RX10 cX10_cutAll 7 G) (hret : meth.sig.returnType = none) {r : Int32 × Int64 × XW} {l0 : Nat} {l1 : Int32} {l4 : Int32} {Q : State → Prop} {rec : Int32 → Int64 → XW → Option (Int32 × Int64 × XW)} (hrec : ∀ {y2 : Int32} {y5 : Int64} {X : XW} {H : Heap} {locs : List Loc} {ls : Array Slot}, XD G X0 X s H locs → lv_has ls 7 [(0, .ref l0), (1, .int l1), (2, .int y2), (4, .int l4), (5, .long y5)] → rec y2 y5 X = some r → W p l e { frames := 2, cells := 0, slots := 0, locals := 120 } s m args below meth c H locs 0 0 Q (F0 m 159 ls [])) (hK : ∀ {H : Heap} {locs : List Loc} {ls : Array Slot}, XD G X0 r.2.2 s H locs → lv_has ls 7 [(0, .ref l0), (1, .int l1), (2, .int r.1), (4, .int l4), (5, .long r.2.1)] → W p l e { frames := 2, cells := 0, slots := 0, locals := 120 } s m args below meth c H locs 0 0 Q (F0 m 218 ls []))  {l2 : Int32} {s0 : Int64} {X : XW} {H : Heap} {locs : List Loc} {ls : Array Slot} (W0 : XD G X0 X s H locs) (hl : lv_has ls 7 [(0, .ref l0), (1, .int l1), (2, .int l2), (4, .int l4)]) (h : fX10_cutAll_j210 rec l0 l1 l2 l4 s0 X = some r) : W p l e { frames := 2, cells := 0, slots := 0, locals := 120 } s m args below meth c H locs 0 0 Q (F0 m 210 ls [.long s0]) := by
  have hx := C0.1
  have hb := C0.2.1
  unfold fX10_cutAll_j210 at h
  refine lv_lstore (lv' := [(5, .long s0), (0, .ref l0), (1, .int l1), (2, .int l2), (4, .int l4)]) hx hb dX10_cutAll_210 hl (by decide) rfl (fun ls hl => ?_)
  refine lv_iinc (v := (l2 + 1)) (lv' := [(2, .int (l2 + 1)), (5, .long s0), (0, .ref l0), (1, .int l1), (4, .int l4)]) hx hb dX10_cutAll_212 hl (k := 3) rfl (ii (by decide)) (by decide) rfl (fun ls hl => ?_)
  refine lv_goto (tgt := 159) hx hb dX10_cutAll_215 (by decide) ?_
  exact hrec W0 (lv_sub hl [2, 3, 0, 4, 1] rfl) h
theorem tX10_cutAll_l159_b {p : Program} {l : Launch} {e : Env} {s : State} {m : MethodId} {args : Array Value} {below : List Frame} {meth : Method} {c : Code} {G : XG} {X0 : XW} (C0 : XC p s m args meth c RX10 cX10_cutAll 7 G) (hret : meth.sig.returnType = none) {r : Int32 × Int64 × XW} {l0 : Nat} {l1 : Int32} {l4 : Int32} {Q : State → Prop} {rec : Int32 → Int64 → XW → Option (Int32 × Int64 × XW)} (hrec : ∀ {y2 : Int32} {y5 : Int64} {X : XW} {H : Heap} {locs : List Loc} {ls : Array Slot}, XD G X0 X s H locs → lv_has ls 7 [(0, .ref l0), (1, .int l1), (2, .int y2), (4, .int l4), (5, .long y5)] → rec y2 y5 X = some r → W p l e { frames := 2, cells := 0, slots := 0, locals := 120 } s m args below meth c H locs 0 0 Q (F0 m 159 ls [])) (hK : ∀ {H : Heap} {locs : List Loc} {ls : Array Slot}, XD G X0 r.2.2 s H locs → lv_has ls 7 [(0, .ref l0), (1, .int l1), (2, .int r.1), (4, .int l4), (5, .long r.2.1)] → W p l e { frames := 2, cells := 0, slots := 0, locals := 120 } s m args below meth c H locs 0 0 Q (F0 m 218 ls []))  {l2 : Int32} {l5 : Int64} {X : XW} {H : Heap} {locs : List Loc} {ls : Array Slot} (W0 : XD G X0 X s H locs) (hl : lv_has ls 7 [(0, .ref l0), (1, .int l1), (2, .int l2), (4, .int l4), (5, .long l5)]) (h : fX10_cutAll_l159_b rec l0 l1 l4 l2 l5 X = some r) : W p l e { frames := 2, cells := 0, slots := 0, locals := 120 } s m args below meth c H locs 0 0 Q (F0 m 159 ls []) := by
  have hx := C0.1
  have hb := C0.2.1
  unfold fX10_cutAll_l159_b at h
  refine lv_iload_n hx hb dX10_cutAll_159 rfl (lv_at hl 2 rfl) ?_
  refine lv_aload_n hx hb dX10_cutAll_160 rfl (lv_at hl 0 rfl) ?_
  obtain ⟨v1, h2, h⟩ := ob h
  refine xr_getI C0 W0 cl_X10 3 (by decide) fl_X10_196 rfl h2 dX10_cutAll_161 ?_
  refine lv_icmp_ge (tgt := 218) hx hb dX10_cutAll_164 (by decide) (fun hcq => ?_) (fun hcq => ?_)
  · have h := it_t hcq h
    cases h
    exact hK W0 (lv_sub hl [0, 1, 2, 3, 4] rfl)
  · have h := it_f hcq h
    refine lv_aload_n hx hb dX10_cutAll_167 rfl (lv_at hl 0 rfl) ?_
    obtain ⟨q3, h4, h⟩ := ob h
    refine xr_getR C0 W0 cl_X10 1 (by decide) fl_X10_14 rfl h4 dX10_cutAll_168 ?_
    refine lv_iload_n hx hb dX10_cutAll_171 rfl (lv_at hl 2 rfl) ?_
    obtain ⟨v5, h6, h⟩ := ob h
    refine xr_iald C0 W0 h6 dX10_cutAll_172 ?_
    obtain ⟨r7, h8, h⟩ := ob h
    refine xr_S (As := [.int v5]) (rest := []) C0 W0 (ctX10_isDigit l G h8) mc_X10_isDigit ms_X10_isDigit ml_X10_205 ⟨by decide, by decide⟩ rfl hl.1 rfl (Nat.le_of_ble_eq_true rfl) ⟨by decide, by decide⟩ dX10_cutAll_173 (fun H locs W0 => ?_)
    refine W.cs (cells' := 0) (slots' := 0) rfl rfl ?_
    refine W.eq (g2 := F0 m 176 ls [.int r7.1]) rfl ?_
    refine lv_if_eq (tgt := 218) hx hb dX10_cutAll_176 (by decide) (fun hcq => ?_) (fun hcq => ?_)
    · have h := it_t hcq h
      cases h
      exact hK W0 (lv_sub hl [0, 1, 2, 3, 4] rfl)
    · have h := it_f hcq h
      refine lv_iload_n hx hb dX10_cutAll_179 rfl (lv_at hl 2 rfl) ?_
      refine lv_iload hx hb dX10_cutAll_180 (lv_at hl 3 rfl) ?_
      refine lv_isub hx hb dX10_cutAll_182 ?_
      refine lv_iconst (v := 4) hx hb dX10_cutAll_183 (by decide) ?_
      refine lv_icmp_ge (tgt := 208) hx hb dX10_cutAll_184 (by decide) (fun hcq => ?_) (fun hcq => ?_)
      · have h := it_t hcq h
        refine lv_lload hx hb dX10_cutAll_208 (lv_at hl 4 rfl) ?_
        exact tX10_cutAll_j210 C0 hret hrec hK W0 (lv_sub hl [0, 1, 2, 3] rfl) h
      · have h := it_f hcq h
        refine lv_ldc2 hx hb C0.2.2.2.1 (C0.2.2.2.2.1 _ kj_X10_208) dX10_cutAll_187 ?_
        refine lv_lload hx hb dX10_cutAll_190 (lv_at hl 4 rfl) ?_
        refine lv_lmul hx hb dX10_cutAll_192 ?_
        refine lv_aload_n hx hb dX10_cutAll_193 rfl (lv_at hl 0 rfl) ?_
        obtain ⟨q9, h10, h⟩ := ob h
        refine xr_getR C0 W0 cl_X10 1 (by decide) fl_X10_14 rfl h10 dX10_cutAll_194 ?_
        refine lv_iload_n hx hb dX10_cutAll_197 rfl (lv_at hl 2 rfl) ?_
        obtain ⟨v11, h12, h⟩ := ob h
        refine xr_iald C0 W0 h12 dX10_cutAll_198 ?_
        refine lv_i2l (v := ((v11).toInt64)) hx hb dX10_cutAll_199 rfl ?_
        refine lv_ladd hx hb dX10_cutAll_200 ?_
        refine lv_ldc2 hx hb C0.2.2.2.1 (C0.2.2.2.2.1 _ kj_X10_210) dX10_cutAll_201 ?_
        refine lv_lsub hx hb dX10_cutAll_204 ?_
        refine lv_goto (tgt := 210) hx hb dX10_cutAll_205 (by decide) ?_
        exact tX10_cutAll_j210 C0 hret hrec hK W0 (lv_sub hl [0, 1, 2, 3] rfl) h
theorem tX10_cutAll_l159 {p : Program} {l : Launch} {e : Env} {s : State} {m : MethodId} {args : Array Value} {below : List Frame} {meth : Method} {c : Code} {G : XG} {X0 : XW} (C0 : XC p s m args meth c RX10 cX10_cutAll 7 G) (hret : meth.sig.returnType = none) {r : Int32 × Int64 × XW} {l0 : Nat} {l1 : Int32} {l4 : Int32} {Q : State → Prop} (hK : ∀ {H : Heap} {locs : List Loc} {ls : Array Slot}, XD G X0 r.2.2 s H locs → lv_has ls 7 [(0, .ref l0), (1, .int l1), (2, .int r.1), (4, .int l4), (5, .long r.2.1)] → W p l e { frames := 2, cells := 0, slots := 0, locals := 120 } s m args below meth c H locs 0 0 Q (F0 m 218 ls [])) : ∀ (n : Nat) {y2 : Int32} {y5 : Int64} {X : XW} {H : Heap} {locs : List Loc} {ls : Array Slot}, XD G X0 X s H locs → lv_has ls 7 [(0, .ref l0), (1, .int l1), (2, .int y2), (4, .int l4), (5, .long y5)] → fX10_cutAll_l159 l0 l1 l4 n y2 y5 X = some r → W p l e { frames := 2, cells := 0, slots := 0, locals := 120 } s m args below meth c H locs 0 0 Q (F0 m 159 ls []) := by
  intro n
  induction n with
  | zero =>
    intro y2 y5 X H locs ls W0 hl h
    cases h
  | succ n ih =>
    intro y2 y5 X H locs ls W0 hl h
    exact tX10_cutAll_l159_b C0 hret (rec := fX10_cutAll_l159 l0 l1 l4 n) (fun W0 hl h => ih W0 hl h) hK W0 hl h
theorem tX10_cutAll_j236 {p : Program} {l : Launch} {e : Env} {s : State} {m : MethodId} {args : Array Value} {below : List Frame} {meth : Method} {c : Code} {G : XG} {X0 : XW} (C0 : XC p s m args meth c RX10 cX10_cutAll 7 G) (hret : meth.sig.returnType = none) {r : Int32 × XW} {l0 : Nat} {Q : State → Prop} {rec : Int32 → Int32 → XW → Option (Int32 × XW)} (hrec : ∀ {y1 : Int32} {y2 : Int32} {X : XW} {H : Heap} {locs : List Loc} {ls : Array Slot}, XD G X0 X s H locs → lv_has ls 7 [(0, .ref l0), (1, .int y1), (2, .int y2)] → rec y1 y2 X = some r → W p l e { frames := 2, cells := 0, slots := 0, locals := 120 } s m args below meth c H locs 0 0 Q (F0 m 17 ls [])) (hK : ∀ {H : Heap} {locs : List Loc} {ls : Array Slot}, XD G X0 r.2 s H locs → lv_has ls 7 [(0, .ref l0), (1, .int r.1)] → W p l e { frames := 2, cells := 0, slots := 0, locals := 120 } s m args below meth c H locs 0 0 Q (F0 m 279 ls []))  {l1 : Int32} {l2 : Int32} {l5 : Int64} {s0 : Int32} {s1 : Int32} {s2 : Nat} {X : XW} {H : Heap} {locs : List Loc} {ls : Array Slot} (W0 : XD G X0 X s H locs) (hl : lv_has ls 7 [(0, .ref l0), (1, .int l1), (2, .int l2), (5, .long l5)]) (h : fX10_cutAll_j236 rec l0 l1 l2 l5 s0 s1 s2 X = some r) : W p l e { frames := 2, cells := 0, slots := 0, locals := 120 } s m args below meth c H locs 0 0 Q (F0 m 236 ls [.int s0, .int s1, .ref s2]) := by
  have hx := C0.1
  have hb := C0.2.1
  unfold fX10_cutAll_j236 at h
  obtain ⟨X1, h2, h⟩ := ob h
  refine xr_iast C0 W0 h2 dX10_cutAll_236 (fun H locs W0 => ?_)
  refine lv_goto (tgt := 265) hx hb dX10_cutAll_237 (by decide) ?_
  exact tX10_cutAll_j265 C0 hret hrec hK W0 (lv_sub hl [0, 1, 2, 3] rfl) h
theorem tX10_cutAll_j121 {p : Program} {l : Launch} {e : Env} {s : State} {m : MethodId} {args : Array Value} {below : List Frame} {meth : Method} {c : Code} {G : XG} {X0 : XW} (C0 : XC p s m args meth c RX10 cX10_cutAll 7 G) (hret : meth.sig.returnType = none) {r : Int32 × Int64 × XW} {l0 : Nat} {l1 : Int32} {l4 : Int32} {Q : State → Prop} {rec : Int32 → Int64 → XW → Option (Int32 × Int64 × XW)} (hrec : ∀ {y2 : Int32} {y5 : Int64} {X : XW} {H : Heap} {locs : List Loc} {ls : Array Slot}, XD G X0 X s H locs → lv_has ls 7 [(0, .ref l0), (1, .int l1), (2, .int y2), (4, .int l4), (5, .long y5)] → rec y2 y5 X = some r → W p l e { frames := 2, cells := 0, slots := 0, locals := 120 } s m args below meth c H locs 0 0 Q (F0 m 70 ls [])) (hK : ∀ {H : Heap} {locs : List Loc} {ls : Array Slot}, XD G X0 r.2.2 s H locs → lv_has ls 7 [(0, .ref l0), (1, .int l1), (2, .int r.1), (4, .int l4), (5, .long r.2.1)] → W p l e { frames := 2, cells := 0, slots := 0, locals := 120 } s m args below meth c H locs 0 0 Q (F0 m 129 ls []))  {l2 : Int32} {s0 : Int64} {X : XW} {H : Heap} {locs : List Loc} {ls : Array Slot} (W0 : XD G X0 X s H locs) (hl : lv_has ls 7 [(0, .ref l0), (1, .int l1), (2, .int l2), (4, .int l4)]) (h : fX10_cutAll_j121 rec l0 l1 l2 l4 s0 X = some r) : W p l e { frames := 2, cells := 0, slots := 0, locals := 120 } s m args below meth c H locs 0 0 Q (F0 m 121 ls [.long s0]) := by
  have hx := C0.1
  have hb := C0.2.1
  unfold fX10_cutAll_j121 at h
  refine lv_lstore (lv' := [(5, .long s0), (0, .ref l0), (1, .int l1), (2, .int l2), (4, .int l4)]) hx hb dX10_cutAll_121 hl (by decide) rfl (fun ls hl => ?_)
  refine lv_iinc (v := (l2 + 1)) (lv' := [(2, .int (l2 + 1)), (5, .long s0), (0, .ref l0), (1, .int l1), (4, .int l4)]) hx hb dX10_cutAll_123 hl (k := 3) rfl (ii (by decide)) (by decide) rfl (fun ls hl => ?_)
  refine lv_goto (tgt := 70) hx hb dX10_cutAll_126 (by decide) ?_
  exact hrec W0 (lv_sub hl [2, 3, 0, 4, 1] rfl) h
theorem tX10_cutAll_l70_b {p : Program} {l : Launch} {e : Env} {s : State} {m : MethodId} {args : Array Value} {below : List Frame} {meth : Method} {c : Code} {G : XG} {X0 : XW} (C0 : XC p s m args meth c RX10 cX10_cutAll 7 G) (hret : meth.sig.returnType = none) {r : Int32 × Int64 × XW} {l0 : Nat} {l1 : Int32} {l4 : Int32} {Q : State → Prop} {rec : Int32 → Int64 → XW → Option (Int32 × Int64 × XW)} (hrec : ∀ {y2 : Int32} {y5 : Int64} {X : XW} {H : Heap} {locs : List Loc} {ls : Array Slot}, XD G X0 X s H locs → lv_has ls 7 [(0, .ref l0), (1, .int l1), (2, .int y2), (4, .int l4), (5, .long y5)] → rec y2 y5 X = some r → W p l e { frames := 2, cells := 0, slots := 0, locals := 120 } s m args below meth c H locs 0 0 Q (F0 m 70 ls [])) (hK : ∀ {H : Heap} {locs : List Loc} {ls : Array Slot}, XD G X0 r.2.2 s H locs → lv_has ls 7 [(0, .ref l0), (1, .int l1), (2, .int r.1), (4, .int l4), (5, .long r.2.1)] → W p l e { frames := 2, cells := 0, slots := 0, locals := 120 } s m args below meth c H locs 0 0 Q (F0 m 129 ls []))  {l2 : Int32} {l5 : Int64} {X : XW} {H : Heap} {locs : List Loc} {ls : Array Slot} (W0 : XD G X0 X s H locs) (hl : lv_has ls 7 [(0, .ref l0), (1, .int l1), (2, .int l2), (4, .int l4), (5, .long l5)]) (h : fX10_cutAll_l70_b rec l0 l1 l4 l2 l5 X = some r) : W p l e { frames := 2, cells := 0, slots := 0, locals := 120 } s m args below meth c H locs 0 0 Q (F0 m 70 ls []) := by
  have hx := C0.1
  have hb := C0.2.1
  unfold fX10_cutAll_l70_b at h
  refine lv_iload_n hx hb dX10_cutAll_70 rfl (lv_at hl 2 rfl) ?_
  refine lv_aload_n hx hb dX10_cutAll_71 rfl (lv_at hl 0 rfl) ?_
  obtain ⟨v1, h2, h⟩ := ob h
  refine xr_getI C0 W0 cl_X10 3 (by decide) fl_X10_196 rfl h2 dX10_cutAll_72 ?_
  refine lv_icmp_ge (tgt := 129) hx hb dX10_cutAll_75 (by decide) (fun hcq => ?_) (fun hcq => ?_)
  · have h := it_t hcq h
    cases h
    exact hK W0 (lv_sub hl [0, 1, 2, 3, 4] rfl)
  · have h := it_f hcq h
    refine lv_aload_n hx hb dX10_cutAll_78 rfl (lv_at hl 0 rfl) ?_
    obtain ⟨q3, h4, h⟩ := ob h
    refine xr_getR C0 W0 cl_X10 1 (by decide) fl_X10_14 rfl h4 dX10_cutAll_79 ?_
    refine lv_iload_n hx hb dX10_cutAll_82 rfl (lv_at hl 2 rfl) ?_
    obtain ⟨v5, h6, h⟩ := ob h
    refine xr_iald C0 W0 h6 dX10_cutAll_83 ?_
    obtain ⟨r7, h8, h⟩ := ob h
    refine xr_S (As := [.int v5]) (rest := []) C0 W0 (ctX10_isLetter l G h8) mc_X10_isLetter ms_X10_isLetter ml_X10_192 ⟨by decide, by decide⟩ rfl hl.1 rfl (Nat.le_of_ble_eq_true rfl) ⟨by decide, by decide⟩ dX10_cutAll_84 (fun H locs W0 => ?_)
    refine W.cs (cells' := 0) (slots' := 0) rfl rfl ?_
    refine W.eq (g2 := F0 m 87 ls [.int r7.1]) rfl ?_
    refine lv_if_eq (tgt := 129) hx hb dX10_cutAll_87 (by decide) (fun hcq => ?_) (fun hcq => ?_)
    · have h := it_t hcq h
      cases h
      exact hK W0 (lv_sub hl [0, 1, 2, 3, 4] rfl)
    · have h := it_f hcq h
      refine lv_iload_n hx hb dX10_cutAll_90 rfl (lv_at hl 2 rfl) ?_
      refine lv_iload hx hb dX10_cutAll_91 (lv_at hl 3 rfl) ?_
      refine lv_isub hx hb dX10_cutAll_93 ?_
      refine lv_bipush (v := 8) hx hb dX10_cutAll_94 (by decide) ?_
      refine lv_icmp_ge (tgt := 119) hx hb dX10_cutAll_96 (by decide) (fun hcq => ?_) (fun hcq => ?_)
      · have h := it_t hcq h
        refine lv_lload hx hb dX10_cutAll_119 (lv_at hl 4 rfl) ?_
        exact tX10_cutAll_j121 C0 hret hrec hK W0 (lv_sub hl [0, 1, 2, 3] rfl) h
      · have h := it_f hcq h
        refine lv_ldc2 hx hb C0.2.2.2.1 (C0.2.2.2.2.1 _ kj_X10_199) dX10_cutAll_99 ?_
        refine lv_lload hx hb dX10_cutAll_102 (lv_at hl 4 rfl) ?_
        refine lv_lmul hx hb dX10_cutAll_104 ?_
        refine lv_aload_n hx hb dX10_cutAll_105 rfl (lv_at hl 0 rfl) ?_
        obtain ⟨q9, h10, h⟩ := ob h
        refine xr_getR C0 W0 cl_X10 1 (by decide) fl_X10_14 rfl h10 dX10_cutAll_106 ?_
        refine lv_iload_n hx hb dX10_cutAll_109 rfl (lv_at hl 2 rfl) ?_
        obtain ⟨v11, h12, h⟩ := ob h
        refine xr_iald C0 W0 h12 dX10_cutAll_110 ?_
        obtain ⟨r13, h14, h⟩ := ob h
        refine xr_S (As := [.int v11]) (rest := [.long (37 * l5)]) C0 W0 (ctX10_rank l G h14) mc_X10_rank ms_X10_rank ml_X10_201 ⟨by decide, by decide⟩ rfl hl.1 rfl (Nat.le_of_ble_eq_true rfl) ⟨by decide, by decide⟩ dX10_cutAll_111 (fun H locs W0 => ?_)
        refine W.cs (cells' := 0) (slots' := 0) rfl rfl ?_
        refine W.eq (g2 := F0 m 114 ls [.int r13.1, .long (37 * l5)]) rfl ?_
        refine lv_i2l (v := ((r13.1).toInt64)) hx hb dX10_cutAll_114 rfl ?_
        refine lv_ladd hx hb dX10_cutAll_115 ?_
        refine lv_goto (tgt := 121) hx hb dX10_cutAll_116 (by decide) ?_
        exact tX10_cutAll_j121 C0 hret hrec hK W0 (lv_sub hl [0, 1, 2, 3] rfl) h
theorem tX10_cutAll_l70 {p : Program} {l : Launch} {e : Env} {s : State} {m : MethodId} {args : Array Value} {below : List Frame} {meth : Method} {c : Code} {G : XG} {X0 : XW} (C0 : XC p s m args meth c RX10 cX10_cutAll 7 G) (hret : meth.sig.returnType = none) {r : Int32 × Int64 × XW} {l0 : Nat} {l1 : Int32} {l4 : Int32} {Q : State → Prop} (hK : ∀ {H : Heap} {locs : List Loc} {ls : Array Slot}, XD G X0 r.2.2 s H locs → lv_has ls 7 [(0, .ref l0), (1, .int l1), (2, .int r.1), (4, .int l4), (5, .long r.2.1)] → W p l e { frames := 2, cells := 0, slots := 0, locals := 120 } s m args below meth c H locs 0 0 Q (F0 m 129 ls [])) : ∀ (n : Nat) {y2 : Int32} {y5 : Int64} {X : XW} {H : Heap} {locs : List Loc} {ls : Array Slot}, XD G X0 X s H locs → lv_has ls 7 [(0, .ref l0), (1, .int l1), (2, .int y2), (4, .int l4), (5, .long y5)] → fX10_cutAll_l70 l0 l1 l4 n y2 y5 X = some r → W p l e { frames := 2, cells := 0, slots := 0, locals := 120 } s m args below meth c H locs 0 0 Q (F0 m 70 ls []) := by
  intro n
  induction n with
  | zero =>
    intro y2 y5 X H locs ls W0 hl h
    cases h
  | succ n ih =>
    intro y2 y5 X H locs ls W0 hl h
    exact tX10_cutAll_l70_b C0 hret (rec := fX10_cutAll_l70 l0 l1 l4 n) (fun W0 hl h => ih W0 hl h) hK W0 hl h
theorem tX10_cutAll_j148 {p : Program} {l : Launch} {e : Env} {s : State} {m : MethodId} {args : Array Value} {below : List Frame} {meth : Method} {c : Code} {G : XG} {X0 : XW} (C0 : XC p s m args meth c RX10 cX10_cutAll 7 G) (hret : meth.sig.returnType = none) {r : Int32 × XW} {l0 : Nat} {Q : State → Prop} {rec : Int32 → Int32 → XW → Option (Int32 × XW)} (hrec : ∀ {y1 : Int32} {y2 : Int32} {X : XW} {H : Heap} {locs : List Loc} {ls : Array Slot}, XD G X0 X s H locs → lv_has ls 7 [(0, .ref l0), (1, .int y1), (2, .int y2)] → rec y1 y2 X = some r → W p l e { frames := 2, cells := 0, slots := 0, locals := 120 } s m args below meth c H locs 0 0 Q (F0 m 17 ls [])) (hK : ∀ {H : Heap} {locs : List Loc} {ls : Array Slot}, XD G X0 r.2 s H locs → lv_has ls 7 [(0, .ref l0), (1, .int r.1)] → W p l e { frames := 2, cells := 0, slots := 0, locals := 120 } s m args below meth c H locs 0 0 Q (F0 m 279 ls []))  {l1 : Int32} {l2 : Int32} {l5 : Int64} {s0 : Int32} {s1 : Int32} {s2 : Nat} {X : XW} {H : Heap} {locs : List Loc} {ls : Array Slot} (W0 : XD G X0 X s H locs) (hl : lv_has ls 7 [(0, .ref l0), (1, .int l1), (2, .int l2), (5, .long l5)]) (h : fX10_cutAll_j148 rec l0 l1 l2 l5 s0 s1 s2 X = some r) : W p l e { frames := 2, cells := 0, slots := 0, locals := 120 } s m args below meth c H locs 0 0 Q (F0 m 148 ls [.int s0, .int s1, .ref s2]) := by
  have hx := C0.1
  have hb := C0.2.1
  unfold fX10_cutAll_j148 at h
  obtain ⟨X1, h2, h⟩ := ob h
  refine xr_iast C0 W0 h2 dX10_cutAll_148 (fun H locs W0 => ?_)
  refine lv_goto (tgt := 265) hx hb dX10_cutAll_149 (by decide) ?_
  exact tX10_cutAll_j265 C0 hret hrec hK W0 (lv_sub hl [0, 1, 2, 3] rfl) h
theorem tX10_cutAll_l17_b {p : Program} {l : Launch} {e : Env} {s : State} {m : MethodId} {args : Array Value} {below : List Frame} {meth : Method} {c : Code} {G : XG} {X0 : XW} (C0 : XC p s m args meth c RX10 cX10_cutAll 7 G) (hret : meth.sig.returnType = none) {r : Int32 × XW} {l0 : Nat} {Q : State → Prop} {rec : Int32 → Int32 → XW → Option (Int32 × XW)} (hrec : ∀ {y1 : Int32} {y2 : Int32} {X : XW} {H : Heap} {locs : List Loc} {ls : Array Slot}, XD G X0 X s H locs → lv_has ls 7 [(0, .ref l0), (1, .int y1), (2, .int y2)] → rec y1 y2 X = some r → W p l e { frames := 2, cells := 0, slots := 0, locals := 120 } s m args below meth c H locs 0 0 Q (F0 m 17 ls [])) (hK : ∀ {H : Heap} {locs : List Loc} {ls : Array Slot}, XD G X0 r.2 s H locs → lv_has ls 7 [(0, .ref l0), (1, .int r.1)] → W p l e { frames := 2, cells := 0, slots := 0, locals := 120 } s m args below meth c H locs 0 0 Q (F0 m 279 ls []))  {l1 : Int32} {l2 : Int32} {X : XW} {H : Heap} {locs : List Loc} {ls : Array Slot} (W0 : XD G X0 X s H locs) (hl : lv_has ls 7 [(0, .ref l0), (1, .int l1), (2, .int l2)]) (h : fX10_cutAll_l17_b rec l0 l1 l2 X = some r) : W p l e { frames := 2, cells := 0, slots := 0, locals := 120 } s m args below meth c H locs 0 0 Q (F0 m 17 ls []) := by
  have hx := C0.1
  have hb := C0.2.1
  unfold fX10_cutAll_l17_b at h
  refine lv_iload_n hx hb dX10_cutAll_17 rfl (lv_at hl 2 rfl) ?_
  refine lv_aload_n hx hb dX10_cutAll_18 rfl (lv_at hl 0 rfl) ?_
  obtain ⟨v1, h2, h⟩ := ob h
  refine xr_getI C0 W0 cl_X10 3 (by decide) fl_X10_196 rfl h2 dX10_cutAll_19 ?_
  refine lv_icmp_ge (tgt := 279) hx hb dX10_cutAll_22 (by decide) (fun hcq => ?_) (fun hcq => ?_)
  · have h := it_t hcq h
    cases h
    exact hK W0 (lv_sub hl [0, 1] rfl)
  · have h := it_f hcq h
    refine lv_aload_n hx hb dX10_cutAll_25 rfl (lv_at hl 0 rfl) ?_
    obtain ⟨q3, h4, h⟩ := ob h
    refine xr_getR C0 W0 cl_X10 1 (by decide) fl_X10_14 rfl h4 dX10_cutAll_26 ?_
    refine lv_iload_n hx hb dX10_cutAll_29 rfl (lv_at hl 2 rfl) ?_
    obtain ⟨v5, h6, h⟩ := ob h
    refine xr_iald C0 W0 h6 dX10_cutAll_30 ?_
    refine lv_istore_n (lv' := [(3, .int v5), (0, .ref l0), (1, .int l1), (2, .int l2)]) hx hb dX10_cutAll_31 rfl hl (by decide) rfl (fun ls hl => ?_)
    refine lv_iload_n hx hb dX10_cutAll_32 rfl (lv_at hl 0 rfl) ?_
    refine lv_bipush (v := 10) hx hb dX10_cutAll_33 (by decide) ?_
    refine lv_icmp_eq (tgt := 44) hx hb dX10_cutAll_35 (by decide) (fun hcq => ?_) (fun hcq => ?_)
    · have h := it_t hcq h
      exact tX10_cutAll_j44 C0 hret hrec hK W0 (lv_sub hl [1, 2, 3] rfl) h
    · have h := it_f hcq h
      refine lv_iload_n hx hb dX10_cutAll_38 rfl (lv_at hl 0 rfl) ?_
      refine lv_bipush (v := 32) hx hb dX10_cutAll_39 (by decide) ?_
      refine lv_icmp_ne (tgt := 50) hx hb dX10_cutAll_41 (by decide) (fun hcq => ?_) (fun hcq => ?_)
      · have h := it_f hcq h
        refine lv_iload_n hx hb dX10_cutAll_50 rfl (lv_at hl 3 rfl) ?_
        refine lv_istore (lv' := [(4, .int l2), (3, .int v5), (0, .ref l0), (1, .int l1), (2, .int l2)]) hx hb dX10_cutAll_51 hl (by decide) rfl (fun ls hl => ?_)
        refine lv_lconst (v := 0) hx hb dX10_cutAll_53 (by decide) ?_
        refine lv_lstore (lv' := [(5, .long 0), (4, .int l2), (3, .int v5), (0, .ref l0), (1, .int l1), (2, .int l2)]) hx hb dX10_cutAll_54 hl (by decide) rfl (fun ls hl => ?_)
        refine lv_aload_n hx hb dX10_cutAll_56 rfl (lv_at hl 3 rfl) ?_
        obtain ⟨q7, h8, h⟩ := ob h
        refine xr_getR C0 W0 cl_X10 5 (by decide) fl_X10_27 rfl h8 dX10_cutAll_57 ?_
        refine lv_iload_n hx hb dX10_cutAll_60 rfl (lv_at hl 4 rfl) ?_
        refine lv_iload_n hx hb dX10_cutAll_61 rfl (lv_at hl 5 rfl) ?_
        obtain ⟨X9, h10, h⟩ := ob h
        refine xr_iast C0 W0 h10 dX10_cutAll_62 (fun H locs W0 => ?_)
        refine lv_iload_n hx hb dX10_cutAll_63 rfl (lv_at hl 2 rfl) ?_
        obtain ⟨r11, h12, h⟩ := ob h
        refine xr_S (As := [.int v5]) (rest := []) C0 W0 (ctX10_isLetter l G h12) mc_X10_isLetter ms_X10_isLetter ml_X10_192 ⟨by decide, by decide⟩ rfl hl.1 rfl (Nat.le_of_ble_eq_true rfl) ⟨by decide, by decide⟩ dX10_cutAll_64 (fun H locs W0 => ?_)
        refine W.cs (cells' := 0) (slots' := 0) rfl rfl ?_
        refine W.eq (g2 := F0 m 67 ls [.int r11.1]) rfl ?_
        refine lv_if_eq (tgt := 152) hx hb dX10_cutAll_67 (by decide) (fun hcq => ?_) (fun hcq => ?_)
        · have h := it_t hcq h
          refine lv_iload_n hx hb dX10_cutAll_152 rfl (lv_at hl 2 rfl) ?_
          obtain ⟨r13, h14, h⟩ := ob h
          refine xr_S (As := [.int v5]) (rest := []) C0 W0 (ctX10_isDigit l G h14) mc_X10_isDigit ms_X10_isDigit ml_X10_205 ⟨by decide, by decide⟩ rfl hl.1 rfl (Nat.le_of_ble_eq_true rfl) ⟨by decide, by decide⟩ dX10_cutAll_153 (fun H locs W0 => ?_)
          refine W.cs (cells' := 0) (slots' := 0) rfl rfl ?_
          refine W.eq (g2 := F0 m 156 ls [.int r13.1]) rfl ?_
          refine lv_if_eq (tgt := 240) hx hb dX10_cutAll_156 (by decide) (fun hcq => ?_) (fun hcq => ?_)
          · have h := it_t hcq h
            refine lv_iload_n hx hb dX10_cutAll_240 rfl (lv_at hl 2 rfl) ?_
            refine lv_i2l (v := ((v5).toInt64)) hx hb dX10_cutAll_241 rfl ?_
            refine lv_lstore (lv' := [(5, .long ((v5).toInt64)), (4, .int l2), (3, .int v5), (0, .ref l0), (1, .int l1), (2, .int l2)]) hx hb dX10_cutAll_242 hl (by decide) rfl (fun ls hl => ?_)
            refine lv_aload_n hx hb dX10_cutAll_244 rfl (lv_at hl 3 rfl) ?_
            obtain ⟨q15, h16, h⟩ := ob h
            refine xr_getR C0 W0 cl_X10 4 (by decide) fl_X10_24 rfl h16 dX10_cutAll_245 ?_
            refine lv_iload_n hx hb dX10_cutAll_248 rfl (lv_at hl 4 rfl) ?_
            refine lv_iload_n hx hb dX10_cutAll_249 rfl (lv_at hl 2 rfl) ?_
            obtain ⟨r17, h18, h⟩ := ob h
            refine xr_S (As := [.int v5]) (rest := [.int l1, .ref q15]) C0 W0 (ctX10_isSignOf l G h18) mc_X10_isSignOf ms_X10_isSignOf ml_X10_212 ⟨by decide, by decide⟩ rfl hl.1 rfl (Nat.le_of_ble_eq_true rfl) ⟨by decide, by decide⟩ dX10_cutAll_250 (fun H locs W0 => ?_)
            refine W.cs (cells' := 0) (slots' := 0) rfl rfl ?_
            refine W.eq (g2 := F0 m 253 ls [.int r17.1, .int l1, .ref q15]) rfl ?_
            refine lv_if_eq (tgt := 260) hx hb dX10_cutAll_253 (by decide) (fun hcq => ?_) (fun hcq => ?_)
            · have h := it_t hcq h
              refine lv_iconst (v := 4) hx hb dX10_cutAll_260 (by decide) ?_
              exact tX10_cutAll_j261 C0 hret hrec hK W0 (lv_sub hl [3, 4, 5, 0] rfl) h
            · have h := it_f hcq h
              refine lv_iconst (v := 3) hx hb dX10_cutAll_256 (by decide) ?_
              refine lv_goto (tgt := 261) hx hb dX10_cutAll_257 (by decide) ?_
              exact tX10_cutAll_j261 C0 hret hrec hK W0 (lv_sub hl [3, 4, 5, 0] rfl) h
          · have h := it_f hcq h
            obtain ⟨r19, h20, h⟩ := ob h
            refine tX10_cutAll_l159 C0 hret (fun {H} {locs} {ls} W0 hl => ?_) FU W0 (lv_sub hl [3, 4, 5, 1, 0] rfl) h20
            refine lv_aload_n hx hb dX10_cutAll_218 rfl (lv_at hl 0 rfl) ?_
            obtain ⟨q21, h22, h⟩ := ob h
            refine xr_getR C0 W0 cl_X10 4 (by decide) fl_X10_24 rfl h22 dX10_cutAll_219 ?_
            refine lv_iload_n hx hb dX10_cutAll_222 rfl (lv_at hl 1 rfl) ?_
            refine lv_iload_n hx hb dX10_cutAll_223 rfl (lv_at hl 2 rfl) ?_
            refine lv_iload hx hb dX10_cutAll_224 (lv_at hl 3 rfl) ?_
            refine lv_isub hx hb dX10_cutAll_226 ?_
            refine lv_iconst (v := 4) hx hb dX10_cutAll_227 (by decide) ?_
            refine lv_icmp_le (tgt := 235) hx hb dX10_cutAll_228 (by decide) (fun hcq => ?_) (fun hcq => ?_)
            · have h := it_t hcq h
              refine lv_iconst (v := 2) hx hb dX10_cutAll_235 (by decide) ?_
              exact tX10_cutAll_j236 C0 hret hrec hK W0 (lv_sub hl [0, 1, 2, 4] rfl) h
            · have h := it_f hcq h
              refine lv_iconst (v := 4) hx hb dX10_cutAll_231 (by decide) ?_
              refine lv_goto (tgt := 236) hx hb dX10_cutAll_232 (by decide) ?_
              exact tX10_cutAll_j236 C0 hret hrec hK W0 (lv_sub hl [0, 1, 2, 4] rfl) h
        · have h := it_f hcq h
          obtain ⟨r23, h24, h⟩ := ob h
          refine tX10_cutAll_l70 C0 hret (fun {H} {locs} {ls} W0 hl => ?_) FU W0 (lv_sub hl [3, 4, 5, 1, 0] rfl) h24
          refine lv_aload_n hx hb dX10_cutAll_129 rfl (lv_at hl 0 rfl) ?_
          obtain ⟨q25, h26, h⟩ := ob h
          refine xr_getR C0 W0 cl_X10 4 (by decide) fl_X10_24 rfl h26 dX10_cutAll_130 ?_
          refine lv_iload_n hx hb dX10_cutAll_133 rfl (lv_at hl 1 rfl) ?_
          refine lv_iload_n hx hb dX10_cutAll_134 rfl (lv_at hl 2 rfl) ?_
          refine lv_iload hx hb dX10_cutAll_135 (lv_at hl 3 rfl) ?_
          refine lv_isub hx hb dX10_cutAll_137 ?_
          refine lv_bipush (v := 8) hx hb dX10_cutAll_138 (by decide) ?_
          refine lv_icmp_le (tgt := 147) hx hb dX10_cutAll_140 (by decide) (fun hcq => ?_) (fun hcq => ?_)
          · have h := it_t hcq h
            refine lv_iconst (v := 1) hx hb dX10_cutAll_147 (by decide) ?_
            exact tX10_cutAll_j148 C0 hret hrec hK W0 (lv_sub hl [0, 1, 2, 4] rfl) h
          · have h := it_f hcq h
            refine lv_iconst (v := 4) hx hb dX10_cutAll_143 (by decide) ?_
            refine lv_goto (tgt := 148) hx hb dX10_cutAll_144 (by decide) ?_
            exact tX10_cutAll_j148 C0 hret hrec hK W0 (lv_sub hl [0, 1, 2, 4] rfl) h
      · have h := it_t hcq h
        exact tX10_cutAll_j44 C0 hret hrec hK W0 (lv_sub hl [1, 2, 3] rfl) h
theorem tX10_cutAll_l17 {p : Program} {l : Launch} {e : Env} {s : State} {m : MethodId} {args : Array Value} {below : List Frame} {meth : Method} {c : Code} {G : XG} {X0 : XW} (C0 : XC p s m args meth c RX10 cX10_cutAll 7 G) (hret : meth.sig.returnType = none) {r : Int32 × XW} {l0 : Nat} {Q : State → Prop} (hK : ∀ {H : Heap} {locs : List Loc} {ls : Array Slot}, XD G X0 r.2 s H locs → lv_has ls 7 [(0, .ref l0), (1, .int r.1)] → W p l e { frames := 2, cells := 0, slots := 0, locals := 120 } s m args below meth c H locs 0 0 Q (F0 m 279 ls [])) : ∀ (n : Nat) {y1 : Int32} {y2 : Int32} {X : XW} {H : Heap} {locs : List Loc} {ls : Array Slot}, XD G X0 X s H locs → lv_has ls 7 [(0, .ref l0), (1, .int y1), (2, .int y2)] → fX10_cutAll_l17 l0 n y1 y2 X = some r → W p l e { frames := 2, cells := 0, slots := 0, locals := 120 } s m args below meth c H locs 0 0 Q (F0 m 17 ls []) := by
  intro n
  induction n with
  | zero =>
    intro y1 y2 X H locs ls W0 hl h
    cases h
  | succ n ih =>
    intro y1 y2 X H locs ls W0 hl h
    exact tX10_cutAll_l17_b C0 hret (rec := fX10_cutAll_l17 l0 n) (fun W0 hl h => ih W0 hl h) hK W0 hl h
theorem ctX10_cutAll (l : Launch) (G : XG) {l0 : Nat} {X : XW} {r : XW}  (h : fX10_cutAll l0 X = some r) : XM l G yX10_cutAll cX10_cutAll 7 none 2 120 0 0 [.ref l0] X (none, r) := by
  refine xm_of (own := RX10) (by decide) rfl (Nat.le_of_ble_eq_true rfl) ?_
  intro p e s m below meth c ls C0 W0 hret hnm hl
  have hx := C0.1
  have hb := C0.2.1
  have hl : lv_has ls 7 [(0, .ref l0)] := hl
  unfold fX10_cutAll at h
  refine lv_aload_n hx hb dX10_cutAll_0 rfl (lv_at hl 0 rfl) ?_
  refine lv_aload_n hx hb dX10_cutAll_1 rfl (lv_at hl 0 rfl) ?_
  obtain ⟨v1, h2, h⟩ := ob h
  refine xr_getI C0 W0 cl_X10 2 (by decide) fl_X10_11 rfl h2 dX10_cutAll_2 ?_
  obtain ⟨X3, h4, h⟩ := ob h
  refine xr_putI C0 W0 cl_X10 3 (by decide) fl_X10_196 rfl rfl rfl (by decide) h4 dX10_cutAll_5 (fun H locs W0 => ?_)
  refine lv_aload_n hx hb dX10_cutAll_8 rfl (lv_at hl 0 rfl) ?_
  refine lv_iconst (v := 0) hx hb dX10_cutAll_9 (by decide) ?_
  obtain ⟨X5, h6, h⟩ := ob h
  refine xr_putI C0 W0 cl_X10 2 (by decide) fl_X10_11 rfl rfl rfl (by decide) h6 dX10_cutAll_10 (fun H locs W0 => ?_)
  refine lv_iconst (v := 0) hx hb dX10_cutAll_13 (by decide) ?_
  refine lv_istore_n (lv' := [(1, .int 0), (0, .ref l0)]) hx hb dX10_cutAll_14 rfl hl (by decide) rfl (fun ls hl => ?_)
  refine lv_iconst (v := 0) hx hb dX10_cutAll_15 (by decide) ?_
  refine lv_istore_n (lv' := [(2, .int 0), (1, .int 0), (0, .ref l0)]) hx hb dX10_cutAll_16 rfl hl (by decide) rfl (fun ls hl => ?_)
  obtain ⟨r7, h8, h⟩ := ob h
  refine tX10_cutAll_l17 C0 hret (fun {H} {locs} {ls} W0 hl => ?_) FU W0 (lv_sub hl [2, 1, 0] rfl) h8
  refine lv_aload_n hx hb dX10_cutAll_279 rfl (lv_at hl 0 rfl) ?_
  obtain ⟨q9, h10, h⟩ := ob h
  refine xr_getR C0 W0 cl_X10 4 (by decide) fl_X10_24 rfl h10 dX10_cutAll_280 ?_
  refine lv_iload_n hx hb dX10_cutAll_283 rfl (lv_at hl 1 rfl) ?_
  refine lv_iconst (v := 0) hx hb dX10_cutAll_284 (by decide) ?_
  obtain ⟨X11, h12, h⟩ := ob h
  refine xr_iast C0 W0 h12 dX10_cutAll_285 (fun H locs W0 => ?_)
  refine lv_aload_n hx hb dX10_cutAll_286 rfl (lv_at hl 0 rfl) ?_
  obtain ⟨q13, h14, h⟩ := ob h
  refine xr_getR C0 W0 cl_X10 5 (by decide) fl_X10_27 rfl h14 dX10_cutAll_287 ?_
  refine lv_iload_n hx hb dX10_cutAll_290 rfl (lv_at hl 1 rfl) ?_
  refine lv_aload_n hx hb dX10_cutAll_291 rfl (lv_at hl 0 rfl) ?_
  obtain ⟨v15, h16, h⟩ := ob h
  refine xr_getI C0 W0 cl_X10 3 (by decide) fl_X10_196 rfl h16 dX10_cutAll_292 ?_
  obtain ⟨X17, h18, h⟩ := ob h
  refine xr_iast C0 W0 h18 dX10_cutAll_295 (fun H locs W0 => ?_)
  refine lv_aload_n hx hb dX10_cutAll_296 rfl (lv_at hl 0 rfl) ?_
  refine lv_iconst (v := 0) hx hb dX10_cutAll_297 (by decide) ?_
  obtain ⟨X19, h20, h⟩ := ob h
  refine xr_putI C0 W0 cl_X10 7 (by decide) fl_X10_215 rfl rfl rfl (by decide) h20 dX10_cutAll_298 (fun H locs W0 => ?_)
  refine lv_aload_n hx hb dX10_cutAll_301 rfl (lv_at hl 0 rfl) ?_
  refine lv_iconst (v := 0) hx hb dX10_cutAll_302 (by decide) ?_
  obtain ⟨X21, h22, h⟩ := ob h
  refine xr_putI C0 W0 cl_X10 8 (by decide) fl_X10_218 rfl rfl rfl (by decide) h22 dX10_cutAll_303 (fun H locs W0 => ?_)
  exact xr_vret C0 W0 hret (Option.some.inj h).symm dX10_cutAll_306
def fX10_wrong (l0 : Nat) (l1 : Int32) (X : XW) : Option (XW) :=
  gI X l0 10 8 >>= fun v1 =>
  if (v1 = 0 : Prop) then (gR X l0 10 5 >>= fun q3 =>
    gI X l0 10 7 >>= fun v5 =>
    aI X q3 1 v5 >>= fun v7 =>
    pI X l0 10 8 (l1 + (16 * v7)) >>= fun X9 =>
    some X9)
  else (some X)
theorem ctX10_wrong (l : Launch) (G : XG) {l0 : Nat} {l1 : Int32} {X : XW} {r : XW}  (h : fX10_wrong l0 l1 X = some r) : XM l G yX10_wrong cX10_wrong 2 none 0 0 0 0 [.ref l0, .int l1] X (none, r) := by
  refine xm_of (own := RX10) (by decide) rfl (Nat.le_of_ble_eq_true rfl) ?_
  intro p e s m below meth c ls C0 W0 hret hnm hl
  have hx := C0.1
  have hb := C0.2.1
  have hl : lv_has ls 2 [(0, .ref l0), (1, .int l1)] := hl
  unfold fX10_wrong at h
  refine lv_aload_n hx hb dX10_wrong_0 rfl (lv_at hl 0 rfl) ?_
  obtain ⟨v1, h2, h⟩ := ob h
  refine xr_getI C0 W0 cl_X10 8 (by decide) fl_X10_218 rfl h2 dX10_wrong_1 ?_
  refine lv_if_ne (tgt := 25) hx hb dX10_wrong_4 (by decide) (fun hcq => ?_) (fun hcq => ?_)
  · have h := it_f hcq h
    exact xr_vret C0 W0 hret (Option.some.inj h).symm dX10_wrong_25
  · have h := it_t hcq h
    refine lv_aload_n hx hb dX10_wrong_7 rfl (lv_at hl 0 rfl) ?_
    refine lv_iload_n hx hb dX10_wrong_8 rfl (lv_at hl 1 rfl) ?_
    refine lv_bipush (v := 16) hx hb dX10_wrong_9 (by decide) ?_
    refine lv_aload_n hx hb dX10_wrong_11 rfl (lv_at hl 0 rfl) ?_
    obtain ⟨q3, h4, h⟩ := ob h
    refine xr_getR C0 W0 cl_X10 5 (by decide) fl_X10_27 rfl h4 dX10_wrong_12 ?_
    refine lv_aload_n hx hb dX10_wrong_15 rfl (lv_at hl 0 rfl) ?_
    obtain ⟨v5, h6, h⟩ := ob h
    refine xr_getI C0 W0 cl_X10 7 (by decide) fl_X10_215 rfl h6 dX10_wrong_16 ?_
    obtain ⟨v7, h8, h⟩ := ob h
    refine xr_iald C0 W0 h8 dX10_wrong_19 ?_
    refine lv_imul hx hb dX10_wrong_20 ?_
    refine lv_iadd hx hb dX10_wrong_21 ?_
    obtain ⟨X9, h10, h⟩ := ob h
    refine xr_putI C0 W0 cl_X10 8 (by decide) fl_X10_218 rfl rfl rfl (by decide) h10 dX10_wrong_22 (fun H locs W0 => ?_)
    exact xr_vret C0 W0 hret (Option.some.inj h).symm dX10_wrong_25
def fX10_isSign (l0 : Nat) (l1 : Int32) (X : XW) : Option (Int32 × XW) :=
  gI X l0 10 8 >>= fun v1 =>
  if (v1 = 0 : Prop) then (gR X l0 10 4 >>= fun q3 =>
    gI X l0 10 7 >>= fun v5 =>
    aI X q3 1 v5 >>= fun v7 =>
    if (v7 = 3 : Prop) then (gR X l0 10 6 >>= fun q9 =>
      gI X l0 10 7 >>= fun v11 =>
      aL X q9 v11 >>= fun v13 =>
      if ((lg_cmp v13 ((l1).toInt64)) = 0 : Prop) then (some (1, X))
      else (some (0, X)))
    else (some (0, X)))
  else (some (0, X))
theorem ctX10_isSign (l : Launch) (G : XG) {l0 : Nat} {l1 : Int32} {X : XW} {r : Int32 × XW}  (h : fX10_isSign l0 l1 X = some r) : XM l G yX10_isSign cX10_isSign 2 (some .boolean) 0 0 0 0 [.ref l0, .int l1] X (some (.int r.1), r.2) := by
  refine xm_of (own := RX10) (by decide) rfl (Nat.le_of_ble_eq_true rfl) ?_
  intro p e s m below meth c ls C0 W0 hret hnm hl
  have hx := C0.1
  have hb := C0.2.1
  have hl : lv_has ls 2 [(0, .ref l0), (1, .int l1)] := hl
  unfold fX10_isSign at h
  refine lv_aload_n hx hb dX10_isSign_0 rfl (lv_at hl 0 rfl) ?_
  obtain ⟨v1, h2, h⟩ := ob h
  refine xr_getI C0 W0 cl_X10 8 (by decide) fl_X10_218 rfl h2 dX10_isSign_1 ?_
  refine lv_if_ne (tgt := 39) hx hb dX10_isSign_4 (by decide) (fun hcq => ?_) (fun hcq => ?_)
  · have h := it_f hcq h
    refine lv_iconst (v := 0) hx hb dX10_isSign_39 (by decide) ?_
    exact xr_zret C0 W0 hret (by decide) (Option.some.inj h) dX10_isSign_40
  · have h := it_t hcq h
    refine lv_aload_n hx hb dX10_isSign_7 rfl (lv_at hl 0 rfl) ?_
    obtain ⟨q3, h4, h⟩ := ob h
    refine xr_getR C0 W0 cl_X10 4 (by decide) fl_X10_24 rfl h4 dX10_isSign_8 ?_
    refine lv_aload_n hx hb dX10_isSign_11 rfl (lv_at hl 0 rfl) ?_
    obtain ⟨v5, h6, h⟩ := ob h
    refine xr_getI C0 W0 cl_X10 7 (by decide) fl_X10_215 rfl h6 dX10_isSign_12 ?_
    obtain ⟨v7, h8, h⟩ := ob h
    refine xr_iald C0 W0 h8 dX10_isSign_15 ?_
    refine lv_iconst (v := 3) hx hb dX10_isSign_16 (by decide) ?_
    refine lv_icmp_ne (tgt := 39) hx hb dX10_isSign_17 (by decide) (fun hcq => ?_) (fun hcq => ?_)
    · have h := it_f hcq h
      refine lv_iconst (v := 0) hx hb dX10_isSign_39 (by decide) ?_
      exact xr_zret C0 W0 hret (by decide) (Option.some.inj h) dX10_isSign_40
    · have h := it_t hcq h
      refine lv_aload_n hx hb dX10_isSign_20 rfl (lv_at hl 0 rfl) ?_
      obtain ⟨q9, h10, h⟩ := ob h
      refine xr_getR C0 W0 cl_X10 6 (by decide) fl_X10_30 rfl h10 dX10_isSign_21 ?_
      refine lv_aload_n hx hb dX10_isSign_24 rfl (lv_at hl 0 rfl) ?_
      obtain ⟨v11, h12, h⟩ := ob h
      refine xr_getI C0 W0 cl_X10 7 (by decide) fl_X10_215 rfl h12 dX10_isSign_25 ?_
      obtain ⟨v13, h14, h⟩ := ob h
      refine xr_lald C0 W0 h14 dX10_isSign_28 ?_
      refine lv_iload_n hx hb dX10_isSign_29 rfl (lv_at hl 1 rfl) ?_
      refine lv_i2l (v := ((l1).toInt64)) hx hb dX10_isSign_30 rfl ?_
      refine W.lcmp hx hb dX10_isSign_31 ?_
      refine lv_if_ne (tgt := 39) hx hb dX10_isSign_32 (by decide) (fun hcq => ?_) (fun hcq => ?_)
      · have h := it_f hcq h
        refine lv_iconst (v := 0) hx hb dX10_isSign_39 (by decide) ?_
        exact xr_zret C0 W0 hret (by decide) (Option.some.inj h) dX10_isSign_40
      · have h := it_t hcq h
        refine lv_iconst (v := 1) hx hb dX10_isSign_35 (by decide) ?_
        refine lv_goto (tgt := 40) hx hb dX10_isSign_36 (by decide) ?_
        exact xr_zret C0 W0 hret (by decide) (Option.some.inj h) dX10_isSign_40
def fX10_isWord (l0 : Nat) (l1 : Int32) (X : XW) : Option (Int32 × XW) :=
  gI X l0 10 8 >>= fun v1 =>
  if (v1 = 0 : Prop) then (gR X l0 10 4 >>= fun q3 =>
    gI X l0 10 7 >>= fun v5 =>
    aI X q3 1 v5 >>= fun v7 =>
    if (v7 = 1 : Prop) then (gR X l0 10 6 >>= fun q9 =>
      gI X l0 10 7 >>= fun v11 =>
      aL X q9 v11 >>= fun v13 =>
      gR X l0 10 9 >>= fun q15 =>
      aL X q15 l1 >>= fun v17 =>
      if ((lg_cmp v13 v17) = 0 : Prop) then (some (1, X))
      else (some (0, X)))
    else (some (0, X)))
  else (some (0, X))
theorem ctX10_isWord (l : Launch) (G : XG) {l0 : Nat} {l1 : Int32} {X : XW} {r : Int32 × XW}  (h : fX10_isWord l0 l1 X = some r) : XM l G yX10_isWord cX10_isWord 2 (some .boolean) 0 0 0 0 [.ref l0, .int l1] X (some (.int r.1), r.2) := by
  refine xm_of (own := RX10) (by decide) rfl (Nat.le_of_ble_eq_true rfl) ?_
  intro p e s m below meth c ls C0 W0 hret hnm hl
  have hx := C0.1
  have hb := C0.2.1
  have hl : lv_has ls 2 [(0, .ref l0), (1, .int l1)] := hl
  unfold fX10_isWord at h
  refine lv_aload_n hx hb dX10_isWord_0 rfl (lv_at hl 0 rfl) ?_
  obtain ⟨v1, h2, h⟩ := ob h
  refine xr_getI C0 W0 cl_X10 8 (by decide) fl_X10_218 rfl h2 dX10_isWord_1 ?_
  refine lv_if_ne (tgt := 43) hx hb dX10_isWord_4 (by decide) (fun hcq => ?_) (fun hcq => ?_)
  · have h := it_f hcq h
    refine lv_iconst (v := 0) hx hb dX10_isWord_43 (by decide) ?_
    exact xr_zret C0 W0 hret (by decide) (Option.some.inj h) dX10_isWord_44
  · have h := it_t hcq h
    refine lv_aload_n hx hb dX10_isWord_7 rfl (lv_at hl 0 rfl) ?_
    obtain ⟨q3, h4, h⟩ := ob h
    refine xr_getR C0 W0 cl_X10 4 (by decide) fl_X10_24 rfl h4 dX10_isWord_8 ?_
    refine lv_aload_n hx hb dX10_isWord_11 rfl (lv_at hl 0 rfl) ?_
    obtain ⟨v5, h6, h⟩ := ob h
    refine xr_getI C0 W0 cl_X10 7 (by decide) fl_X10_215 rfl h6 dX10_isWord_12 ?_
    obtain ⟨v7, h8, h⟩ := ob h
    refine xr_iald C0 W0 h8 dX10_isWord_15 ?_
    refine lv_iconst (v := 1) hx hb dX10_isWord_16 (by decide) ?_
    refine lv_icmp_ne (tgt := 43) hx hb dX10_isWord_17 (by decide) (fun hcq => ?_) (fun hcq => ?_)
    · have h := it_f hcq h
      refine lv_iconst (v := 0) hx hb dX10_isWord_43 (by decide) ?_
      exact xr_zret C0 W0 hret (by decide) (Option.some.inj h) dX10_isWord_44
    · have h := it_t hcq h
      refine lv_aload_n hx hb dX10_isWord_20 rfl (lv_at hl 0 rfl) ?_
      obtain ⟨q9, h10, h⟩ := ob h
      refine xr_getR C0 W0 cl_X10 6 (by decide) fl_X10_30 rfl h10 dX10_isWord_21 ?_
      refine lv_aload_n hx hb dX10_isWord_24 rfl (lv_at hl 0 rfl) ?_
      obtain ⟨v11, h12, h⟩ := ob h
      refine xr_getI C0 W0 cl_X10 7 (by decide) fl_X10_215 rfl h12 dX10_isWord_25 ?_
      obtain ⟨v13, h14, h⟩ := ob h
      refine xr_lald C0 W0 h14 dX10_isWord_28 ?_
      refine lv_aload_n hx hb dX10_isWord_29 rfl (lv_at hl 0 rfl) ?_
      obtain ⟨q15, h16, h⟩ := ob h
      refine xr_getR C0 W0 cl_X10 9 (by decide) fl_X10_68 rfl h16 dX10_isWord_30 ?_
      refine lv_iload_n hx hb dX10_isWord_33 rfl (lv_at hl 1 rfl) ?_
      obtain ⟨v17, h18, h⟩ := ob h
      refine xr_lald C0 W0 h18 dX10_isWord_34 ?_
      refine W.lcmp hx hb dX10_isWord_35 ?_
      refine lv_if_ne (tgt := 43) hx hb dX10_isWord_36 (by decide) (fun hcq => ?_) (fun hcq => ?_)
      · have h := it_f hcq h
        refine lv_iconst (v := 0) hx hb dX10_isWord_43 (by decide) ?_
        exact xr_zret C0 W0 hret (by decide) (Option.some.inj h) dX10_isWord_44
      · have h := it_t hcq h
        refine lv_iconst (v := 1) hx hb dX10_isWord_39 (by decide) ?_
        refine lv_goto (tgt := 44) hx hb dX10_isWord_40 (by decide) ?_
        exact xr_zret C0 W0 hret (by decide) (Option.some.inj h) dX10_isWord_44
def fX10_takeSign (l0 : Nat) (l1 : Int32) (X : XW) : Option (XW) :=
  gK X l0 10 >>= fun u1 =>
  fX10_isSign l0 l1 X >>= fun r3 =>
  if (r3.1 = 0 : Prop) then (gK r3.2 l0 10 >>= fun u5 =>
    fX10_wrong l0 1 r3.2 >>= fun X7 =>
    some X7)
  else (gI r3.2 l0 10 7 >>= fun v9 =>
    pI r3.2 l0 10 7 (v9 + 1) >>= fun X11 =>
    some X11)
theorem ctX10_takeSign (l : Launch) (G : XG) {l0 : Nat} {l1 : Int32} {X : XW} {r : XW}  (h : fX10_takeSign l0 l1 X = some r) : XM l G yX10_takeSign cX10_takeSign 2 none 1 60 0 0 [.ref l0, .int l1] X (none, r) := by
  refine xm_of (own := RX10) (by decide) rfl (Nat.le_of_ble_eq_true rfl) ?_
  intro p e s m below meth c ls C0 W0 hret hnm hl
  have hx := C0.1
  have hb := C0.2.1
  have hl : lv_has ls 2 [(0, .ref l0), (1, .int l1)] := hl
  unfold fX10_takeSign at h
  refine lv_aload_n hx hb dX10_takeSign_0 rfl (lv_at hl 0 rfl) ?_
  refine lv_iload_n hx hb dX10_takeSign_1 rfl (lv_at hl 1 rfl) ?_
  obtain ⟨u1, h2, h⟩ := ob h
  obtain ⟨r3, h4, h⟩ := ob h
  refine xr_V (As := [.int l1]) (rest := []) C0 W0 (ctX10_isSign l G h4) (gK_of h2) (rr := (RX10, TX10, 57)) rfl rfl mc_X10_isSign mv_X10_isSign ml_X10_221 ⟨by decide, by decide⟩ rfl hl.1 rfl (Nat.le_of_ble_eq_true rfl) ⟨by decide, by decide⟩ dX10_takeSign_2 (fun H locs W0 => ?_)
  refine W.cs (cells' := 0) (slots' := 0) rfl rfl ?_
  refine W.eq (g2 := F0 m 5 ls [.int r3.1]) rfl ?_
  refine lv_if_eq (tgt := 21) hx hb dX10_takeSign_5 (by decide) (fun hcq => ?_) (fun hcq => ?_)
  · have h := it_t hcq h
    refine lv_aload_n hx hb dX10_takeSign_21 rfl (lv_at hl 0 rfl) ?_
    refine lv_iconst (v := 1) hx hb dX10_takeSign_22 (by decide) ?_
    obtain ⟨u5, h6, h⟩ := ob h
    obtain ⟨X7, h8, h⟩ := ob h
    refine xr_V (As := [.int 1]) (rest := []) C0 W0 (ctX10_wrong l G h8) (gK_of h6) (rr := (RX10, TX10, 57)) rfl rfl mc_X10_wrong mv_X10_wrong ml_X10_224 ⟨by decide, by decide⟩ rfl hl.1 rfl (Nat.le_of_ble_eq_true rfl) ⟨by decide, by decide⟩ dX10_takeSign_23 (fun H locs W0 => ?_)
    refine W.cs (cells' := 0) (slots' := 0) rfl rfl ?_
    refine W.eq (g2 := F0 m 26 ls []) rfl ?_
    exact xr_vret C0 W0 hret (Option.some.inj h).symm dX10_takeSign_26
  · have h := it_f hcq h
    refine lv_aload_n hx hb dX10_takeSign_8 rfl (lv_at hl 0 rfl) ?_
    refine lv_dup hx hb dX10_takeSign_9 rfl ?_
    obtain ⟨v9, h10, h⟩ := ob h
    refine xr_getI C0 W0 cl_X10 7 (by decide) fl_X10_215 rfl h10 dX10_takeSign_10 ?_
    refine lv_iconst (v := 1) hx hb dX10_takeSign_13 (by decide) ?_
    refine lv_iadd hx hb dX10_takeSign_14 ?_
    obtain ⟨X11, h12, h⟩ := ob h
    refine xr_putI C0 W0 cl_X10 7 (by decide) fl_X10_215 rfl rfl rfl (by decide) h12 dX10_takeSign_15 (fun H locs W0 => ?_)
    refine lv_goto (tgt := 26) hx hb dX10_takeSign_18 (by decide) ?_
    exact xr_vret C0 W0 hret (Option.some.inj h).symm dX10_takeSign_26
def fX10_hasSign_j20  (l2 : Int32) (s0 : Int32) (s1 : Int32) (s2 : Nat) (X : XW) : Option (Int32 × XW) :=
  pI X s2 10 7 (s1 + s0) >>= fun X1 =>
  zG l2 >>= fun u3 =>
  some (l2, X1)
def fX10_hasSign (l0 : Nat) (l1 : Int32) (X : XW) : Option (Int32 × XW) :=
  gK X l0 10 >>= fun u1 =>
  fX10_isSign l0 l1 X >>= fun r3 =>
  gI r3.2 l0 10 7 >>= fun v5 =>
  if (r3.1 = 0 : Prop) then (fX10_hasSign_j20 r3.1 0 v5 l0 r3.2)
  else (fX10_hasSign_j20 r3.1 1 v5 l0 r3.2)
theorem tX10_hasSign_j20 {p : Program} {l : Launch} {e : Env} {s : State} {m : MethodId} {args : Array Value} {below : List Frame} {meth : Method} {c : Code} {G : XG} {X0 : XW} (C0 : XC p s m args meth c RX10 cX10_hasSign 3 G) (hret : meth.sig.returnType = (some .boolean)) {r : Int32 × XW} {l2 : Int32} {s0 : Int32} {s1 : Int32} {s2 : Nat} {X : XW} {H : Heap} {locs : List Loc} {ls : Array Slot} (W0 : XD G X0 X s H locs) (hl : lv_has ls 3 [(2, .int l2)]) (h : fX10_hasSign_j20 l2 s0 s1 s2 X = some r) : W p l e { frames := 1, cells := 0, slots := 0, locals := 60 } s m args below meth c H locs 0 0 (MQ below (XQ G X0 (some (.int r.1), r.2)) args s 0 0 (xAd X0)) (F0 m 20 ls [.int s0, .int s1, .ref s2]) := by
  have hx := C0.1
  have hb := C0.2.1
  unfold fX10_hasSign_j20 at h
  refine lv_iadd hx hb dX10_hasSign_20 ?_
  obtain ⟨X1, h2, h⟩ := ob h
  refine xr_putI C0 W0 cl_X10 7 (by decide) fl_X10_215 rfl rfl rfl (by decide) h2 dX10_hasSign_21 (fun H locs W0 => ?_)
  refine lv_iload_n hx hb dX10_hasSign_24 rfl (lv_at hl 0 rfl) ?_
  obtain ⟨u3, h4, h⟩ := ob h
  exact xr_zret C0 W0 hret (zG_of h4) (Option.some.inj h) dX10_hasSign_25
theorem ctX10_hasSign (l : Launch) (G : XG) {l0 : Nat} {l1 : Int32} {X : XW} {r : Int32 × XW}  (h : fX10_hasSign l0 l1 X = some r) : XM l G yX10_hasSign cX10_hasSign 3 (some .boolean) 1 60 0 0 [.ref l0, .int l1] X (some (.int r.1), r.2) := by
  refine xm_of (own := RX10) (by decide) rfl (Nat.le_of_ble_eq_true rfl) ?_
  intro p e s m below meth c ls C0 W0 hret hnm hl
  have hx := C0.1
  have hb := C0.2.1
  have hl : lv_has ls 3 [(0, .ref l0), (1, .int l1)] := hl
  unfold fX10_hasSign at h
  refine lv_aload_n hx hb dX10_hasSign_0 rfl (lv_at hl 0 rfl) ?_
  refine lv_iload_n hx hb dX10_hasSign_1 rfl (lv_at hl 1 rfl) ?_
  obtain ⟨u1, h2, h⟩ := ob h
  obtain ⟨r3, h4, h⟩ := ob h
  refine xr_V (As := [.int l1]) (rest := []) C0 W0 (ctX10_isSign l G h4) (gK_of h2) (rr := (RX10, TX10, 57)) rfl rfl mc_X10_isSign mv_X10_isSign ml_X10_221 ⟨by decide, by decide⟩ rfl hl.1 rfl (Nat.le_of_ble_eq_true rfl) ⟨by decide, by decide⟩ dX10_hasSign_2 (fun H locs W0 => ?_)
  refine W.cs (cells' := 0) (slots' := 0) rfl rfl ?_
  refine W.eq (g2 := F0 m 5 ls [.int r3.1]) rfl ?_
  refine lv_istore_n (lv' := [(2, .int r3.1), (0, .ref l0), (1, .int l1)]) hx hb dX10_hasSign_5 rfl hl (by decide) rfl (fun ls hl => ?_)
  refine lv_aload_n hx hb dX10_hasSign_6 rfl (lv_at hl 1 rfl) ?_
  refine lv_dup hx hb dX10_hasSign_7 rfl ?_
  obtain ⟨v5, h6, h⟩ := ob h
  refine xr_getI C0 W0 cl_X10 7 (by decide) fl_X10_215 rfl h6 dX10_hasSign_8 ?_
  refine lv_iload_n hx hb dX10_hasSign_11 rfl (lv_at hl 0 rfl) ?_
  refine lv_if_eq (tgt := 19) hx hb dX10_hasSign_12 (by decide) (fun hcq => ?_) (fun hcq => ?_)
  · have h := it_t hcq h
    refine lv_iconst (v := 0) hx hb dX10_hasSign_19 (by decide) ?_
    exact tX10_hasSign_j20 C0 hret W0 (lv_sub hl [0] rfl) h
  · have h := it_f hcq h
    refine lv_iconst (v := 1) hx hb dX10_hasSign_15 (by decide) ?_
    refine lv_goto (tgt := 20) hx hb dX10_hasSign_16 (by decide) ?_
    exact tX10_hasSign_j20 C0 hret W0 (lv_sub hl [0] rfl) h
def fX10_hasWord_j20  (l2 : Int32) (s0 : Int32) (s1 : Int32) (s2 : Nat) (X : XW) : Option (Int32 × XW) :=
  pI X s2 10 7 (s1 + s0) >>= fun X1 =>
  zG l2 >>= fun u3 =>
  some (l2, X1)
def fX10_hasWord (l0 : Nat) (l1 : Int32) (X : XW) : Option (Int32 × XW) :=
  gK X l0 10 >>= fun u1 =>
  fX10_isWord l0 l1 X >>= fun r3 =>
  gI r3.2 l0 10 7 >>= fun v5 =>
  if (r3.1 = 0 : Prop) then (fX10_hasWord_j20 r3.1 0 v5 l0 r3.2)
  else (fX10_hasWord_j20 r3.1 1 v5 l0 r3.2)
theorem tX10_hasWord_j20 {p : Program} {l : Launch} {e : Env} {s : State} {m : MethodId} {args : Array Value} {below : List Frame} {meth : Method} {c : Code} {G : XG} {X0 : XW} (C0 : XC p s m args meth c RX10 cX10_hasWord 3 G) (hret : meth.sig.returnType = (some .boolean)) {r : Int32 × XW} {l2 : Int32} {s0 : Int32} {s1 : Int32} {s2 : Nat} {X : XW} {H : Heap} {locs : List Loc} {ls : Array Slot} (W0 : XD G X0 X s H locs) (hl : lv_has ls 3 [(2, .int l2)]) (h : fX10_hasWord_j20 l2 s0 s1 s2 X = some r) : W p l e { frames := 1, cells := 0, slots := 0, locals := 60 } s m args below meth c H locs 0 0 (MQ below (XQ G X0 (some (.int r.1), r.2)) args s 0 0 (xAd X0)) (F0 m 20 ls [.int s0, .int s1, .ref s2]) := by
  have hx := C0.1
  have hb := C0.2.1
  unfold fX10_hasWord_j20 at h
  refine lv_iadd hx hb dX10_hasWord_20 ?_
  obtain ⟨X1, h2, h⟩ := ob h
  refine xr_putI C0 W0 cl_X10 7 (by decide) fl_X10_215 rfl rfl rfl (by decide) h2 dX10_hasWord_21 (fun H locs W0 => ?_)
  refine lv_iload_n hx hb dX10_hasWord_24 rfl (lv_at hl 0 rfl) ?_
  obtain ⟨u3, h4, h⟩ := ob h
  exact xr_zret C0 W0 hret (zG_of h4) (Option.some.inj h) dX10_hasWord_25
theorem ctX10_hasWord (l : Launch) (G : XG) {l0 : Nat} {l1 : Int32} {X : XW} {r : Int32 × XW}  (h : fX10_hasWord l0 l1 X = some r) : XM l G yX10_hasWord cX10_hasWord 3 (some .boolean) 1 60 0 0 [.ref l0, .int l1] X (some (.int r.1), r.2) := by
  refine xm_of (own := RX10) (by decide) rfl (Nat.le_of_ble_eq_true rfl) ?_
  intro p e s m below meth c ls C0 W0 hret hnm hl
  have hx := C0.1
  have hb := C0.2.1
  have hl : lv_has ls 3 [(0, .ref l0), (1, .int l1)] := hl
  unfold fX10_hasWord at h
  refine lv_aload_n hx hb dX10_hasWord_0 rfl (lv_at hl 0 rfl) ?_
  refine lv_iload_n hx hb dX10_hasWord_1 rfl (lv_at hl 1 rfl) ?_
  obtain ⟨u1, h2, h⟩ := ob h
  obtain ⟨r3, h4, h⟩ := ob h
  refine xr_V (As := [.int l1]) (rest := []) C0 W0 (ctX10_isWord l G h4) (gK_of h2) (rr := (RX10, TX10, 57)) rfl rfl mc_X10_isWord mv_X10_isWord ml_X10_228 ⟨by decide, by decide⟩ rfl hl.1 rfl (Nat.le_of_ble_eq_true rfl) ⟨by decide, by decide⟩ dX10_hasWord_2 (fun H locs W0 => ?_)
  refine W.cs (cells' := 0) (slots' := 0) rfl rfl ?_
  refine W.eq (g2 := F0 m 5 ls [.int r3.1]) rfl ?_
  refine lv_istore_n (lv' := [(2, .int r3.1), (0, .ref l0), (1, .int l1)]) hx hb dX10_hasWord_5 rfl hl (by decide) rfl (fun ls hl => ?_)
  refine lv_aload_n hx hb dX10_hasWord_6 rfl (lv_at hl 1 rfl) ?_
  refine lv_dup hx hb dX10_hasWord_7 rfl ?_
  obtain ⟨v5, h6, h⟩ := ob h
  refine xr_getI C0 W0 cl_X10 7 (by decide) fl_X10_215 rfl h6 dX10_hasWord_8 ?_
  refine lv_iload_n hx hb dX10_hasWord_11 rfl (lv_at hl 0 rfl) ?_
  refine lv_if_eq (tgt := 19) hx hb dX10_hasWord_12 (by decide) (fun hcq => ?_) (fun hcq => ?_)
  · have h := it_t hcq h
    refine lv_iconst (v := 0) hx hb dX10_hasWord_19 (by decide) ?_
    exact tX10_hasWord_j20 C0 hret W0 (lv_sub hl [0] rfl) h
  · have h := it_f hcq h
    refine lv_iconst (v := 1) hx hb dX10_hasWord_15 (by decide) ?_
    refine lv_goto (tgt := 20) hx hb dX10_hasWord_16 (by decide) ?_
    exact tX10_hasWord_j20 C0 hret W0 (lv_sub hl [0] rfl) h
def fX10_emit (l0 : Nat) (l1 : Int32) (l2 : Int32) (X : XW) : Option (XW) :=
  gR X l0 10 19 >>= fun q1 =>
  gI X l0 10 21 >>= fun v3 =>
  uI X q1 (4240 + v3) l1 >>= fun X5 =>
  gR X5 l0 10 20 >>= fun q7 =>
  gI X5 l0 10 21 >>= fun v9 =>
  uI X5 q7 (4240 + v9) l2 >>= fun X11 =>
  gI X11 l0 10 21 >>= fun v13 =>
  pI X11 l0 10 21 (v13 + 1) >>= fun X15 =>
  some X15
theorem ctX10_emit (l : Launch) (G : XG) {l0 : Nat} {l1 : Int32} {l2 : Int32} {X : XW} {r : XW}  (h : fX10_emit l0 l1 l2 X = some r) : XM l G yX10_emit cX10_emit 3 none 0 0 0 0 [.ref l0, .int l1, .int l2] X (none, r) := by
  refine xm_of (own := RX10) (by decide) rfl (Nat.le_of_ble_eq_true rfl) ?_
  intro p e s m below meth c ls C0 W0 hret hnm hl
  have hx := C0.1
  have hb := C0.2.1
  have hl : lv_has ls 3 [(0, .ref l0), (1, .int l1), (2, .int l2)] := hl
  unfold fX10_emit at h
  refine lv_aload_n hx hb dX10_emit_0 rfl (lv_at hl 0 rfl) ?_
  obtain ⟨q1, h2, h⟩ := ob h
  refine xr_getR C0 W0 cl_X10 19 (by decide) fl_X10_96 rfl h2 dX10_emit_1 ?_
  refine lv_sipush (v := 4240) hx hb dX10_emit_4 (by decide) ?_
  refine lv_aload_n hx hb dX10_emit_7 rfl (lv_at hl 0 rfl) ?_
  obtain ⟨v3, h4, h⟩ := ob h
  refine xr_getI C0 W0 cl_X10 21 (by decide) fl_X10_234 rfl h4 dX10_emit_8 ?_
  refine lv_iadd hx hb dX10_emit_11 ?_
  refine lv_iload_n hx hb dX10_emit_12 rfl (lv_at hl 1 rfl) ?_
  obtain ⟨X5, h6, h⟩ := ob h
  refine xr_iast C0 W0 h6 dX10_emit_13 (fun H locs W0 => ?_)
  refine lv_aload_n hx hb dX10_emit_14 rfl (lv_at hl 0 rfl) ?_
  obtain ⟨q7, h8, h⟩ := ob h
  refine xr_getR C0 W0 cl_X10 20 (by decide) fl_X10_99 rfl h8 dX10_emit_15 ?_
  refine lv_sipush (v := 4240) hx hb dX10_emit_18 (by decide) ?_
  refine lv_aload_n hx hb dX10_emit_21 rfl (lv_at hl 0 rfl) ?_
  obtain ⟨v9, h10, h⟩ := ob h
  refine xr_getI C0 W0 cl_X10 21 (by decide) fl_X10_234 rfl h10 dX10_emit_22 ?_
  refine lv_iadd hx hb dX10_emit_25 ?_
  refine lv_iload_n hx hb dX10_emit_26 rfl (lv_at hl 2 rfl) ?_
  obtain ⟨X11, h12, h⟩ := ob h
  refine xr_iast C0 W0 h12 dX10_emit_27 (fun H locs W0 => ?_)
  refine lv_aload_n hx hb dX10_emit_28 rfl (lv_at hl 0 rfl) ?_
  refine lv_dup hx hb dX10_emit_29 rfl ?_
  obtain ⟨v13, h14, h⟩ := ob h
  refine xr_getI C0 W0 cl_X10 21 (by decide) fl_X10_234 rfl h14 dX10_emit_30 ?_
  refine lv_iconst (v := 1) hx hb dX10_emit_33 (by decide) ?_
  refine lv_iadd hx hb dX10_emit_34 ?_
  obtain ⟨X15, h16, h⟩ := ob h
  refine xr_putI C0 W0 cl_X10 21 (by decide) fl_X10_234 rfl rfl rfl (by decide) h16 dX10_emit_35 (fun H locs W0 => ?_)
  exact xr_vret C0 W0 hret (Option.some.inj h).symm dX10_emit_38
def fX10_partWord_l2_b (rec : Int32 → XW → Option (Int32 × XW)) (l0 : Nat) (l1 : Int32) (X : XW) : Option (Int32 × XW) :=
  if (13 ≤ l1 : Prop) then (some ((-1), X))
  else (gK X l0 10 >>= fun u1 =>
    fX10_isWord l0 (4 + l1) X >>= fun r3 =>
    if (r3.1 = 0 : Prop) then (rec (l1 + 1) r3.2)
    else (some (l1, r3.2)))
def fX10_partWord_l2 (l0 : Nat) (n : Nat) : Int32 → XW → Option (Int32 × XW) := iter (fun rec => fX10_partWord_l2_b rec l0) (fun _ _ => none) n
def fX10_partWord (l0 : Nat) (X : XW) : Option (Int32 × XW) :=
  fX10_partWord_l2 l0 FU 0 X
theorem tX10_partWord_l2_b {p : Program} {l : Launch} {e : Env} {s : State} {m : MethodId} {args : Array Value} {below : List Frame} {meth : Method} {c : Code} {G : XG} {X0 : XW} (C0 : XC p s m args meth c RX10 cX10_partWord 2 G) (hret : meth.sig.returnType = (some .int)) {r : Int32 × XW} {l0 : Nat}  {rec : Int32 → XW → Option (Int32 × XW)} (hrec : ∀ {y1 : Int32} {X : XW} {H : Heap} {locs : List Loc} {ls : Array Slot}, XD G X0 X s H locs → lv_has ls 2 [(0, .ref l0), (1, .int y1)] → rec y1 X = some r → W p l e { frames := 1, cells := 0, slots := 0, locals := 60 } s m args below meth c H locs 0 0 (MQ below (XQ G X0 (some (.int r.1), r.2)) args s 0 0 (xAd X0)) (F0 m 2 ls []))  {l1 : Int32} {X : XW} {H : Heap} {locs : List Loc} {ls : Array Slot} (W0 : XD G X0 X s H locs) (hl : lv_has ls 2 [(0, .ref l0), (1, .int l1)]) (h : fX10_partWord_l2_b rec l0 l1 X = some r) : W p l e { frames := 1, cells := 0, slots := 0, locals := 60 } s m args below meth c H locs 0 0 (MQ below (XQ G X0 (some (.int r.1), r.2)) args s 0 0 (xAd X0)) (F0 m 2 ls []) := by
  have hx := C0.1
  have hb := C0.2.1
  unfold fX10_partWord_l2_b at h
  refine lv_iload_n hx hb dX10_partWord_2 rfl (lv_at hl 1 rfl) ?_
  refine lv_bipush (v := 13) hx hb dX10_partWord_3 (by decide) ?_
  refine lv_icmp_ge (tgt := 26) hx hb dX10_partWord_5 (by decide) (fun hcq => ?_) (fun hcq => ?_)
  · have h := it_t hcq h
    refine lv_iconst (v := (-1)) hx hb dX10_partWord_26 (by decide) ?_
    exact xr_iret C0 W0 hret (Option.some.inj h) dX10_partWord_27
  · have h := it_f hcq h
    refine lv_aload_n hx hb dX10_partWord_8 rfl (lv_at hl 0 rfl) ?_
    refine lv_iconst (v := 4) hx hb dX10_partWord_9 (by decide) ?_
    refine lv_iload_n hx hb dX10_partWord_10 rfl (lv_at hl 1 rfl) ?_
    refine lv_iadd hx hb dX10_partWord_11 ?_
    obtain ⟨u1, h2, h⟩ := ob h
    obtain ⟨r3, h4, h⟩ := ob h
    refine xr_V (As := [.int (4 + l1)]) (rest := []) C0 W0 (ctX10_isWord l G h4) (gK_of h2) (rr := (RX10, TX10, 57)) rfl rfl mc_X10_isWord mv_X10_isWord ml_X10_228 ⟨by decide, by decide⟩ rfl hl.1 rfl (Nat.le_of_ble_eq_true rfl) ⟨by decide, by decide⟩ dX10_partWord_12 (fun H locs W0 => ?_)
    refine W.cs (cells' := 0) (slots' := 0) rfl rfl ?_
    refine W.eq (g2 := F0 m 15 ls [.int r3.1]) rfl ?_
    refine lv_if_eq (tgt := 20) hx hb dX10_partWord_15 (by decide) (fun hcq => ?_) (fun hcq => ?_)
    · have h := it_t hcq h
      refine lv_iinc (v := (l1 + 1)) (lv' := [(1, .int (l1 + 1)), (0, .ref l0)]) hx hb dX10_partWord_20 hl (k := 1) rfl (ii (by decide)) (by decide) rfl (fun ls hl => ?_)
      refine lv_goto (tgt := 2) hx hb dX10_partWord_23 (by decide) ?_
      exact hrec W0 (lv_sub hl [1, 0] rfl) h
    · have h := it_f hcq h
      refine lv_iload_n hx hb dX10_partWord_18 rfl (lv_at hl 1 rfl) ?_
      exact xr_iret C0 W0 hret (Option.some.inj h) dX10_partWord_19
theorem tX10_partWord_l2 {p : Program} {l : Launch} {e : Env} {s : State} {m : MethodId} {args : Array Value} {below : List Frame} {meth : Method} {c : Code} {G : XG} {X0 : XW} (C0 : XC p s m args meth c RX10 cX10_partWord 2 G) (hret : meth.sig.returnType = (some .int)) {r : Int32 × XW} {l0 : Nat}  : ∀ (n : Nat) {y1 : Int32} {X : XW} {H : Heap} {locs : List Loc} {ls : Array Slot}, XD G X0 X s H locs → lv_has ls 2 [(0, .ref l0), (1, .int y1)] → fX10_partWord_l2 l0 n y1 X = some r → W p l e { frames := 1, cells := 0, slots := 0, locals := 60 } s m args below meth c H locs 0 0 (MQ below (XQ G X0 (some (.int r.1), r.2)) args s 0 0 (xAd X0)) (F0 m 2 ls []) := by
  intro n
  induction n with
  | zero =>
    intro y1 X H locs ls W0 hl h
    cases h
  | succ n ih =>
    intro y1 X H locs ls W0 hl h
    exact tX10_partWord_l2_b C0 hret (rec := fX10_partWord_l2 l0 n) (fun W0 hl h => ih W0 hl h) W0 hl h
theorem ctX10_partWord (l : Launch) (G : XG) {l0 : Nat} {X : XW} {r : Int32 × XW}  (h : fX10_partWord l0 X = some r) : XM l G yX10_partWord cX10_partWord 2 (some .int) 1 60 0 0 [.ref l0] X (some (.int r.1), r.2) := by
  refine xm_of (own := RX10) (by decide) rfl (Nat.le_of_ble_eq_true rfl) ?_
  intro p e s m below meth c ls C0 W0 hret hnm hl
  have hx := C0.1
  have hb := C0.2.1
  have hl : lv_has ls 2 [(0, .ref l0)] := hl
  unfold fX10_partWord at h
  refine lv_iconst (v := 0) hx hb dX10_partWord_0 (by decide) ?_
  refine lv_istore_n (lv' := [(1, .int 0), (0, .ref l0)]) hx hb dX10_partWord_1 rfl hl (by decide) rfl (fun ls hl => ?_)
  exact tX10_partWord_l2 C0 hret FU W0 (lv_sub hl [1, 0] rfl) h
