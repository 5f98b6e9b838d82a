theorem mc_J3_checkIndex_8e157 : XMc yJ3_checkIndex_8e157 cJ3_checkIndex_8e157 3 (some .int) 3 := ⟨xws_t 473 (by decide +kernel) rfl, xws_t 17 (by decide +kernel) rfl, by decide +kernel⟩
theorem ms_J3_checkIndex_8e157 : Cond.static yJ3_checkIndex_8e157 ∈ xws := xws_t 472 (by decide +kernel) rfl
theorem mc_J0_isLatin1_aae02 : XMc yJ0_isLatin1_aae02 cJ0_isLatin1_aae02 1 (some .boolean) 0 := ⟨xws_t 462 (by decide +kernel) rfl, xws_t 15 (by decide +kernel) rfl, by decide +kernel⟩
theorem mv_J0_isLatin1_aae02 : XMv yJ0_isLatin1_aae02 := ⟨xws_t 460 (by decide +kernel) rfl, xws_t 461 (by decide +kernel) rfl⟩
theorem mc_J0_coder_7d493 : XMc yJ0_coder_7d493 cJ0_coder_7d493 1 (some .byte) 0 := ⟨xws_t 449 (by decide +kernel) rfl, xws_t 15 (by decide +kernel) rfl, by decide +kernel⟩
theorem mv_J0_coder_7d493 : XMv yJ0_coder_7d493 := ⟨xws_t 447 (by decide +kernel) rfl, xws_t 448 (by decide +kernel) rfl⟩
theorem mc_J0_length_8abf5 : XMc yJ0_length_8abf5 cJ0_length_8abf5 1 (some .int) 0 := ⟨xws_t 445 (by decide +kernel) rfl, xws_t 15 (by decide +kernel) rfl, by decide +kernel⟩
theorem mv_J0_length_8abf5 : XMv yJ0_length_8abf5 := ⟨xws_t 443 (by decide +kernel) rfl, xws_t 444 (by decide +kernel) rfl⟩
theorem mc_J1_charAt_3b067 : XMc yJ1_charAt_3b067 cJ1_charAt_3b067 2 (some .char) 2 := ⟨xws_t 465 (by decide +kernel) rfl, xws_t 16 (by decide +kernel) rfl, by decide +kernel⟩
theorem ms_J1_charAt_3b067 : Cond.static yJ1_charAt_3b067 ∈ xws := xws_t 464 (by decide +kernel) rfl
theorem mc_J0_charAt_5068e : XMc yJ0_charAt_5068e cJ0_charAt_5068e 2 (some .char) 1 := ⟨xws_t 458 (by decide +kernel) rfl, xws_t 15 (by decide +kernel) rfl, by decide +kernel⟩
theorem mv_J0_charAt_5068e : XMv yJ0_charAt_5068e := ⟨xws_t 456 (by decide +kernel) rfl, xws_t 457 (by decide +kernel) rfl⟩
theorem mc_J1_canEncode_9a6ad : XMc yJ1_canEncode_9a6ad cJ1_canEncode_9a6ad 1 (some .boolean) 1 := ⟨xws_t 515 (by decide +kernel) rfl, xws_t 16 (by decide +kernel) rfl, by decide +kernel⟩
theorem ms_J1_canEncode_9a6ad : Cond.static yJ1_canEncode_9a6ad ∈ xws := xws_t 514 (by decide +kernel) rfl
theorem mc_J1_indexOfChar_4cfef : XMc yJ1_indexOfChar_4cfef cJ1_indexOfChar_4cfef 6 (some .int) 4 := ⟨xws_t 522 (by decide +kernel) rfl, xws_t 16 (by decide +kernel) rfl, by decide +kernel⟩
theorem ms_J1_indexOfChar_4cfef : Cond.static yJ1_indexOfChar_4cfef ∈ xws := xws_t 521 (by decide +kernel) rfl
theorem mc_J1_indexOf_4cfef : XMc yJ1_indexOf_4cfef cJ1_indexOf_4cfef 4 (some .int) 4 := ⟨xws_t 512 (by decide +kernel) rfl, xws_t 16 (by decide +kernel) rfl, by decide +kernel⟩
theorem ms_J1_indexOf_4cfef : Cond.static yJ1_indexOf_4cfef ∈ xws := xws_t 511 (by decide +kernel) rfl
theorem mc_J0_indexOf_7cf53 : XMc yJ0_indexOf_7cf53 cJ0_indexOf_7cf53 3 (some .int) 2 := ⟨xws_t 508 (by decide +kernel) rfl, xws_t 15 (by decide +kernel) rfl, by decide +kernel⟩
theorem mv_J0_indexOf_7cf53 : XMv yJ0_indexOf_7cf53 := ⟨xws_t 506 (by decide +kernel) rfl, xws_t 507 (by decide +kernel) rfl⟩
theorem mc_J0_indexOf_0f7a4 : XMc yJ0_indexOf_0f7a4 cJ0_indexOf_0f7a4 2 (some .int) 1 := ⟨xws_t 504 (by decide +kernel) rfl, xws_t 15 (by decide +kernel) rfl, by decide +kernel⟩
theorem mv_J0_indexOf_0f7a4 : XMv yJ0_indexOf_0f7a4 := ⟨xws_t 502 (by decide +kernel) rfl, xws_t 503 (by decide +kernel) rfl⟩
theorem mc_J0_checkIndex_df160 : XMc yJ0_checkIndex_df160 cJ0_checkIndex_df160 2 none 2 := ⟨xws_t 468 (by decide +kernel) rfl, xws_t 15 (by decide +kernel) rfl, by decide +kernel⟩
theorem ms_J0_checkIndex_df160 : Cond.static yJ0_checkIndex_df160 ∈ xws := xws_t 467 (by decide +kernel) rfl
theorem ml_J0_335 : Cond.methodLink RJ0 335 yJ0_coder_7d493 ∈ xws := xws_t 446 (by decide +kernel) rfl
theorem ml_J0_492 : Cond.methodLink RJ0 492 yJ0_isLatin1_aae02 ∈ xws := xws_t 459 (by decide +kernel) rfl
theorem ml_J0_495 : Cond.methodLink RJ0 495 yJ1_charAt_3b067 ∈ xws := xws_t 463 (by decide +kernel) rfl
theorem ml_J1_9 : Cond.methodLink RJ1 9 yJ0_checkIndex_df160 ∈ xws := xws_t 466 (by decide +kernel) rfl
theorem ml_J0_1059 : Cond.methodLink RJ0 1059 yJ3_checkIndex_8e157 ∈ xws := xws_t 471 (by decide +kernel) rfl
theorem ml_J2_414 : Cond.methodLink RJ2 414 yJ0_checkIndex_df160 ∈ xws := xws_t 483 (by decide +kernel) rfl
theorem ml_J0_633 : Cond.methodLink RJ0 633 yJ0_indexOf_7cf53 ∈ xws := xws_t 505 (by decide +kernel) rfl
theorem ml_J0_505 : Cond.methodLink RJ0 505 yJ0_length_8abf5 ∈ xws := xws_t 509 (by decide +kernel) rfl
theorem ml_J0_637 : Cond.methodLink RJ0 637 yJ1_indexOf_4cfef ∈ xws := xws_t 510 (by decide +kernel) rfl
theorem ml_J1_88 : Cond.methodLink RJ1 88 yJ1_canEncode_9a6ad ∈ xws := xws_t 513 (by decide +kernel) rfl
theorem ml_J1_95 : Cond.methodLink RJ1 95 yJ1_indexOfChar_4cfef ∈ xws := xws_t 520 (by decide +kernel) rfl
def fJ3_checkIndex_8e157N_j9  (l0 : Int32) (l1 : Int32) (X : XW) : Option (Int32 × XW) :=
  none
def fJ3_checkIndex_8e157N (l0 : Int32) (l1 : Int32) (X : XW) : Option (Int32 × XW) :=
  if (l0 < 0 : Prop) then (fJ3_checkIndex_8e157N_j9 l0 l1 X)
  else (if (l0 < l1 : Prop) then (some (l0, X))
    else (fJ3_checkIndex_8e157N_j9 l0 l1 X))
theorem tJ3_checkIndex_8e157N_j9 {p : Program} {l : Launch} {e : Env} {s : State} {m : MethodId} {args : Array Value} {below : List Frame} {meth : Method} {c : Code} {G : XG} {X0 : XW} (C0 : XC p s m args meth c RJ3 cJ3_checkIndex_8e157 3 G) (hret : meth.sig.returnType = (some .int)) {r : Int32 × XW} {l0 : Int32} {l1 : Int32} {X : XW} {H : Heap} {locs : List Loc} {ls : Array Slot} (W0 : XD G X0 X s H locs) (hl : lv_has ls 3 [(0, .int l0), (1, .int l1), (2, .null)]) (h : fJ3_checkIndex_8e157N_j9 l0 l1 X = some r) : W p l e { frames := 0, cells := 0, slots := 0, locals := 0 } s m args below meth c H locs 0 0 (MQ below (XQ G X0 (some (.int r.1), r.2)) args s 0 0 (xAd X0)) (F0 m 9 ls []) := by
  have hx := C0.1
  have hb := C0.2.1
  unfold fJ3_checkIndex_8e157N_j9 at h
  cases h
theorem ctJ3_checkIndex_8e157N (l : Launch) (G : XG) {l0 : Int32} {l1 : Int32} {X : XW} {r : Int32 × XW}  (h : fJ3_checkIndex_8e157N l0 l1 X = some r) : XM l G yJ3_checkIndex_8e157 cJ3_checkIndex_8e157 3 (some .int) 0 0 0 0 [.int l0, .int l1, .null] X (some (.int r.1), r.2) := by
  refine xm_of (own := RJ3) (by decide) rfl (Nat.le_of_ble_eq_true rfl) ?_
  intro p e s m below meth c ls C0 W0 hret hnm hl
  have hx := C0.1
  have hb := C0.2.1
  have hl : lv_has ls 3 [(0, .int l0), (1, .int l1), (2, .null)] := hl
  unfold fJ3_checkIndex_8e157N at h
  refine lv_iload_n hx hb dJ3_checkIndex_8e157_0 rfl (lv_at hl 0 rfl) ?_
  refine lv_if_lt (tgt := 9) hx hb dJ3_checkIndex_8e157_1 (by decide) (fun hcq => ?_) (fun hcq => ?_)
  · have h := it_t hcq h
    exact tJ3_checkIndex_8e157N_j9 C0 hret W0 (lv_sub hl [0, 1, 2] rfl) h
  · have h := it_f hcq h
    refine lv_iload_n hx hb dJ3_checkIndex_8e157_4 rfl (lv_at hl 0 rfl) ?_
    refine lv_iload_n hx hb dJ3_checkIndex_8e157_5 rfl (lv_at hl 1 rfl) ?_
    refine lv_icmp_lt (tgt := 16) hx hb dJ3_checkIndex_8e157_6 (by decide) (fun hcq => ?_) (fun hcq => ?_)
    · have h := it_t hcq h
      refine lv_iload_n hx hb dJ3_checkIndex_8e157_16 rfl (lv_at hl 0 rfl) ?_
      exact xr_iret C0 W0 hret (Option.some.inj h) dJ3_checkIndex_8e157_17
    · have h := it_f hcq h
      exact tJ3_checkIndex_8e157N_j9 C0 hret W0 (lv_sub hl [0, 1, 2] rfl) h
def fJ3_checkIndex_8e157_j9  (l0 : Int32) (l1 : Int32) (l2 : Nat) (X : XW) : Option (Int32 × XW) :=
  none
def fJ3_checkIndex_8e157 (l0 : Int32) (l1 : Int32) (l2 : Nat) (X : XW) : Option (Int32 × XW) :=
  if (l0 < 0 : Prop) then (fJ3_checkIndex_8e157_j9 l0 l1 l2 X)
  else (if (l0 < l1 : Prop) then (some (l0, X))
    else (fJ3_checkIndex_8e157_j9 l0 l1 l2 X))
theorem tJ3_checkIndex_8e157_j9 {p : Program} {l : Launch} {e : Env} {s : State} {m : MethodId} {args : Array Value} {below : List Frame} {meth : Method} {c : Code} {G : XG} {X0 : XW} (C0 : XC p s m args meth c RJ3 cJ3_checkIndex_8e157 3 G) (hret : meth.sig.returnType = (some .int)) {r : Int32 × XW} {l0 : Int32} {l1 : Int32} {l2 : Nat} {X : XW} {H : Heap} {locs : List Loc} {ls : Array Slot} (W0 : XD G X0 X s H locs) (hl : lv_has ls 3 [(0, .int l0), (1, .int l1), (2, .ref l2)]) (h : fJ3_checkIndex_8e157_j9 l0 l1 l2 X = some r) : W p l e { frames := 0, cells := 0, slots := 0, locals := 0 } s m args below meth c H locs 0 0 (MQ below (XQ G X0 (some (.int r.1), r.2)) args s 0 0 (xAd X0)) (F0 m 9 ls []) := by
  have hx := C0.1
  have hb := C0.2.1
  unfold fJ3_checkIndex_8e157_j9 at h
  cases h
theorem ctJ3_checkIndex_8e157 (l : Launch) (G : XG) {l0 : Int32} {l1 : Int32} {l2 : Nat} {X : XW} {r : Int32 × XW}  (h : fJ3_checkIndex_8e157 l0 l1 l2 X = some r) : XM l G yJ3_checkIndex_8e157 cJ3_checkIndex_8e157 3 (some .int) 0 0 0 0 [.int l0, .int l1, .ref l2] X (some (.int r.1), r.2) := by
  refine xm_of (own := RJ3) (by decide) rfl (Nat.le_of_ble_eq_true rfl) ?_
  intro p e s m below meth c ls C0 W0 hret hnm hl
  have hx := C0.1
  have hb := C0.2.1
  have hl : lv_has ls 3 [(0, .int l0), (1, .int l1), (2, .ref l2)] := hl
  unfold fJ3_checkIndex_8e157 at h
  refine lv_iload_n hx hb dJ3_checkIndex_8e157_0 rfl (lv_at hl 0 rfl) ?_
  refine lv_if_lt (tgt := 9) hx hb dJ3_checkIndex_8e157_1 (by decide) (fun hcq => ?_) (fun hcq => ?_)
  · have h := it_t hcq h
    exact tJ3_checkIndex_8e157_j9 C0 hret W0 (lv_sub hl [0, 1, 2] rfl) h
  · have h := it_f hcq h
    refine lv_iload_n hx hb dJ3_checkIndex_8e157_4 rfl (lv_at hl 0 rfl) ?_
    refine lv_iload_n hx hb dJ3_checkIndex_8e157_5 rfl (lv_at hl 1 rfl) ?_
    refine lv_icmp_lt (tgt := 16) hx hb dJ3_checkIndex_8e157_6 (by decide) (fun hcq => ?_) (fun hcq => ?_)
    · have h := it_t hcq h
      refine lv_iload_n hx hb dJ3_checkIndex_8e157_16 rfl (lv_at hl 0 rfl) ?_
      exact xr_iret C0 W0 hret (Option.some.inj h) dJ3_checkIndex_8e157_17
    · have h := it_f hcq h
      exact tJ3_checkIndex_8e157_j9 C0 hret W0 (lv_sub hl [0, 1, 2] rfl) h
def fJ0_checkIndex_df160 (l0 l1 : Int32) (X : XW) : Option XW := fJ3_checkIndex_8e157N l0 l1 X >>= fun r => some r.2
theorem ctJ0_checkIndex_df160 (l : Launch) (G : XG) {l0 l1 : Int32} {X : XW} {r : XW} (h : fJ0_checkIndex_df160 l0 l1 X = some r) : XM l G yJ0_checkIndex_df160 cJ0_checkIndex_df160 2 none 1 60 0 0 [.int l0, .int l1] X (none, r) := by
  refine xm_of (own := RJ0) (by decide) rfl (Nat.le_of_ble_eq_true rfl) ?_
  intro p e s m below meth c ls C0 W0 hret hnm hl
  have hx := C0.1
  have hb := C0.2.1
  have hl : lv_has ls 2 [(0, .int l0), (1, .int l1)] := hl
  unfold fJ0_checkIndex_df160 at h
  obtain ⟨r1, h1, h⟩ := ob h
  refine lv_iload_n hx hb dJ0_checkIndex_df160_0 rfl (lv_at hl 0 rfl) ?_
  refine lv_iload_n hx hb dJ0_checkIndex_df160_1 rfl (lv_at hl 1 rfl) ?_
  rcases W0.2.2.2.2.2.2.2.2.2.1 with hz | ⟨t, hz⟩
  · refine va_gets hx hb hz W0.2.2.1 C0.2.2.2.1 (C0.2.2.2.2.1 _ (xws_t 469 (by decide +kernel) rfl)) (fun _ h => h) dJ0_checkIndex_df160_2 ?_
    refine xr_S (As := [.int l0, .int l1, .null]) (rest := []) C0 W0 (ctJ3_checkIndex_8e157N l G h1) mc_J3_checkIndex_8e157 ms_J3_checkIndex_8e157 ml_J0_1059 ⟨by decide, by decide⟩ rfl hl.1 rfl (Nat.le_of_ble_eq_true rfl) ⟨by decide, by decide⟩ dJ0_checkIndex_df160_5 (fun H locs W0 => ?_)
    refine W.cs (cells' := 0) (slots' := 0) rfl rfl ?_
    refine W.eq (g2 := F0 m 8 ls [.int r1.1]) rfl ?_
    refine lv_pop hx hb dJ0_checkIndex_df160_8 rfl ?_
    exact xr_vret C0 W0 hret (Option.some.inj h).symm dJ0_checkIndex_df160_9
  · refine va_gets hx hb hz W0.2.2.1 C0.2.2.2.1 (C0.2.2.2.2.1 _ (xws_t 469 (by decide +kernel) rfl)) (fun _ h => h) dJ0_checkIndex_df160_2 ?_
    refine xr_S (As := [.int l0, .int l1, .ref t]) (rest := []) C0 W0 (ctJ3_checkIndex_8e157 l G (l2 := t) (r := r1) h1) mc_J3_checkIndex_8e157 ms_J3_checkIndex_8e157 ml_J0_1059 ⟨by decide, by decide⟩ rfl hl.1 rfl (Nat.le_of_ble_eq_true rfl) ⟨by decide, by decide⟩ dJ0_checkIndex_df160_5 (fun H locs W0 => ?_)
    refine W.cs (cells' := 0) (slots' := 0) rfl rfl ?_
    refine W.eq (g2 := F0 m 8 ls [.int r1.1]) rfl ?_
    refine lv_pop hx hb dJ0_checkIndex_df160_8 rfl ?_
    exact xr_vret C0 W0 hret (Option.some.inj h).symm dJ0_checkIndex_df160_9
def fJ0_isLatin1_aae02_s0  (X : XW) : Option (Int32 × XW) :=
  if ((1 : Int32) = 0 : Prop) then (some (0, X))
  else (if ((0 : Int32) = 0 : Prop) then (some (1, X))
    else (some (0, X)))
theorem ctJ0_isLatin1_aae02_s0 (l : Launch) (G : XG)  {X : XW} {r : Int32 × XW}  (h : fJ0_isLatin1_aae02_s0  X = some r) : XM l G yJ0_isLatin1_aae02 cJ0_isLatin1_aae02 1 (some .boolean) 0 0 0 0 [.ref (G.2.2.2 (10 + 0))] X (some (.int r.1), r.2) := by
  refine xm_of (own := RJ0) (by decide) rfl (Nat.le_of_ble_eq_true rfl) ?_
  intro p e s m below meth c ls C0 W0 hret hnm hl
  have hx := C0.1
  have hb := C0.2.1
  have hl : lv_has ls 1 [(0, .ref (G.2.2.2 (10 + 0)))] := hl
  unfold fJ0_isLatin1_aae02_s0 at h
  refine xr_cs C0 W0 (xws_t 450 (by decide +kernel) rfl) dJ0_isLatin1_aae02_0 ?_
  refine lv_if_eq (tgt := 17) hx hb dJ0_isLatin1_aae02_3 (by decide) (fun hcq => ?_) (fun hcq => ?_)
  · have h := it_t hcq h
    refine lv_iconst (v := 0) hx hb dJ0_isLatin1_aae02_17 (by decide) ?_
    exact xr_zret C0 W0 hret (by decide) (Option.some.inj h) dJ0_isLatin1_aae02_18
  · have h := it_f hcq h
    refine lv_aload_n hx hb dJ0_isLatin1_aae02_6 rfl (lv_at hl 0 rfl) ?_
    refine xr_strC C0 W0 (by decide) (xws_t 1241 (by decide +kernel) rfl) dJ0_isLatin1_aae02_7 ?_
    refine lv_if_ne (tgt := 17) hx hb dJ0_isLatin1_aae02_10 (by decide) (fun hcq => ?_) (fun hcq => ?_)
    · have h := it_f hcq h
      refine lv_iconst (v := 0) hx hb dJ0_isLatin1_aae02_17 (by decide) ?_
      exact xr_zret C0 W0 hret (by decide) (Option.some.inj h) dJ0_isLatin1_aae02_18
    · have h := it_t hcq h
      refine lv_iconst (v := 1) hx hb dJ0_isLatin1_aae02_13 (by decide) ?_
      refine lv_goto (tgt := 18) hx hb dJ0_isLatin1_aae02_14 (by decide) ?_
      exact xr_zret C0 W0 hret (by decide) (Option.some.inj h) dJ0_isLatin1_aae02_18
def fJ0_isLatin1_aae02_s1  (X : XW) : Option (Int32 × XW) :=
  if ((1 : Int32) = 0 : Prop) then (some (0, X))
  else (if ((0 : Int32) = 0 : Prop) then (some (1, X))
    else (some (0, X)))
theorem ctJ0_isLatin1_aae02_s1 (l : Launch) (G : XG)  {X : XW} {r : Int32 × XW}  (h : fJ0_isLatin1_aae02_s1  X = some r) : XM l G yJ0_isLatin1_aae02 cJ0_isLatin1_aae02 1 (some .boolean) 0 0 0 0 [.ref (G.2.2.2 (10 + 1))] X (some (.int r.1), r.2) := by
  refine xm_of (own := RJ0) (by decide) rfl (Nat.le_of_ble_eq_true rfl) ?_
  intro p e s m below meth c ls C0 W0 hret hnm hl
  have hx := C0.1
  have hb := C0.2.1
  have hl : lv_has ls 1 [(0, .ref (G.2.2.2 (10 + 1)))] := hl
  unfold fJ0_isLatin1_aae02_s1 at h
  refine xr_cs C0 W0 (xws_t 450 (by decide +kernel) rfl) dJ0_isLatin1_aae02_0 ?_
  refine lv_if_eq (tgt := 17) hx hb dJ0_isLatin1_aae02_3 (by decide) (fun hcq => ?_) (fun hcq => ?_)
  · have h := it_t hcq h
    refine lv_iconst (v := 0) hx hb dJ0_isLatin1_aae02_17 (by decide) ?_
    exact xr_zret C0 W0 hret (by decide) (Option.some.inj h) dJ0_isLatin1_aae02_18
  · have h := it_f hcq h
    refine lv_aload_n hx hb dJ0_isLatin1_aae02_6 rfl (lv_at hl 0 rfl) ?_
    refine xr_strC C0 W0 (by decide) (xws_t 1241 (by decide +kernel) rfl) dJ0_isLatin1_aae02_7 ?_
    refine lv_if_ne (tgt := 17) hx hb dJ0_isLatin1_aae02_10 (by decide) (fun hcq => ?_) (fun hcq => ?_)
    · have h := it_f hcq h
      refine lv_iconst (v := 0) hx hb dJ0_isLatin1_aae02_17 (by decide) ?_
      exact xr_zret C0 W0 hret (by decide) (Option.some.inj h) dJ0_isLatin1_aae02_18
    · have h := it_t hcq h
      refine lv_iconst (v := 1) hx hb dJ0_isLatin1_aae02_13 (by decide) ?_
      refine lv_goto (tgt := 18) hx hb dJ0_isLatin1_aae02_14 (by decide) ?_
      exact xr_zret C0 W0 hret (by decide) (Option.some.inj h) dJ0_isLatin1_aae02_18
def fJ0_coder_7d493_s0  (X : XW) : Option (Int32 × XW) :=
  if ((1 : Int32) = 0 : Prop) then (nG .byte 1 >>= fun u1 =>
    some (1, X))
  else (nG .byte 0 >>= fun u3 =>
    some (0, X))
theorem ctJ0_coder_7d493_s0 (l : Launch) (G : XG)  {X : XW} {r : Int32 × XW}  (h : fJ0_coder_7d493_s0  X = some r) : XM l G yJ0_coder_7d493 cJ0_coder_7d493 1 (some .byte) 0 0 0 0 [.ref (G.2.2.2 (10 + 0))] X (some (.int r.1), r.2) := by
  refine xm_of (own := RJ0) (by decide) rfl (Nat.le_of_ble_eq_true rfl) ?_
  intro p e s m below meth c ls C0 W0 hret hnm hl
  have hx := C0.1
  have hb := C0.2.1
  have hl : lv_has ls 1 [(0, .ref (G.2.2.2 (10 + 0)))] := hl
  unfold fJ0_coder_7d493_s0 at h
  refine xr_cs C0 W0 (xws_t 450 (by decide +kernel) rfl) dJ0_coder_7d493_0 ?_
  refine lv_if_eq (tgt := 13) hx hb dJ0_coder_7d493_3 (by decide) (fun hcq => ?_) (fun hcq => ?_)
  · have h := it_t hcq h
    refine lv_iconst (v := 1) hx hb dJ0_coder_7d493_13 (by decide) ?_
    obtain ⟨u1, h2, h⟩ := ob h
    exact xr_nret C0 W0 hret (nG_of h2) (Option.some.inj h) dJ0_coder_7d493_14
  · have h := it_f hcq h
    refine lv_aload_n hx hb dJ0_coder_7d493_6 rfl (lv_at hl 0 rfl) ?_
    refine xr_strC C0 W0 (by decide) (xws_t 1241 (by decide +kernel) rfl) dJ0_coder_7d493_7 ?_
    refine lv_goto (tgt := 14) hx hb dJ0_coder_7d493_10 (by decide) ?_
    obtain ⟨u3, h4, h⟩ := ob h
    exact xr_nret C0 W0 hret (nG_of h4) (Option.some.inj h) dJ0_coder_7d493_14
def fJ0_coder_7d493_s1  (X : XW) : Option (Int32 × XW) :=
  if ((1 : Int32) = 0 : Prop) then (nG .byte 1 >>= fun u1 =>
    some (1, X))
  else (nG .byte 0 >>= fun u3 =>
    some (0, X))
theorem ctJ0_coder_7d493_s1 (l : Launch) (G : XG)  {X : XW} {r : Int32 × XW}  (h : fJ0_coder_7d493_s1  X = some r) : XM l G yJ0_coder_7d493 cJ0_coder_7d493 1 (some .byte) 0 0 0 0 [.ref (G.2.2.2 (10 + 1))] X (some (.int r.1), r.2) := by
  refine xm_of (own := RJ0) (by decide) rfl (Nat.le_of_ble_eq_true rfl) ?_
  intro p e s m below meth c ls C0 W0 hret hnm hl
  have hx := C0.1
  have hb := C0.2.1
  have hl : lv_has ls 1 [(0, .ref (G.2.2.2 (10 + 1)))] := hl
  unfold fJ0_coder_7d493_s1 at h
  refine xr_cs C0 W0 (xws_t 450 (by decide +kernel) rfl) dJ0_coder_7d493_0 ?_
  refine lv_if_eq (tgt := 13) hx hb dJ0_coder_7d493_3 (by decide) (fun hcq => ?_) (fun hcq => ?_)
  · have h := it_t hcq h
    refine lv_iconst (v := 1) hx hb dJ0_coder_7d493_13 (by decide) ?_
    obtain ⟨u1, h2, h⟩ := ob h
    exact xr_nret C0 W0 hret (nG_of h2) (Option.some.inj h) dJ0_coder_7d493_14
  · have h := it_f hcq h
    refine lv_aload_n hx hb dJ0_coder_7d493_6 rfl (lv_at hl 0 rfl) ?_
    refine xr_strC C0 W0 (by decide) (xws_t 1241 (by decide +kernel) rfl) dJ0_coder_7d493_7 ?_
    refine lv_goto (tgt := 14) hx hb dJ0_coder_7d493_10 (by decide) ?_
    obtain ⟨u3, h4, h⟩ := ob h
    exact xr_nret C0 W0 hret (nG_of h4) (Option.some.inj h) dJ0_coder_7d493_14
def fJ0_length_8abf5_s0  (X : XW) : Option (Int32 × XW) :=
  fJ0_coder_7d493_s0  X >>= fun r1 =>
  some (((sL 0) >>> (r1.1 &&& 31)), r1.2)
theorem ctJ0_length_8abf5_s0 (l : Launch) (G : XG)  {X : XW} {r : Int32 × XW}  (h : fJ0_length_8abf5_s0  X = some r) : XM l G yJ0_length_8abf5 cJ0_length_8abf5 1 (some .int) 1 60 0 0 [.ref (G.2.2.2 (10 + 0))] X (some (.int r.1), r.2) := by
  refine xm_of (own := RJ0) (by decide) rfl (Nat.le_of_ble_eq_true rfl) ?_
  intro p e s m below meth c ls C0 W0 hret hnm hl
  have hx := C0.1
  have hb := C0.2.1
  have hl : lv_has ls 1 [(0, .ref (G.2.2.2 (10 + 0)))] := hl
  unfold fJ0_length_8abf5_s0 at h
  refine lv_aload_n hx hb dJ0_length_8abf5_0 rfl (lv_at hl 0 rfl) ?_
  refine xr_strV C0 W0 (by decide) (xws_t 1240 (by decide +kernel) rfl) dJ0_length_8abf5_1 ?_
  refine xr_blen C0 W0 (by decide) dJ0_length_8abf5_4 ?_
  refine lv_aload_n hx hb dJ0_length_8abf5_5 rfl (lv_at hl 0 rfl) ?_
  obtain ⟨r1, h2, h⟩ := ob h
  refine xr_VT (As := []) (rest := [.int (sL 0)]) C0 W0 (ctJ0_coder_7d493_s0 l G h2) (by decide) rfl mc_J0_coder_7d493 mv_J0_coder_7d493 ml_J0_335 ⟨by decide, by decide⟩ rfl hl.1 rfl (Nat.le_of_ble_eq_true rfl) ⟨by decide, by decide⟩ dJ0_length_8abf5_6 (fun H locs W0 => ?_)
  refine W.cs (cells' := 0) (slots' := 0) rfl rfl ?_
  refine W.eq (g2 := F0 m 9 ls [.int r1.1, .int (sL 0)]) rfl ?_
  refine lv_ishr hx hb dJ0_length_8abf5_9 ?_
  exact xr_iret C0 W0 hret (Option.some.inj h) dJ0_length_8abf5_10
def fJ0_length_8abf5_s1  (X : XW) : Option (Int32 × XW) :=
  fJ0_coder_7d493_s1  X >>= fun r1 =>
  some (((sL 1) >>> (r1.1 &&& 31)), r1.2)
theorem ctJ0_length_8abf5_s1 (l : Launch) (G : XG)  {X : XW} {r : Int32 × XW}  (h : fJ0_length_8abf5_s1  X = some r) : XM l G yJ0_length_8abf5 cJ0_length_8abf5 1 (some .int) 1 60 0 0 [.ref (G.2.2.2 (10 + 1))] X (some (.int r.1), r.2) := by
  refine xm_of (own := RJ0) (by decide) rfl (Nat.le_of_ble_eq_true rfl) ?_
  intro p e s m below meth c ls C0 W0 hret hnm hl
  have hx := C0.1
  have hb := C0.2.1
  have hl : lv_has ls 1 [(0, .ref (G.2.2.2 (10 + 1)))] := hl
  unfold fJ0_length_8abf5_s1 at h
  refine lv_aload_n hx hb dJ0_length_8abf5_0 rfl (lv_at hl 0 rfl) ?_
  refine xr_strV C0 W0 (by decide) (xws_t 1240 (by decide +kernel) rfl) dJ0_length_8abf5_1 ?_
  refine xr_blen C0 W0 (by decide) dJ0_length_8abf5_4 ?_
  refine lv_aload_n hx hb dJ0_length_8abf5_5 rfl (lv_at hl 0 rfl) ?_
  obtain ⟨r1, h2, h⟩ := ob h
  refine xr_VT (As := []) (rest := [.int (sL 1)]) C0 W0 (ctJ0_coder_7d493_s1 l G h2) (by decide) rfl mc_J0_coder_7d493 mv_J0_coder_7d493 ml_J0_335 ⟨by decide, by decide⟩ rfl hl.1 rfl (Nat.le_of_ble_eq_true rfl) ⟨by decide, by decide⟩ dJ0_length_8abf5_6 (fun H locs W0 => ?_)
  refine W.cs (cells' := 0) (slots' := 0) rfl rfl ?_
  refine W.eq (g2 := F0 m 9 ls [.int r1.1, .int (sL 1)]) rfl ?_
  refine lv_ishr hx hb dJ0_length_8abf5_9 ?_
  exact xr_iret C0 W0 hret (Option.some.inj h) dJ0_length_8abf5_10
def fJ1_charAt_3b067_s0 (l1 : Int32) (X : XW) : Option (Int32 × XW) :=
  fJ0_checkIndex_df160 l1 (sL 0) X >>= fun X1 =>
  sB 0 l1 >>= fun v3 =>
  nG .char ((((v3 &&& 255)).toUInt32 % 65536).toInt32) >>= fun u5 =>
  some (((((v3 &&& 255)).toUInt32 % 65536).toInt32), X1)
theorem ctJ1_charAt_3b067_s0 (l : Launch) (G : XG) {l1 : Int32} {X : XW} {r : Int32 × XW}  (h : fJ1_charAt_3b067_s0 l1 X = some r) : XM l G yJ1_charAt_3b067 cJ1_charAt_3b067 2 (some .char) 2 120 0 0 [.ref (G.2.2.2 (20 + 0)), .int l1] X (some (.int r.1), r.2) := by
  refine xm_of (own := RJ1) (by decide) rfl (Nat.le_of_ble_eq_true rfl) ?_
  intro p e s m below meth c ls C0 W0 hret hnm hl
  have hx := C0.1
  have hb := C0.2.1
  have hl : lv_has ls 2 [(0, .ref (G.2.2.2 (20 + 0))), (1, .int l1)] := hl
  unfold fJ1_charAt_3b067_s0 at h
  refine lv_iload_n hx hb dJ1_charAt_3b067_0 rfl (lv_at hl 1 rfl) ?_
  refine lv_aload_n hx hb dJ1_charAt_3b067_1 rfl (lv_at hl 0 rfl) ?_
  refine xr_blen C0 W0 (by decide) dJ1_charAt_3b067_2 ?_
  obtain ⟨X1, h2, h⟩ := ob h
  refine xr_S (As := [.int l1, .int (sL 0)]) (rest := []) C0 W0 (ctJ0_checkIndex_df160 l G h2) mc_J0_checkIndex_df160 ms_J0_checkIndex_df160 ml_J1_9 ⟨by decide, by decide⟩ rfl hl.1 rfl (Nat.le_of_ble_eq_true rfl) ⟨by decide, by decide⟩ dJ1_charAt_3b067_3 (fun H locs W0 => ?_)
  refine W.cs (cells' := 0) (slots' := 0) rfl rfl ?_
  refine W.eq (g2 := F0 m 6 ls []) rfl ?_
  refine lv_aload_n hx hb dJ1_charAt_3b067_6 rfl (lv_at hl 0 rfl) ?_
  refine lv_iload_n hx hb dJ1_charAt_3b067_7 rfl (lv_at hl 1 rfl) ?_
  obtain ⟨v3, h4, h⟩ := ob h
  refine xr_bload C0 W0 (by decide) h4 dJ1_charAt_3b067_8 ?_
  refine lv_sipush (v := 255) hx hb dJ1_charAt_3b067_9 (by decide) ?_
  refine lv_iand hx hb dJ1_charAt_3b067_12 ?_
  refine lv_i2c (v := ((((v3 &&& 255)).toUInt32 % 65536).toInt32)) hx hb dJ1_charAt_3b067_13 rfl ?_
  obtain ⟨u5, h6, h⟩ := ob h
  exact xr_nret C0 W0 hret (nG_of h6) (Option.some.inj h) dJ1_charAt_3b067_14
def fJ0_charAt_5068e_s0 (l1 : Int32) (X : XW) : Option (Int32 × XW) :=
  fJ0_isLatin1_aae02_s0  X >>= fun r1 =>
  if (r1.1 = 0 : Prop) then (none)
  else (fJ1_charAt_3b067_s0 l1 r1.2 >>= fun r3 =>
    nG .char r3.1 >>= fun u5 =>
    some (r3.1, r3.2))
theorem ctJ0_charAt_5068e_s0 (l : Launch) (G : XG) {l1 : Int32} {X : XW} {r : Int32 × XW}  (h : fJ0_charAt_5068e_s0 l1 X = some r) : XM l G yJ0_charAt_5068e cJ0_charAt_5068e 2 (some .char) 3 180 0 0 [.ref (G.2.2.2 (10 + 0)), .int l1] X (some (.int r.1), r.2) := by
  refine xm_of (own := RJ0) (by decide) rfl (Nat.le_of_ble_eq_true rfl) ?_
  intro p e s m below meth c ls C0 W0 hret hnm hl
  have hx := C0.1
  have hb := C0.2.1
  have hl : lv_has ls 2 [(0, .ref (G.2.2.2 (10 + 0))), (1, .int l1)] := hl
  unfold fJ0_charAt_5068e_s0 at h
  refine lv_aload_n hx hb dJ0_charAt_5068e_0 rfl (lv_at hl 0 rfl) ?_
  obtain ⟨r1, h2, h⟩ := ob h
  refine xr_VT (As := []) (rest := []) C0 W0 (ctJ0_isLatin1_aae02_s0 l G h2) (by decide) rfl mc_J0_isLatin1_aae02 mv_J0_isLatin1_aae02 ml_J0_492 ⟨by decide, by decide⟩ rfl hl.1 rfl (Nat.le_of_ble_eq_true rfl) ⟨by decide, by decide⟩ dJ0_charAt_5068e_1 (fun H locs W0 => ?_)
  refine W.cs (cells' := 0) (slots' := 0) rfl rfl ?_
  refine W.eq (g2 := F0 m 4 ls [.int r1.1]) rfl ?_
  refine lv_if_eq (tgt := 16) hx hb dJ0_charAt_5068e_4 (by decide) (fun hcq => ?_) (fun hcq => ?_)
  · have h := it_t hcq h
    cases h
  · have h := it_f hcq h
    refine lv_aload_n hx hb dJ0_charAt_5068e_7 rfl (lv_at hl 0 rfl) ?_
    refine xr_strV C0 W0 (by decide) (xws_t 1240 (by decide +kernel) rfl) dJ0_charAt_5068e_8 ?_
    refine lv_iload_n hx hb dJ0_charAt_5068e_11 rfl (lv_at hl 1 rfl) ?_
    obtain ⟨r3, h4, h⟩ := ob h
    refine xr_S (As := [.ref (G.2.2.2 (20 + 0)), .int l1]) (rest := []) C0 W0 (ctJ1_charAt_3b067_s0 l G h4) mc_J1_charAt_3b067 ms_J1_charAt_3b067 ml_J0_495 ⟨by decide, by decide⟩ rfl hl.1 rfl (Nat.le_of_ble_eq_true rfl) ⟨by decide, by decide⟩ dJ0_charAt_5068e_12 (fun H locs W0 => ?_)
    refine W.cs (cells' := 0) (slots' := 0) rfl rfl ?_
    refine W.eq (g2 := F0 m 15 ls [.int r3.1]) rfl ?_
    obtain ⟨u5, h6, h⟩ := ob h
    exact xr_nret C0 W0 hret (nG_of h6) (Option.some.inj h) dJ0_charAt_5068e_15
def fJ1_canEncode_9a6ad (l0 : Int32) (X : XW) : Option (Int32 × XW) :=
  if (l0 < 0 : Prop) then (some (0, X))
  else (if (255 < l0 : Prop) then (some (0, X))
    else (some (1, X)))
theorem ctJ1_canEncode_9a6ad (l : Launch) (G : XG) {l0 : Int32} {X : XW} {r : Int32 × XW}  (h : fJ1_canEncode_9a6ad l0 X = some r) : XM l G yJ1_canEncode_9a6ad cJ1_canEncode_9a6ad 1 (some .boolean) 0 0 0 0 [.int l0] X (some (.int r.1), r.2) := by
  refine xm_of (own := RJ1) (by decide) rfl (Nat.le_of_ble_eq_true rfl) ?_
  intro p e s m below meth c ls C0 W0 hret hnm hl
  have hx := C0.1
  have hb := C0.2.1
  have hl : lv_has ls 1 [(0, .int l0)] := hl
  unfold fJ1_canEncode_9a6ad at h
  refine lv_iload_n hx hb dJ1_canEncode_9a6ad_0 rfl (lv_at hl 0 rfl) ?_
  refine lv_if_lt (tgt := 15) hx hb dJ1_canEncode_9a6ad_1 (by decide) (fun hcq => ?_) (fun hcq => ?_)
  · have h := it_t hcq h
    refine lv_iconst (v := 0) hx hb dJ1_canEncode_9a6ad_15 (by decide) ?_
    exact xr_zret C0 W0 hret (by decide) (Option.some.inj h) dJ1_canEncode_9a6ad_16
  · have h := it_f hcq h
    refine lv_iload_n hx hb dJ1_canEncode_9a6ad_4 rfl (lv_at hl 0 rfl) ?_
    refine lv_sipush (v := 255) hx hb dJ1_canEncode_9a6ad_5 (by decide) ?_
    refine lv_icmp_gt (tgt := 15) hx hb dJ1_canEncode_9a6ad_8 (by decide) (fun hcq => ?_) (fun hcq => ?_)
    · have h := it_t hcq h
      refine lv_iconst (v := 0) hx hb dJ1_canEncode_9a6ad_15 (by decide) ?_
      exact xr_zret C0 W0 hret (by decide) (Option.some.inj h) dJ1_canEncode_9a6ad_16
    · have h := it_f hcq h
      refine lv_iconst (v := 1) hx hb dJ1_canEncode_9a6ad_11 (by decide) ?_
      refine lv_goto (tgt := 16) hx hb dJ1_canEncode_9a6ad_12 (by decide) ?_
      exact xr_zret C0 W0 hret (by decide) (Option.some.inj h) dJ1_canEncode_9a6ad_16
def fJ1_indexOfChar_4cfef_s1_l7_b (rec : Int32 → XW → Option (Int32 × XW)) (l3 : Int32) (l4 : Int32) (l5 : Int32) (X : XW) : Option (Int32 × XW) :=
  if (l3 ≤ l5 : Prop) then (some ((-1), X))
  else (sB 1 l5 >>= fun v1 =>
    if (v1 = l4 : Prop) then (some (l5, X))
    else (rec (l5 + 1) X))
def fJ1_indexOfChar_4cfef_s1_l7 (l3 : Int32) (l4 : Int32) (n : Nat) : Int32 → XW → Option (Int32 × XW) := iter (fun rec => fJ1_indexOfChar_4cfef_s1_l7_b rec l3 l4) (fun _ _ => none) n
def fJ1_indexOfChar_4cfef_s1 (l1 : Int32) (l2 : Int32) (l3 : Int32) (X : XW) : Option (Int32 × XW) :=
  fJ1_indexOfChar_4cfef_s1_l7 l3 ((l1).toInt8.toInt32) FU l2 X
theorem tJ1_indexOfChar_4cfef_s1_l7_b {p : Program} {l : Launch} {e : Env} {s : State} {m : MethodId} {args : Array Value} {below : List Frame} {meth : Method} {c : Code} {G : XG} {X0 : XW} (C0 : XC p s m args meth c RJ1 cJ1_indexOfChar_4cfef 6 G) (hret : meth.sig.returnType = (some .int)) {r : Int32 × XW} {l3 : Int32} {l4 : Int32}  {rec : Int32 → XW → Option (Int32 × XW)} (hrec : ∀ {y5 : Int32} {X : XW} {H : Heap} {locs : List Loc} {ls : Array Slot}, XD G X0 X s H locs → lv_has ls 6 [(0, .ref (G.2.2.2 (20 + 1))), (3, .int l3), (4, .int l4), (5, .int y5)] → rec y5 X = some r → W p l e { frames := 0, cells := 0, slots := 0, locals := 0 } s m args below meth c H locs 0 0 (MQ below (XQ G X0 (some (.int r.1), r.2)) args s 0 0 (xAd X0)) (F0 m 7 ls []))  {l5 : Int32} {X : XW} {H : Heap} {locs : List Loc} {ls : Array Slot} (W0 : XD G X0 X s H locs) (hl : lv_has ls 6 [(0, .ref (G.2.2.2 (20 + 1))), (3, .int l3), (4, .int l4), (5, .int l5)]) (h : fJ1_indexOfChar_4cfef_s1_l7_b rec l3 l4 l5 X = some r) : W p l e { frames := 0, cells := 0, slots := 0, locals := 0 } s m args below meth c H locs 0 0 (MQ below (XQ G X0 (some (.int r.1), r.2)) args s 0 0 (xAd X0)) (F0 m 7 ls []) := by
  have hx := C0.1
  have hb := C0.2.1
  unfold fJ1_indexOfChar_4cfef_s1_l7_b at h
  refine lv_iload hx hb dJ1_indexOfChar_4cfef_7 (lv_at hl 3 rfl) ?_
  refine lv_iload_n hx hb dJ1_indexOfChar_4cfef_9 rfl (lv_at hl 1 rfl) ?_
  refine lv_icmp_ge (tgt := 31) hx hb dJ1_indexOfChar_4cfef_10 (by decide) (fun hcq => ?_) (fun hcq => ?_)
  · have h := it_t hcq h
    refine lv_iconst (v := (-1)) hx hb dJ1_indexOfChar_4cfef_31 (by decide) ?_
    exact xr_iret C0 W0 hret (Option.some.inj h) dJ1_indexOfChar_4cfef_32
  · have h := it_f hcq h
    refine lv_aload_n hx hb dJ1_indexOfChar_4cfef_13 rfl (lv_at hl 0 rfl) ?_
    refine lv_iload hx hb dJ1_indexOfChar_4cfef_14 (lv_at hl 3 rfl) ?_
    obtain ⟨v1, h2, h⟩ := ob h
    refine xr_bload C0 W0 (by decide) h2 dJ1_indexOfChar_4cfef_16 ?_
    refine lv_iload hx hb dJ1_indexOfChar_4cfef_17 (lv_at hl 2 rfl) ?_
    refine lv_icmp_ne (tgt := 25) hx hb dJ1_indexOfChar_4cfef_19 (by decide) (fun hcq => ?_) (fun hcq => ?_)
    · have h := it_f hcq h
      refine lv_iinc (v := (l5 + 1)) (lv' := [(5, .int (l5 + 1)), (0, .ref (G.2.2.2 (20 + 1))), (3, .int l3), (4, .int l4)]) hx hb dJ1_indexOfChar_4cfef_25 hl (k := 3) rfl (ii (by decide)) (by decide) rfl (fun ls hl => ?_)
      refine lv_goto (tgt := 7) hx hb dJ1_indexOfChar_4cfef_28 (by decide) ?_
      exact hrec W0 (lv_sub hl [1, 2, 3, 0] rfl) h
    · have h := it_t hcq h
      refine lv_iload hx hb dJ1_indexOfChar_4cfef_22 (lv_at hl 3 rfl) ?_
      exact xr_iret C0 W0 hret (Option.some.inj h) dJ1_indexOfChar_4cfef_24
theorem tJ1_indexOfChar_4cfef_s1_l7 {p : Program} {l : Launch} {e : Env} {s : State} {m : MethodId} {args : Array Value} {below : List Frame} {meth : Method} {c : Code} {G : XG} {X0 : XW} (C0 : XC p s m args meth c RJ1 cJ1_indexOfChar_4cfef 6 G) (hret : meth.sig.returnType = (some .int)) {r : Int32 × XW} {l3 : Int32} {l4 : Int32}  : ∀ (n : Nat) {y5 : Int32} {X : XW} {H : Heap} {locs : List Loc} {ls : Array Slot}, XD G X0 X s H locs → lv_has ls 6 [(0, .ref (G.2.2.2 (20 + 1))), (3, .int l3), (4, .int l4), (5, .int y5)] → fJ1_indexOfChar_4cfef_s1_l7 l3 l4 n y5 X = some r → W p l e { frames := 0, cells := 0, slots := 0, locals := 0 } s m args below meth c H locs 0 0 (MQ below (XQ G X0 (some (.int r.1), r.2)) args s 0 0 (xAd X0)) (F0 m 7 ls []) := by
  intro n
  induction n with
  | zero =>
    intro y5 X H locs ls W0 hl h
    cases h
  | succ n ih =>
    intro y5 X H locs ls W0 hl h
    exact tJ1_indexOfChar_4cfef_s1_l7_b C0 hret (rec := fJ1_indexOfChar_4cfef_s1_l7 l3 l4 n) (fun W0 hl h => ih W0 hl h) W0 hl h
theorem ctJ1_indexOfChar_4cfef_s1 (l : Launch) (G : XG) {l1 : Int32} {l2 : Int32} {l3 : Int32} {X : XW} {r : Int32 × XW}  (h : fJ1_indexOfChar_4cfef_s1 l1 l2 l3 X = some r) : XM l G yJ1_indexOfChar_4cfef cJ1_indexOfChar_4cfef 6 (some .int) 0 0 0 0 [.ref (G.2.2.2 (20 + 1)), .int l1, .int l2, .int l3] X (some (.int r.1), r.2) := by
  refine xm_of (own := RJ1) (by decide) rfl (Nat.le_of_ble_eq_true rfl) ?_
  intro p e s m below meth c ls C0 W0 hret hnm hl
  have hx := C0.1
  have hb := C0.2.1
  have hl : lv_has ls 6 [(0, .ref (G.2.2.2 (20 + 1))), (1, .int l1), (2, .int l2), (3, .int l3)] := hl
  unfold fJ1_indexOfChar_4cfef_s1 at h
  refine lv_iload_n hx hb dJ1_indexOfChar_4cfef_0 rfl (lv_at hl 1 rfl) ?_
  refine lv_i2b (v := ((l1).toInt8.toInt32)) hx hb dJ1_indexOfChar_4cfef_1 rfl ?_
  refine lv_istore (lv' := [(4, .int ((l1).toInt8.toInt32)), (0, .ref (G.2.2.2 (20 + 1))), (1, .int l1), (2, .int l2), (3, .int l3)]) hx hb dJ1_indexOfChar_4cfef_2 hl (by decide) rfl (fun ls hl => ?_)
  refine lv_iload_n hx hb dJ1_indexOfChar_4cfef_4 rfl (lv_at hl 3 rfl) ?_
  refine lv_istore (lv' := [(5, .int l2), (4, .int ((l1).toInt8.toInt32)), (0, .ref (G.2.2.2 (20 + 1))), (1, .int l1), (2, .int l2), (3, .int l3)]) hx hb dJ1_indexOfChar_4cfef_5 hl (by decide) rfl (fun ls hl => ?_)
  exact tJ1_indexOfChar_4cfef_s1_l7 C0 hret FU W0 (lv_sub hl [2, 5, 1, 0] rfl) h
def fJ1_indexOf_4cfef_s1 (l1 : Int32) (l2 : Int32) (l3 : Int32) (X : XW) : Option (Int32 × XW) :=
  fJ1_canEncode_9a6ad l1 X >>= fun r1 =>
  if (r1.1 = 0 : Prop) then (some ((-1), r1.2))
  else (if ((iMx l2 0) < (iMn l3 (sL 1)) : Prop) then (fJ1_indexOfChar_4cfef_s1 l1 (iMx l2 0) (iMn l3 (sL 1)) r1.2 >>= fun r3 =>
      some (r3.1, r3.2))
    else (some ((-1), r1.2)))
theorem ctJ1_indexOf_4cfef_s1 (l : Launch) (G : XG) {l1 : Int32} {l2 : Int32} {l3 : Int32} {X : XW} {r : Int32 × XW}  (h : fJ1_indexOf_4cfef_s1 l1 l2 l3 X = some r) : XM l G yJ1_indexOf_4cfef cJ1_indexOf_4cfef 4 (some .int) 1 60 0 0 [.ref (G.2.2.2 (20 + 1)), .int l1, .int l2, .int l3] X (some (.int r.1), r.2) := by
  refine xm_of (own := RJ1) (by decide) rfl (Nat.le_of_ble_eq_true rfl) ?_
  intro p e s m below meth c ls C0 W0 hret hnm hl
  have hx := C0.1
  have hb := C0.2.1
  have hl : lv_has ls 4 [(0, .ref (G.2.2.2 (20 + 1))), (1, .int l1), (2, .int l2), (3, .int l3)] := hl
  unfold fJ1_indexOf_4cfef_s1 at h
  refine lv_iload_n hx hb dJ1_indexOf_4cfef_0 rfl (lv_at hl 1 rfl) ?_
  obtain ⟨r1, h2, h⟩ := ob h
  refine xr_S (As := [.int l1]) (rest := []) C0 W0 (ctJ1_canEncode_9a6ad l G h2) mc_J1_canEncode_9a6ad ms_J1_canEncode_9a6ad ml_J1_88 ⟨by decide, by decide⟩ rfl hl.1 rfl (Nat.le_of_ble_eq_true rfl) ⟨by decide, by decide⟩ dJ1_indexOf_4cfef_1 (fun H locs W0 => ?_)
  refine W.cs (cells' := 0) (slots' := 0) rfl rfl ?_
  refine W.eq (g2 := F0 m 4 ls [.int r1.1]) rfl ?_
  refine lv_if_ne (tgt := 9) hx hb dJ1_indexOf_4cfef_4 (by decide) (fun hcq => ?_) (fun hcq => ?_)
  · have h := it_f hcq h
    refine lv_iload_n hx hb dJ1_indexOf_4cfef_9 rfl (lv_at hl 2 rfl) ?_
    refine lv_iconst (v := 0) hx hb dJ1_indexOf_4cfef_10 (by decide) ?_
    refine xr_mmax C0 hl.1 (xws_t 516 (by decide +kernel) rfl) (by decide) (Nat.le_of_ble_eq_true rfl) (Nat.le_of_ble_eq_true rfl) (Nat.le_of_ble_eq_true rfl) dJ1_indexOf_4cfef_11 ?_
    refine lv_istore_n (lv' := [(2, .int (iMx l2 0)), (0, .ref (G.2.2.2 (20 + 1))), (1, .int l1), (3, .int l3)]) hx hb dJ1_indexOf_4cfef_14 rfl hl (by decide) rfl (fun ls hl => ?_)
    refine lv_iload_n hx hb dJ1_indexOf_4cfef_15 rfl (lv_at hl 3 rfl) ?_
    refine lv_aload_n hx hb dJ1_indexOf_4cfef_16 rfl (lv_at hl 1 rfl) ?_
    refine xr_blen C0 W0 (by decide) dJ1_indexOf_4cfef_17 ?_
    refine xr_mmin C0 hl.1 (xws_t 517 (by decide +kernel) rfl) (by decide) (Nat.le_of_ble_eq_true rfl) (Nat.le_of_ble_eq_true rfl) (Nat.le_of_ble_eq_true rfl) dJ1_indexOf_4cfef_18 ?_
    refine lv_istore_n (lv' := [(3, .int (iMn l3 (sL 1))), (2, .int (iMx l2 0)), (0, .ref (G.2.2.2 (20 + 1))), (1, .int l1)]) hx hb dJ1_indexOf_4cfef_21 rfl hl (by decide) rfl (fun ls hl => ?_)
    refine lv_iload_n hx hb dJ1_indexOf_4cfef_22 rfl (lv_at hl 1 rfl) ?_
    refine lv_iload_n hx hb dJ1_indexOf_4cfef_23 rfl (lv_at hl 0 rfl) ?_
    refine lv_icmp_lt (tgt := 29) hx hb dJ1_indexOf_4cfef_24 (by decide) (fun hcq => ?_) (fun hcq => ?_)
    · have h := it_t hcq h
      refine lv_aload_n hx hb dJ1_indexOf_4cfef_29 rfl (lv_at hl 2 rfl) ?_
      refine lv_iload_n hx hb dJ1_indexOf_4cfef_30 rfl (lv_at hl 3 rfl) ?_
      refine lv_iload_n hx hb dJ1_indexOf_4cfef_31 rfl (lv_at hl 1 rfl) ?_
      refine lv_iload_n hx hb dJ1_indexOf_4cfef_32 rfl (lv_at hl 0 rfl) ?_
      obtain ⟨r3, h4, h⟩ := ob h
      refine xr_S (As := [.ref (G.2.2.2 (20 + 1)), .int l1, .int (iMx l2 0), .int (iMn l3 (sL 1))]) (rest := []) C0 W0 (ctJ1_indexOfChar_4cfef_s1 l G h4) mc_J1_indexOfChar_4cfef ms_J1_indexOfChar_4cfef ml_J1_95 ⟨by decide, by decide⟩ rfl hl.1 rfl (Nat.le_of_ble_eq_true rfl) ⟨by decide, by decide⟩ dJ1_indexOf_4cfef_33 (fun H locs W0 => ?_)
      refine W.cs (cells' := 0) (slots' := 0) rfl rfl ?_
      refine W.eq (g2 := F0 m 36 ls [.int r3.1]) rfl ?_
      exact xr_iret C0 W0 hret (Option.some.inj h) dJ1_indexOf_4cfef_36
    · have h := it_f hcq h
      refine lv_iconst (v := (-1)) hx hb dJ1_indexOf_4cfef_27 (by decide) ?_
      exact xr_iret C0 W0 hret (Option.some.inj h) dJ1_indexOf_4cfef_28
  · have h := it_t hcq h
    refine lv_iconst (v := (-1)) hx hb dJ1_indexOf_4cfef_7 (by decide) ?_
    exact xr_iret C0 W0 hret (Option.some.inj h) dJ1_indexOf_4cfef_8
def fJ0_indexOf_7cf53_s1 (l1 : Int32) (l2 : Int32) (X : XW) : Option (Int32 × XW) :=
  fJ0_isLatin1_aae02_s1  X >>= fun r1 =>
  if (r1.1 = 0 : Prop) then (none)
  else (fJ0_length_8abf5_s1  r1.2 >>= fun r3 =>
    fJ1_indexOf_4cfef_s1 l1 l2 r3.1 r3.2 >>= fun r5 =>
    some (r5.1, r5.2))
theorem ctJ0_indexOf_7cf53_s1 (l : Launch) (G : XG) {l1 : Int32} {l2 : Int32} {X : XW} {r : Int32 × XW}  (h : fJ0_indexOf_7cf53_s1 l1 l2 X = some r) : XM l G yJ0_indexOf_7cf53 cJ0_indexOf_7cf53 3 (some .int) 2 120 0 0 [.ref (G.2.2.2 (10 + 1)), .int l1, .int l2] X (some (.int r.1), r.2) := by
  refine xm_of (own := RJ0) (by decide) rfl (Nat.le_of_ble_eq_true rfl) ?_
  intro p e s m below meth c ls C0 W0 hret hnm hl
  have hx := C0.1
  have hb := C0.2.1
  have hl : lv_has ls 3 [(0, .ref (G.2.2.2 (10 + 1))), (1, .int l1), (2, .int l2)] := hl
  unfold fJ0_indexOf_7cf53_s1 at h
  refine lv_aload_n hx hb dJ0_indexOf_7cf53_0 rfl (lv_at hl 0 rfl) ?_
  obtain ⟨r1, h2, h⟩ := ob h
  refine xr_VT (As := []) (rest := []) C0 W0 (ctJ0_isLatin1_aae02_s1 l G h2) (by decide) rfl mc_J0_isLatin1_aae02 mv_J0_isLatin1_aae02 ml_J0_492 ⟨by decide, by decide⟩ rfl hl.1 rfl (Nat.le_of_ble_eq_true rfl) ⟨by decide, by decide⟩ dJ0_indexOf_7cf53_1 (fun H locs W0 => ?_)
  refine W.cs (cells' := 0) (slots' := 0) rfl rfl ?_
  refine W.eq (g2 := F0 m 4 ls [.int r1.1]) rfl ?_
  refine lv_if_eq (tgt := 23) hx hb dJ0_indexOf_7cf53_4 (by decide) (fun hcq => ?_) (fun hcq => ?_)
  · have h := it_t hcq h
    cases h
  · have h := it_f hcq h
    refine lv_aload_n hx hb dJ0_indexOf_7cf53_7 rfl (lv_at hl 0 rfl) ?_
    refine xr_strV C0 W0 (by decide) (xws_t 1240 (by decide +kernel) rfl) dJ0_indexOf_7cf53_8 ?_
    refine lv_iload_n hx hb dJ0_indexOf_7cf53_11 rfl (lv_at hl 1 rfl) ?_
    refine lv_iload_n hx hb dJ0_indexOf_7cf53_12 rfl (lv_at hl 2 rfl) ?_
    refine lv_aload_n hx hb dJ0_indexOf_7cf53_13 rfl (lv_at hl 0 rfl) ?_
    obtain ⟨r3, h4, h⟩ := ob h
    refine xr_VT (As := []) (rest := [.int l2, .int l1, .ref (G.2.2.2 (20 + 1))]) C0 W0 (ctJ0_length_8abf5_s1 l G h4) (by decide) rfl mc_J0_length_8abf5 mv_J0_length_8abf5 ml_J0_505 ⟨by decide, by decide⟩ rfl hl.1 rfl (Nat.le_of_ble_eq_true rfl) ⟨by decide, by decide⟩ dJ0_indexOf_7cf53_14 (fun H locs W0 => ?_)
    refine W.cs (cells' := 0) (slots' := 0) rfl rfl ?_
    refine W.eq (g2 := F0 m 17 ls [.int r3.1, .int l2, .int l1, .ref (G.2.2.2 (20 + 1))]) rfl ?_
    obtain ⟨r5, h6, h⟩ := ob h
    refine xr_S (As := [.ref (G.2.2.2 (20 + 1)), .int l1, .int l2, .int r3.1]) (rest := []) C0 W0 (ctJ1_indexOf_4cfef_s1 l G h6) mc_J1_indexOf_4cfef ms_J1_indexOf_4cfef ml_J0_637 ⟨by decide, by decide⟩ rfl hl.1 rfl (Nat.le_of_ble_eq_true rfl) ⟨by decide, by decide⟩ dJ0_indexOf_7cf53_17 (fun H locs W0 => ?_)
    refine W.cs (cells' := 0) (slots' := 0) rfl rfl ?_
    refine W.eq (g2 := F0 m 20 ls [.int r5.1]) rfl ?_
    refine lv_goto (tgt := 36) hx hb dJ0_indexOf_7cf53_20 (by decide) ?_
    exact xr_iret C0 W0 hret (Option.some.inj h) dJ0_indexOf_7cf53_36
def fJ0_indexOf_0f7a4_s1 (l1 : Int32) (X : XW) : Option (Int32 × XW) :=
  fJ0_indexOf_7cf53_s1 l1 0 X >>= fun r1 =>
  some (r1.1, r1.2)
theorem ctJ0_indexOf_0f7a4_s1 (l : Launch) (G : XG) {l1 : Int32} {X : XW} {r : Int32 × XW}  (h : fJ0_indexOf_0f7a4_s1 l1 X = some r) : XM l G yJ0_indexOf_0f7a4 cJ0_indexOf_0f7a4 2 (some .int) 3 180 0 0 [.ref (G.2.2.2 (10 + 1)), .int l1] X (some (.int r.1), r.2) := by
  refine xm_of (own := RJ0) (by decide) rfl (Nat.le_of_ble_eq_true rfl) ?_
  intro p e s m below meth c ls C0 W0 hret hnm hl
  have hx := C0.1
  have hb := C0.2.1
  have hl : lv_has ls 2 [(0, .ref (G.2.2.2 (10 + 1))), (1, .int l1)] := hl
  unfold fJ0_indexOf_0f7a4_s1 at h
  refine lv_aload_n hx hb dJ0_indexOf_0f7a4_0 rfl (lv_at hl 0 rfl) ?_
  refine lv_iload_n hx hb dJ0_indexOf_0f7a4_1 rfl (lv_at hl 1 rfl) ?_
  refine lv_iconst (v := 0) hx hb dJ0_indexOf_0f7a4_2 (by decide) ?_
  obtain ⟨r1, h2, h⟩ := ob h
  refine xr_VT (As := [.int l1, .int 0]) (rest := []) C0 W0 (ctJ0_indexOf_7cf53_s1 l G h2) (by decide) rfl mc_J0_indexOf_7cf53 mv_J0_indexOf_7cf53 ml_J0_633 ⟨by decide, by decide⟩ rfl hl.1 rfl (Nat.le_of_ble_eq_true rfl) ⟨by decide, by decide⟩ dJ0_indexOf_0f7a4_3 (fun H locs W0 => ?_)
  refine W.cs (cells' := 0) (slots' := 0) rfl rfl ?_
  refine W.eq (g2 := F0 m 6 ls [.int r1.1]) rfl ?_
  exact xr_iret C0 W0 hret (Option.some.inj h) dJ0_indexOf_0f7a4_6
