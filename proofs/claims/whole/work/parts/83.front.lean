/-! THE LAW FROM ITS ENTRY TO THE LOOP -/
def x00 (n : Nat) : XW := (n, fun _ => (0, 0), fun _ _ => 0, fun _ _ => none, fun _ _ => 0, fun _ _ => 0, fun _ _ => none)
section Lf
variable {p : Program} {l : Launch} {e : Env} {s : State} {m : MethodId} {below : List Frame} {meth : Method} {c : Code} {Q : State → Prop} {H : Heap} {locs : List Loc}
variable {G : XG} {X0 : XW} {ls : Array Slot} {b L : Nat} {xs : Nat → Int32}
theorem lw_fr (E : lwE p s m meth c G X0 b L xs) (W0 : XD G X0 X0 s H locs) (hl : lv_has ls 7 [(0, .ref b)]) (K : ∀ (X' : XW) (H' : Heap) (locs' : List Loc) (t' : St) (ls' : Array Slot), XD G X0 X' s H' locs' → Inv X' X0.1 t' → lv_has ls' 7 (lwA b X0.1 (nI (7 * 0))) → W p l e room_1 s m #[Value.ref b] below meth c H' locs' 170 27969 Q (F0 m 23 ls' [])) : W p l e room_1 s m #[Value.ref b] below meth c H locs 0 0 Q (F0 m 0 ls []) := by
  have C0 := E.1
  have hx := C0.1
  have hb := C0.2.1
  obtain ⟨A, B, h1, e1, h2, e2, -, I⟩ := p_init X0
  refine xr_new C0 W0 cl_X9 (by decide) dv_X9 kl_L_8 kn_X9.1 kn_X9.2 (by decide) (by decide) dL_law_0 (fun H W0 => ?_)
  refine W.cs (cells' := 1) (slots' := 12) rfl rfl ?_
  refine W.eq (g2 := F0 m 3 ls [.ref X0.1]) rfl ?_
  refine lv_dup hx hb dL_law_3 rfl ?_
  refine xr_I (As := []) (rest := [.ref X0.1]) C0 W0 (ctX9_init l G h1) mc_X9_init mi_X9_init ml_L_15 ⟨by decide, by decide⟩ rfl hl.1 rfl (Nat.le_of_ble_eq_true rfl) ⟨by decide, by decide⟩ dL_law_4 (fun H locs W0 => ?_)
  refine W.cs (cells' := 127) (slots' := 9416) rfl rfl ?_
  refine W.eq (g2 := F0 m 7 ls [.ref X0.1]) rfl ?_
  refine lv_astore_n (lv' := [(1, .ref X0.1), (0, .ref b)]) hx hb dL_law_7 rfl hl (by decide) rfl (fun ls hl => ?_)
  refine xr_new C0 W0 cl_X10 (by decide) dv_X10 kl_L_16 kn_X10.1 kn_X10.2 (by decide) (by decide) dL_law_8 (fun H W0 => ?_)
  refine W.cs (cells' := 128) (slots' := 9473) rfl rfl ?_
  rw [e1]
  refine W.eq (g2 := F0 m 11 ls [.ref (X0.1 + 127)]) rfl ?_
  refine lv_dup hx hb dL_law_11 rfl ?_
  refine xr_I (As := []) (rest := [.ref (X0.1 + 127)]) C0 W0 (ctX10_init l G h2) mc_X10_init mi_X10_init ml_L_18 ⟨by decide, by decide⟩ rfl hl.1 rfl (Nat.le_of_ble_eq_true rfl) ⟨by decide, by decide⟩ dL_law_12 (fun H locs W0 => ?_)
  refine W.cs (cells' := 169) (slots' := 27968) rfl rfl ?_
  refine W.eq (g2 := F0 m 15 ls [.ref (X0.1 + 127)]) rfl ?_
  refine lv_astore_n (lv' := [(2, .ref (X0.1 + 127)), (1, .ref X0.1), (0, .ref b)]) hx hb dL_law_15 rfl hl (by decide) rfl (fun ls hl => ?_)
  refine lv_iconst hx hb dL_law_16 (v := 1) rfl ?_
  have hN : nA B 2 1 1 = some (X0.1 + 169, wN B 22 1) := by
    unfold nA
    rw [if_pos (by decide), e2]
    rfl
  refine xr_newa (atype := .long) C0 W0 2 1 rfl (by decide) (by decide) rfl ka_long (fun N => nw_long) (by decide) hN (by decide) (by decide) dL_law_17 (fun H W0 => ?_)
  refine W.cs (cells' := 170) (slots' := 27969) rfl rfl ?_
  refine W.eq (g2 := F0 m 19 ls [.ref (X0.1 + 169)]) rfl ?_
  refine lv_astore_n (lv' := [(3, .ref (X0.1 + 169)), (2, .ref (X0.1 + 127)), (1, .ref X0.1), (0, .ref b)]) hx hb dL_law_19 rfl hl (by decide) rfl (fun ls hl => ?_)
  refine lv_iconst hx hb dL_law_20 (v := 0) rfl ?_
  refine lv_istore (lv' := [(4, .int 0), (3, .ref (X0.1 + 169)), (2, .ref (X0.1 + 127)), (1, .ref X0.1), (0, .ref b)]) hx hb dL_law_21 hl (by decide) rfl (fun ls hl => ?_)
  exact K _ _ _ _ _ W0 I (lv_sub hl [4, 3, 2, 1, 0] rfl)
end Lf
theorem xw00 {G : XG} {H : Heap} : xw G (x00 H.size) H := ⟨rfl, fun a => ⟨fun ci r h => by
  have h0 : xKd (x00 H.size) a = 0 := rfl
  omega, fun t h => by
  have h0 : xKd (x00 H.size) a = 0 := rfl
  omega, fun h => absurd rfl h⟩⟩
theorem xAd00 {n q : Nat} (h : xAd (x00 n) q) : n ≤ q := by
  rcases h with h | h
  · exact absurd rfl h
  · exact h
