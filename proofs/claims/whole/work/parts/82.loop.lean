/-! THE LAW'S LOOP -/
theorem lw_ti {n : Nat} (h : n < 2 ^ 31) : (nI n).toInt = n := Int32.toInt_ofNat_of_lt h
theorem lw_le {L n : Nat} (hL : L ≤ 3584) (hn : n ≤ 4000) (h : ¬ nI L - 7 < nI n) : n + 7 ≤ L := by
  rw [Int32.lt_iff_toInt_lt, Int32.toInt_sub, lw_ti (n := L) (by omega), lw_ti (n := n) (by omega), show (7 : Int32).toInt = 7 from rfl, Int.bmod_eq_of_le (by omega) (by omega)] at h
  omega
theorem lw_in {L n k : Nat} (hL : L ≤ 3584) (hn : n + 7 ≤ L) (hk : k < 7) : vp_in (nI n + Int32.ofNat k) L := by
  have e : nI n + Int32.ofNat k = nI (n + k) := nI_add n k
  rw [e]
  have e2 := lw_ti (n := n + k) (by omega)
  intro h
  rcases h with h | h
  · exact nI_pos (by omega) h
  · have e3 : (nI (n + k)).toNatClampNeg = n + k := by
      rw [← Int32.toNat_toInt, e2]
      rfl
    omega
section Ll
variable {p : Program} {l : Launch} {e : Env} {s : State} {m : MethodId} {below : List Frame} {meth : Method} {c : Code} {H : Heap} {locs : List Loc} {cells slots : Nat} {Q : State → Prop}
variable {G : XG} {X0 X : XW} {t : St} {ls : Array Slot} {b v L : Nat} {xs : Nat → Int32} {i : Int32}
theorem lw_sw (hlt : l.stackTraces = false) (E : lwE p s m meth c G X0 b L xs) (W0 : XD G X0 X s H locs) (I : Inv X v t) (hl : lv_has ls 7 (lwA b v i)) (hi : ∀ k : Nat, k < 7 → vp_in (i + Int32.ofNat k) L) (hf : cells + 11 ≤ room_1.cells ∧ slots + 3138 ≤ room_1.slots) (K : lwK p l e s m below meth c cells slots Q G X0 b v i) {x : Int32} : W p l e room_1 s m #[Value.ref b] below meth c H locs cells slots Q (F0 m 40 ls [.int x]) := by
  have hx := E.1.1
  have hb := E.1.2.1
  by_cases ho : x.toInt < 0 ∨ 17 < x.toInt
  · refine lv_tableOut (tgt := 977) hx hb dL_law_40 ho (by decide) ?_
    exact W.widen (by omega) (by omega) (K _ _ _ _ _ W0 I hl)
  obtain ⟨k, hk⟩ : ∃ k : Nat, x.toInt = k := ⟨x.toInt.toNat, by omega⟩
  have hk18 : k < 18 := by omega
  have h1 : ¬ x.toInt < 0 := by omega
  have h2 : ¬ 17 < x.toInt := by omega
  match k, hk18, hk with
  | 0, _, hk => exact lv_tableIn (off := 88) (tgt := 128) hx hb dL_law_40 h1 h2 (by rw [hk]; rfl) (by decide) (lw_c0 E W0 I hl hi hf K)
  | 1, _, hk => exact lv_tableIn (off := 193) (tgt := 233) hx hb dL_law_40 h1 h2 (by rw [hk]; rfl) (by decide) (lw_c1 E W0 I hl hi hf K)
  | 2, _, hk => exact lv_tableIn (off := 312) (tgt := 352) hx hb dL_law_40 h1 h2 (by rw [hk]; rfl) (by decide) (lw_c2 E W0 I hl hi hf K)
  | 3, _, hk => exact lv_tableIn (off := 325) (tgt := 365) hx hb dL_law_40 h1 h2 (by rw [hk]; rfl) (by decide) (lw_c3 E W0 I hl hi hf K)
  | 4, _, hk => exact lv_tableIn (off := 350) (tgt := 390) hx hb dL_law_40 h1 h2 (by rw [hk]; rfl) (by decide) (lw_c4 E W0 I hl hi hf K)
  | 5, _, hk => exact lv_tableIn (off := 375) (tgt := 415) hx hb dL_law_40 h1 h2 (by rw [hk]; rfl) (by decide) (lw_c5 E W0 I hl hi hf K)
  | 6, _, hk => exact lv_tableIn (off := 400) (tgt := 440) hx hb dL_law_40 h1 h2 (by rw [hk]; rfl) (by decide) (lw_c6 E W0 I hl hi hf K)
  | 7, _, hk => exact lv_tableIn (off := 461) (tgt := 501) hx hb dL_law_40 h1 h2 (by rw [hk]; rfl) (by decide) (lw_c7 E W0 I hl hi hf K)
  | 8, _, hk => exact lv_tableIn (off := 608) (tgt := 648) hx hb dL_law_40 h1 h2 (by rw [hk]; rfl) (by decide) (lw_c8 E W0 I hl hi hf K)
  | 9, _, hk => exact lv_tableIn (off := 621) (tgt := 661) hx hb dL_law_40 h1 h2 (by rw [hk]; rfl) (by decide) (lw_c9 E W0 I hl hi hf K)
  | 10, _, hk => exact lv_tableIn (off := 670) (tgt := 710) hx hb dL_law_40 h1 h2 (by rw [hk]; rfl) (by decide) (lw_c10 E W0 I hl hi hf K)
  | 11, _, hk => exact lv_tableIn (off := 707) (tgt := 747) hx hb dL_law_40 h1 h2 (by rw [hk]; rfl) (by decide) (lw_c11 E W0 I hl hi hf K)
  | 12, _, hk => exact lv_tableIn (off := 720) (tgt := 760) hx hb dL_law_40 h1 h2 (by rw [hk]; rfl) (by decide) (lw_c12 E W0 I hl hi hf K)
  | 13, _, hk => exact lv_tableIn (off := 757) (tgt := 797) hx hb dL_law_40 h1 h2 (by rw [hk]; rfl) (by decide) (lw_c13 hlt E W0 I hl hi hf K)
  | 14, _, hk => exact lv_tableIn (off := 825) (tgt := 865) hx hb dL_law_40 h1 h2 (by rw [hk]; rfl) (by decide) (lw_c14 E W0 I hl hi hf K)
  | 15, _, hk => exact lv_tableIn (off := 838) (tgt := 878) hx hb dL_law_40 h1 h2 (by rw [hk]; rfl) (by decide) (lw_c15 E W0 I hl hi hf K)
  | 16, _, hk => exact lv_tableIn (off := 875) (tgt := 915) hx hb dL_law_40 h1 h2 (by rw [hk]; rfl) (by decide) (lw_c16 E W0 I hl hi hf K)
  | 17, _, hk => exact lv_tableIn (off := 912) (tgt := 952) hx hb dL_law_40 h1 h2 (by rw [hk]; rfl) (by decide) (lw_c17 E W0 I hl hi hf K)
  | n + 18, h, _ => omega
theorem lw_it (hlt : l.stackTraces = false) (E : lwE p s m meth c G X0 b L xs) (hL : L ≤ 3584) {j : Nat} (hj : j ≤ 513) (hend : ∀ (H' : Heap) (locs' : List Loc) (ls' : Array Slot), va_S (xAd X0) s.heap H' locs' → W p l e room_1 s m #[Value.ref b] below meth c H' locs' cells slots Q (F0 m 983 ls' []))
    (hf : cells + 11 ≤ room_1.cells ∧ slots + 3138 ≤ room_1.slots) (K : 7 * j + 7 ≤ L → ∀ (X' : XW) (H' : Heap) (locs' : List Loc) (t' : St) (ls' : Array Slot), XD G X0 X' s H' locs' → Inv X' v t' → lv_has ls' 7 (lwA b v (nI (7 * (j + 1)))) → W p l e room_1 s m #[Value.ref b] below meth c H' locs' (cells + 11) (slots + 3138) Q (F0 m 23 ls' []))
    (W0 : XD G X0 X s H locs) (I : Inv X v t) (hl : lv_has ls 7 (lwA b v (nI (7 * j)))) : W p l e room_1 s m #[Value.ref b] below meth c H locs cells slots Q (F0 m 23 ls []) := by
  have C0 := E.1
  have hx := C0.1
  have hb := C0.2.1
  have hl : lv_has ls 7 [(0, .ref b), (1, .ref v), (2, .ref (v + 127)), (3, .ref (v + 169)), (4, .int (nI (7 * j)))] := hl
  have h0 : ls[0]? = some (.val (.ref b)) := lv_at hl 0 rfl
  have h4 : ls[4]? = some (.val (.int (nI (7 * j)))) := lv_at hl 4 rfl
  refine lv_iload hx hb dL_law_23 h4 ?_
  refine lv_aload_n hx hb dL_law_25 rfl h0 ?_
  refine va_slen hx hb E.2.1 E.2.2.1 E.2.2.2 W0.2.2.1 dL_law_26 ?_
  refine lv_bipush (v := 7) hx hb dL_law_27 (by decide) ?_
  refine lv_isub hx hb dL_law_29 ?_
  refine lv_icmp_gt (tgt := 983) hx hb dL_law_30 (by decide) (fun _ => hend _ _ _ W0.2.2.1) (fun hc => ?_)
  have h7 : 7 * j + 7 ≤ L := lw_le hL (by omega) hc
  have hi : ∀ k : Nat, k < 7 → vp_in (nI (7 * j) + Int32.ofNat k) L := fun k hk => lw_in hL h7 hk
  have hz : nI (7 * j) + Int32.ofNat 0 = nI (7 * j) := nI_add (7 * j) 0
  have hi0 : vp_in (nI (7 * j)) L := by
    have := hi 0 (by decide)
    rw [hz] at this
    exact this
  refine lv_aload_n hx hb dL_law_33 rfl h0 ?_
  refine lv_iload hx hb dL_law_34 h4 ?_
  refine va_sld hx hb E.2.1 E.2.2.1 E.2.2.2 W0.2.2.1 hi0 dL_law_36 ?_
  refine lv_bipush (v := 31) hx hb dL_law_37 (by decide) ?_
  refine lv_iand hx hb dL_law_39 ?_
  refine lw_sw hlt E W0 I hl hi hf (fun X' H' locs' t' ls' W1 I1 hl1 => ?_)
  have hl1 : lv_has ls' 7 [(0, .ref b), (1, .ref v), (2, .ref (v + 127)), (3, .ref (v + 169)), (4, .int (nI (7 * j)))] := hl1
  refine lv_iinc (v := nI (7 * (j + 1))) (lv' := [(4, .int (nI (7 * (j + 1)))), (0, .ref b), (1, .ref v), (2, .ref (v + 127)), (3, .ref (v + 169))]) hx hb dL_law_977 hl1 (k := 4) rfl (nI_add (7 * j) 7) (by decide) rfl (fun ls hl => ?_)
  refine lv_goto (tgt := 23) hx hb dL_law_980 (by decide) ?_
  exact K h7 X' H' locs' t' ls W1 I1 (lv_sub hl [1, 2, 3, 4, 0] rfl)
theorem lw_loop (hlt : l.stackTraces = false) (E : lwE p s m meth c G X0 b L xs) (hL : L ≤ 3584) (hend : ∀ (H' : Heap) (locs' : List Loc) (ls' : Array Slot), va_S (xAd X0) s.heap H' locs' → W p l e room_1 s m #[Value.ref b] below meth c H' locs' 601024 7293034 Q (F0 m 983 ls' [])) :
    ∀ (n j : Nat), j + n = 513 → ∀ (X : XW) (H : Heap) (locs : List Loc) (t : St) (ls : Array Slot), XD G X0 X s H locs → Inv X v t → lv_has ls 7 (lwA b v (nI (7 * j))) → W p l e room_1 s m #[Value.ref b] below meth c H locs (170 + 11 * j) (27969 + 3138 * j) Q (F0 m 23 ls []) := by
  have hR : room_1.cells = 601024 ∧ room_1.slots = 7293034 := ⟨rfl, rfl⟩
  obtain ⟨hR1, hR2⟩ := hR
  intro n
  induction n with
  | zero =>
    intro j hj X H locs t ls W0 I hl
    refine lw_it hlt E hL (by omega) (fun H' locs' ls' h => W.widen (by omega) (by omega) (hend H' locs' ls' h)) ⟨by omega, by omega⟩ (fun h7 => by omega) W0 I hl
  | succ n ih =>
    intro j hj X H locs t ls W0 I hl
    refine lw_it hlt E hL (by omega) (fun H' locs' ls' h => W.widen (by omega) (by omega) (hend H' locs' ls' h)) ⟨by omega, by omega⟩ (fun _ X' H' locs' t' ls' W1 I1 hl1 => ?_) W0 I hl
    exact W.cs (by omega) (by omega) (ih (j + 1) (by omega) X' H' locs' t' ls' W1 I1 hl1)
end Ll
