/-! THE LAW'S CASE 13: shape, with what is caught -/
theorem gk {X : XW} {a ci k : Nat} {β : Type} {f : Int32 → Option β} {r : β} (h : (gI X a ci k >>= f) = some r) : xKd X a = ci + 1 := by
  unfold gI at h
  by_cases hc : xKd X a = ci + 1
  · exact hc
  · rw [if_neg hc] at h
    cases h
theorem sk {o : Nat} {i w : Int32} {X : XW} {r : Int32 × XW} (h : fX10_shape o i w X = some r) : xKd X o = 10 + 1 := by
  unfold fX10_shape at h
  by_cases hc : i < 0
  · rw [if_pos hc] at h
    unfold fX10_shape_j30 fX10_shape_j31 at h
    exact pk h
  · rw [if_neg hc] at h
    exact gk h
theorem m_thrown {o : Nat} {X : XW} (hk : xKd X o = 10 + 1) : fX10_thrown o X = some (xI X o 0, X) := by
  unfold fX10_thrown gI
  rw [if_pos hk]
  rfl
theorem lg_cmp_self (x : Int64) : lg_cmp x x = 0 := by
  unfold lg_cmp
  rw [if_neg (fun h => by rw [gt_iff_lt, Int64.lt_iff_toInt_lt] at h; omega), if_pos rfl]
theorem lw_wk {ls : Array Slot} {n : Nat} {x y : Nat × Value} {lv : List (Nat × Value)} (h : lv_has ls n (x :: y :: lv)) : lv_has ls n lv := ⟨h.1, h.2.1, fun q hq => h.2.2 q (List.mem_cons_of_mem _ (List.mem_cons_of_mem _ hq))⟩
section Ld
variable {p : Program} {l : Launch} {e : Env} {s : State} {m : MethodId} {below : List Frame} {meth : Method} {c : Code} {H : Heap} {locs : List Loc} {cells slots : Nat} {Q : State → Prop}
variable {G : XG} {X0 X : XW} {t : St} {ls : Array Slot} {b v L : Nat} {xs : Nat → Int32} {i : Int32}
theorem lw_c13 (hlt : l.stackTraces = false) (E : lwE p s m meth c G X0 b L xs) (W0 : XD G X0 X s H locs) (I : Inv X v t) (hl : lv_has ls 7 (lwA b v i)) (hi : ∀ k : Nat, k < 7 → vp_in (i + Int32.ofNat k) L) (hf : cells + 11 ≤ room_1.cells ∧ slots + 3138 ≤ room_1.slots) (K : lwK p l e s m below meth c cells slots Q G X0 b v i) : W p l e room_1 s m #[Value.ref b] below meth c H locs cells slots Q (F0 m 797 ls []) := by
  have C0 := E.1
  have hx := C0.1
  have hb := C0.2.1
  have hl : lv_has ls 7 [(0, .ref b), (1, .ref v), (2, .ref (v + 127)), (3, .ref (v + 169)), (4, .int i)] := hl
  have h0 : ls[0]? = some (.val (.ref b)) := lv_at hl 0 rfl
  have h4 : ls[4]? = some (.val (.int i)) := lv_at hl 4 rfl
  obtain ⟨hf1, hf2⟩ := hf
  obtain ⟨r, hr, hcase⟩ := p_shape I (sc xs i 1) (sc xs i 2)
  have ho : ∀ a, r.1 = some a → ∃ X1, uL r.2 (v + 169) 0 a.toInt64 = some X1 := by
    intro a ha
    rcases hcase with ⟨a', X1, h1, h2, -⟩ | ⟨h1, -⟩
    · rw [h1] at ha
      cases ha
      exact ⟨X1, h2⟩
    · rw [h1] at ha
      cases ha
  refine lv_aload_n hx hb dL_law_797 rfl (lv_at hl 1 rfl) ?_
  refine lw_sc (pc := 798) (k := 1) E W0 h0 h4 rfl (hi 1 (by decide)) dL_law_798 dL_law_799 dL_law_801 dL_law_802 dL_law_803 ?_
  refine lw_sc (pc := 804) (k := 2) E W0 h0 h4 rfl (hi 2 (by decide)) dL_law_804 dL_law_805 dL_law_807 dL_law_808 dL_law_809 ?_
  refine lv_aload_n hx hb dL_law_810 rfl (lv_at hl 3 rfl) ?_
  refine xs_13 (rest := []) C0 W0 hlt I.1.1.1 hr ho hl.1 (Nat.le_of_ble_eq_true rfl) ⟨by omega, by omega⟩ dL_law_811 (fun a X1 H locs ha hX1 W0 => ?_) (fun n H locs hn hle W0 => ?_)
  · rcases hcase with ⟨a', X1', h1, h2, -, X2, h3, I2, e0, eL⟩ | ⟨h1, -⟩
    rotate_left 1
    · rw [h1] at ha
      cases ha
    have ea : a' = a := Option.some.inj (h1.symm.trans ha)
    subst ea
    have eX : X1' = X1 := Option.some.inj (h2.symm.trans hX1)
    subst eX
    refine lv_istore (lv' := [(5, .int 0), (0, .ref b), (1, .ref v), (2, .ref (v + 127)), (3, .ref (v + 169)), (4, .int i)]) hx hb dL_law_814 hl (by decide) rfl (fun ls hl => ?_)
    refine lv_aload_n hx hb dL_law_816 rfl (lv_at hl 3 rfl) ?_
    refine lw_sc (pc := 817) (k := 1) E W0 (lv_at hl 1 rfl) (lv_at hl 5 rfl) rfl (hi 1 (by decide)) dL_law_817 dL_law_818 dL_law_820 dL_law_821 dL_law_822 ?_
    refine lw_sc (pc := 823) (k := 2) E W0 (lv_at hl 1 rfl) (lv_at hl 5 rfl) rfl (hi 2 (by decide)) dL_law_823 dL_law_824 dL_law_826 dL_law_827 dL_law_828 ?_
    refine xr_V (As := [.int (sc xs i 1), .int (sc xs i 2)]) (rest := []) C0 W0 (ctX10_shape l G h3) (sk h3) (rr := (RX10, TX10, 57)) rfl rfl mc_X10_shape mv_X10_shape ml_L_86 ⟨by decide, by decide⟩ rfl hl.1 rfl (Nat.le_of_ble_eq_true rfl) ⟨by omega, by omega⟩ dL_law_829 (fun H locs W0 => ?_)
    refine W.eq (g2 := F0 m 832 ls [.int a']) rfl ?_
    refine lv_istore (lv' := [(6, .int a'), (5, .int 0), (0, .ref b), (1, .ref v), (2, .ref (v + 127)), (3, .ref (v + 169)), (4, .int i)]) hx hb dL_law_832 hl (by decide) rfl (fun ls hl => ?_)
    refine lv_aload_n hx hb dL_law_834 rfl (lv_at hl 4 rfl) ?_
    refine xr_V (As := []) (rest := []) C0 W0 (ctX10_thrown l G (m_thrown I2.2.1.1.1)) I2.2.1.1.1 (rr := (RX10, TX10, 57)) rfl rfl mc_X10_thrown mv_X10_thrown ml_L_87 ⟨by decide, by decide⟩ rfl hl.1 rfl (Nat.le_of_ble_eq_true rfl) ⟨by omega, by omega⟩ dL_law_835 (fun H locs W0 => ?_)
    refine W.eq (g2 := F0 m 838 ls [.int (xI X2 (v + 127) 0)]) rfl ?_
    rw [e0]
    refine lv_iload hx hb dL_law_838 (lv_at hl 1 rfl) ?_
    refine lv_icmp_eq (tgt := 845) hx hb dL_law_840 (by decide) (fun _ => ?_) (fun h => absurd rfl h)
    refine lv_iload hx hb dL_law_845 (lv_at hl 1 rfl) ?_
    refine lv_if_ne (tgt := 862) hx hb dL_law_847 (by decide) (fun h => absurd rfl h) (fun _ => ?_)
    refine lv_aload_n hx hb dL_law_850 rfl (lv_at hl 5 rfl) ?_
    refine lv_iconst hx hb dL_law_851 (v := 0) rfl ?_
    refine xr_lald C0 W0 eL dL_law_852 ?_
    refine lv_iload hx hb dL_law_853 (lv_at hl 0 rfl) ?_
    refine lv_i2l hx hb dL_law_855 rfl ?_
    refine W.lcmp hx hb dL_law_856 ?_
    rw [lg_cmp_self]
    refine lv_if_eq (tgt := 862) hx hb dL_law_857 (by decide) (fun _ => ?_) (fun h => absurd rfl h)
    refine lv_goto (tgt := 977) hx hb dL_law_862 (by decide) ?_
    exact W.widen (by omega) (by omega) (K _ _ _ _ _ W0 I2 (lw_wk hl))
  · rcases hcase with ⟨a', X1', h1, -⟩ | ⟨-, h3⟩
    · rw [h1] at hn
      cases hn
    obtain ⟨X2, h3, I2, e0⟩ := h3 n hle
    refine lv_istore (lv' := [(5, .int 1), (0, .ref b), (1, .ref v), (2, .ref (v + 127)), (3, .ref (v + 169)), (4, .int i)]) hx hb dL_law_814 hl (by decide) rfl (fun ls hl => ?_)
    refine lv_aload_n hx hb dL_law_816 rfl (lv_at hl 3 rfl) ?_
    refine lw_sc (pc := 817) (k := 1) E W0 (lv_at hl 1 rfl) (lv_at hl 5 rfl) rfl (hi 1 (by decide)) dL_law_817 dL_law_818 dL_law_820 dL_law_821 dL_law_822 ?_
    refine lw_sc (pc := 823) (k := 2) E W0 (lv_at hl 1 rfl) (lv_at hl 5 rfl) rfl (hi 2 (by decide)) dL_law_823 dL_law_824 dL_law_826 dL_law_827 dL_law_828 ?_
    refine xr_V (As := [.int (sc xs i 1), .int (sc xs i 2)]) (rest := []) C0 W0 (ctX10_shape l G h3) (sk h3) (rr := (RX10, TX10, 57)) rfl rfl mc_X10_shape mv_X10_shape ml_L_86 ⟨by decide, by decide⟩ rfl hl.1 rfl (Nat.le_of_ble_eq_true rfl) ⟨by omega, by omega⟩ dL_law_829 (fun H locs W0 => ?_)
    refine W.eq (g2 := F0 m 832 ls [.int 0]) rfl ?_
    refine lv_istore (lv' := [(6, .int 0), (5, .int 1), (0, .ref b), (1, .ref v), (2, .ref (v + 127)), (3, .ref (v + 169)), (4, .int i)]) hx hb dL_law_832 hl (by decide) rfl (fun ls hl => ?_)
    refine lv_aload_n hx hb dL_law_834 rfl (lv_at hl 4 rfl) ?_
    refine xr_V (As := []) (rest := []) C0 W0 (ctX10_thrown l G (m_thrown I2.2.1.1.1)) I2.2.1.1.1 (rr := (RX10, TX10, 57)) rfl rfl mc_X10_thrown mv_X10_thrown ml_L_87 ⟨by decide, by decide⟩ rfl hl.1 rfl (Nat.le_of_ble_eq_true rfl) ⟨by omega, by omega⟩ dL_law_835 (fun H locs W0 => ?_)
    refine W.eq (g2 := F0 m 838 ls [.int (xI X2 (v + 127) 0)]) rfl ?_
    rw [e0]
    refine lv_iload hx hb dL_law_838 (lv_at hl 1 rfl) ?_
    refine lv_icmp_eq (tgt := 845) hx hb dL_law_840 (by decide) (fun _ => ?_) (fun h => absurd rfl h)
    refine lv_iload hx hb dL_law_845 (lv_at hl 1 rfl) ?_
    refine lv_if_ne (tgt := 862) hx hb dL_law_847 (by decide) (fun _ => ?_) (fun h => absurd h (by decide))
    refine lv_goto (tgt := 977) hx hb dL_law_862 (by decide) ?_
    exact W.widen (by omega) (by omega) (K _ _ _ _ _ W0 I2 (lw_wk hl))
end Ld
