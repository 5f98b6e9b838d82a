/-! THE LAW'S OWN METHOD shape: it calls shape and catches -/
section Lsh
variable {p : Program} {l : Launch} {e : Env} {R : Room} {s : State} {m : MethodId} {args : Array Value} {below : List Frame} {meth : Method} {c : Code} {H : Heap} {locs : List Loc} {cells slots : Nat} {Q : State → Prop}
variable {own : String} {cc : ByteArray} {nL : Nat} {G : XG} {X0 X : XW} {pc : Nat} {ls : Array Slot} {rest : List Value}
variable {y : MethodName} {bytes : ByteArray} {maxL mc ms fr lo n idx : Nat} {ret : Option FieldType} {st0 As : List Value} {b ci : Nat}
theorem xs_V {r : Option Int32 × XW} (C0 : XC p s m args meth c own cc nL G) (W0 : XD G X0 X s H locs) (hM : XMt l G y bytes maxL ret fr lo mc ms (.ref b :: As) X r) {rr : vw_C} (hk : xKd X b = ci + 1) (hc : vwCl[ci]? = some rr) (hy : rr.1 = y.cls) (hw : XMc y bytes maxL ret n) (hv : XMv y) (hl : Cond.methodLink own idx y ∈ xws) (hR : fr + 1 ≤ R.frames ∧ 8 + (maxL + 11) + lo ≤ R.locals) (hn : As.length = n) (hls : ls.size = nL) (hst : st0 = As.reverse ++ .ref b :: rest) (hr : (rest.map fun v => v.category).sum ≤ 8) (hf : cells + mc ≤ R.cells ∧ slots + ms ≤ R.slots) (hdg : decode cc pc = .ok (.invokevirtual idx, 3))
    (kk : ∀ (v : Int32) (H1 : Heap) (locs1 : List Loc), r.1 = some v → XD G X0 r.2 s H1 locs1 → W p l e R s m args below meth c H1 locs1 (cells + mc) (slots + ms) Q (F0 m (pc + 3) ls (.int v :: rest)))
    (kx : ∀ (q : Addr) (ce : Cell) (H1 : Heap) (locs1 : List Loc), r.1 = none → r.2.1 ≤ H1.size → XD G X0 (wZ r.2 H1.size) s H1 locs1 → H1[q]? = some ce → ce.vm = .none → s.vm.findClass NSE = some ce.cls → vx_W p l e R s m args below meth c H1 locs1 (cells + mc) (slots + ms) Q (F0 m pc ls rest) q) : W p l e R s m args below meth c H locs cells slots Q (F0 m pc ls st0) := by
  have hr' := vx_runV (cells := cells) (slots := slots) (locs := locs) (below := below) (meth := meth) (p := p) (e := e) (As := As) (rest := rest) (b := b) (g := F0 m pc ls st0) ⟨C0.1, C0.2.1, C0.2.2.1, C0.2.2.2.1, C0.2.2.2.2.1⟩ hM ⟨xcb C0 hw hl hR, C0.2.2.2.2.1 _ hv.1, C0.2.2.2.2.1 _ hv.2⟩ ⟨xblind, xrecv C0 W0 hk hc hy, xpre W0 C0.2.2.2.2.2.1 _⟩ rfl hn hls hst (lv_room hr) hdg hf
  intro T hT Xs
  have hA := xAd_sub W0
  have keep : ∀ (st₀ t T' : State) (L : List Loc) (X1 : XW), st₀.heap = H → T'.heap = t.heap → (∀ q ∈ L, xAd X q.base) → xw G X1 t.heap → (∀ a, xKd X1 a ≠ 0 → xAd X a) → va_F (xAd X) st₀ t → XD G X0 X1 s T'.heap (locs ++ L) := fun st₀ t T' L X1 h0 e1 hL hw hkd hF => by
    obtain ⟨hz, hk⟩ := hF
    rw [h0] at hz hk
    exact ⟨by rw [e1]; exact hw, fun a ha => hA a (hkd a ha), ⟨Nat.le_trans W0.2.2.1.1 (by rw [e1]; exact hz), fun q h1 h2 => by rw [e1, hk q (Nat.lt_of_lt_of_le h1 W0.2.2.1.1) (fun z => h2 (hA q z))]; exact W0.2.2.1.2.1 q h1 h2, fun q hq => (List.mem_append.mp hq).elim (W0.2.2.1.2.2 q) (fun h => hA _ (hL q h))⟩, W0.2.2.2⟩
  rcases hr' T hT Xs with ⟨v, st₀, t, T', L, h0, X', hL, e1, e2, ⟨v', hv1, hv2, hw', hkd, hF⟩, st⟩ | ⟨q, st₀, t, T', L, E, ce, h0, X', hL, e1, e2, ⟨rfl, hn1, hw', hsz, hkd, hF⟩, hce, hcv, hcl, st⟩
  · have hvv : v = some (.int v') := Outcome.returned.inj hv2
    subst hvv
    obtain ⟨t2, a1, b1⟩ := kk v' T'.heap (locs ++ L) hv1 (keep st₀ t T' L _ h0 e1 hL hw' hkd hF) T' rfl X'
    exact ⟨t2, st t2 a1, b1⟩
  · have hw2 : xw G (wZ r.2 T'.heap.size) t.heap := by rw [e1]; exact hw'
    obtain ⟨t2, a1, b1⟩ := kx q ce T'.heap (locs ++ L) hn1 (by rw [e1]; exact hsz) (keep st₀ t T' L _ h0 e1 hL hw2 hkd hF) (by rw [e1]; exact hce) hcv hcl T' rfl X'
    exact ⟨t2, st.trans a1, b1⟩
def XQs (G : XG) (X : XW) (out : Nat) (r : Option Int32 × XW) : Array Value → State → Outcome → State → Prop := fun a st o t => (∃ v X1, r.1 = some v ∧ uL r.2 out 0 v.toInt64 = some X1 ∧ XQ G X (some (.int 0), X1) a st o t) ∨ (r.1 = none ∧ ∃ k, r.2.1 ≤ k ∧ XQ G X (some (.int 1), wZ r.2 k) a st o t)
def hhL : List (Nat × Nat × Nat × Nat) := [(0, 10, 13, 13)]
theorem kl_L_13 : Cond.classLink RL 13 NSE ∈ lw_tbl ∧ goodWord (Cond.classLink RL 13 NSE) = true := by decide +kernel
theorem ctL_shape (l : Launch) (G : XG) {x : Nat} {i w : Int32} {out : Nat} {X : XW} {r : Option Int32 × XW} (hlt : l.stackTraces = false) (hk : xKd X x = 9 + 1) (h : fX9_shape x i w X = some r) (ho : ∀ v, r.1 = some v → ∃ X1, uL r.2 out 0 v.toInt64 = some X1) : vx_Met l yL_shape (.codeWith yL_shape cL_shape 5 (some .int) hhL :: xws) { frames := 7, cells := 1, slots := 6, locals := 420 } (va_Pc [.ref x, .int i, .int w, .ref out] (XPre G X)) (XQs G X out r) (fun _ _ _ => False) 1 6 (xAd X) := by
  refine vx_ofWH (cc := cL_shape) (maxL := 5) (ret := some .int) (by decide) rfl ?_
  intro p e s m args below meth c s₁ B hml hv
  obtain ⟨rfl, hw, hkk, hst⟩ := hv
  have hts := atoms_spec (ws := .codeWith yL_shape cL_shape 5 (some .int) hhL :: xws) B.pre
  have htab := vx_table (x := yL_shape) B (hts _ List.mem_cons_self)
  have hl := lv_entry [Value.ref x, .int i, .int w, .ref out] (n := 5) (Nat.le_of_ble_eq_true rfl)
  rw [lg_entry_eq]
  have C0 : XC p s m ([Value.ref x, .int i, .int w, .ref out] : List Value).toArray meth c RL cL_shape 5 G := ⟨B.exec, B.bytes, hml, findClass_of_methodNamed B.named, fun w h => hts w (List.mem_cons_of_mem _ h), hkk, B.notSynchronized⟩
  have W0 : XD G X X s s.heap [] := ⟨hw, fun a ha => Or.inl ha, va_S.rf, hw.1.symm, hst⟩
  have hret : meth.sig.returnType = some .int := B.returns
  have hx := C0.1
  have hb := C0.2.1
  generalize ((lg_sl [Value.ref x, .int i, .int w, .ref out] ++ List.replicate (5 - (lg_sl [Value.ref x, .int i, .int w, .ref out]).length) Slot.unset).toArray) = ls at hl ⊢
  have hl : lv_has ls 5 [(0, .ref x), (1, .int i), (2, .int w), (3, .ref out)] := hl
  refine lv_aload_n hx hb dL_shape_0 rfl (lv_at hl 3 rfl) ?_
  refine lv_iconst hx hb dL_shape_1 (v := 0) rfl ?_
  refine lv_aload_n hx hb dL_shape_2 rfl (lv_at hl 0 rfl) ?_
  refine lv_iload_n hx hb dL_shape_3 rfl (lv_at hl 1 rfl) ?_
  refine lv_iload_n hx hb dL_shape_4 rfl (lv_at hl 2 rfl) ?_
  refine xs_V (As := [.int i, .int w]) (rest := [.int 0, .ref out]) C0 W0 (ctX9_shape l G hlt h) hk (rr := (RX9, TX9, 12)) rfl rfl mc_X9_shape mv_X9_shape ml_L_7 ⟨by decide, by decide⟩ rfl hl.1 rfl (Nat.le_of_ble_eq_true rfl) ⟨by decide, by decide⟩ dL_shape_5 (fun v H locs hv1 W0 => ?_) (fun q ce H locs hn1 hsz W0 hce hcv hcl => ?_)
  · refine W.cs (cells' := 1) (slots' := 6) rfl rfl ?_
    obtain ⟨X1, hX1⟩ := ho v hv1
    refine lv_i2l hx hb dL_shape_8 rfl ?_
    refine xr_last C0 W0 hX1 dL_shape_9 (fun H locs W0 => ?_)
    refine lv_goto (tgt := 17) hx hb dL_shape_10 (by decide) ?_
    refine lv_iconst hx hb dL_shape_17 (v := 0) rfl ?_
    exact vx_ret (W.iret C0.1 C0.2.1 hret (fun t ht hW => Or.inl ⟨v, X1, hv1, hX1, rfl, by rw [ht]; exact W0.1, W0.2.1, W0.2.2.1.F ht⟩) W0.2.2.1.2.2 dL_shape_18 C0.2.2.2.2.2.2)
  · refine vx_catch C0.2.2.2.1 [] ⟨0, 10, 13, 13⟩ [] (by rw [htab]; rfl) (fun z hz => nomatch hz) (by decide) (by decide) (C0.2.2.2.2.1 _ (xws_in kl_L_13.1 kl_L_13.2)) (va_Nw.use rfl (xnw_743 C0.2.2.2.2.2.1.2)) hce hcv hcl ?_
    refine W.cs (cells' := 1) (slots' := 6) rfl rfl ?_
    refine lv_astore hx hb dL_shape_13 hl (by decide) rfl (fun ls hl => ?_)
    refine lv_iconst hx hb dL_shape_15 (v := 1) rfl ?_
    exact vx_ret (W.iret C0.1 C0.2.1 hret (fun t ht hW => Or.inr ⟨hn1, H.size, hsz, rfl, by rw [ht]; exact W0.1, W0.2.1, W0.2.2.1.F ht⟩) W0.2.2.1.2.2 dL_shape_16 C0.2.2.2.2.2.2)
end Lsh
