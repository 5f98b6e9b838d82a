theorem xst_at {G : XG} {X0 X : XW} {s : State} {H : Heap} {locs : List Loc} (W0 : XD G X0 X s H locs) {U : State} (hU : U.heap = H) (hW : s.WarmedH U.vm) : xst G (xAd X) U U.heap := by
  rw [hU]
  exact xst.narrow (xst.moved hW.alike (fun _ _ _ _ h => vk_R.warm hW h) (xst.kept W0.2.2.2.2 (fun a h1 h2 => W0.2.2.1.2.1 a h1 h2))) (xAd_sub W0)
theorem xpre {G : XG} {X0 X : XW} {s : State} {H : Heap} {locs : List Loc} (W0 : XD G X0 X s H locs) (hK : xk G s) (As : List Value) : ∀ U : State, U.heap = H → s.WarmedH U.vm → va_Pc As (XPre G X) As.toArray U :=
  fun U hU hW => ⟨rfl, by rw [hU]; exact W0.1, xk.moved hW hK, xst_at W0 hU hW⟩
theorem xblind {G : XG} {X : XW} {As : List Value} : FrameBlind (va_Pc As (XPre G X)) := fun a U g mk q => by
  obtain ⟨q0, q1, q2, q3⟩ := q
  exact ⟨q0, q1, ⟨va_K.moved (u := U) (U := U.calling g mk a) (Vm.Alike.refl U.vm) q2.1, xnw_same (s := U) (U := U.calling g mk a) rfl q2.2⟩, xst.moved (u := U) (U := U.calling g mk a) (Vm.Alike.refl U.vm) (fun _ _ _ _ h => vk_R.same (u := U) (U := U.calling g mk a) rfl h) q3⟩
section XR3
variable {p : Program} {l : Launch} {e : Env} {R : Room} {s : State} {m : MethodId} {args : Array Value} {below : List Frame} {meth : Method} {c : Code} {H : Heap} {locs : List Loc} {cells slots : Nat} {Q : State → Prop}
variable {own : String} {cc : ByteArray} {nL : Nat} {G : XG} {X0 X : XW} {pc : Nat} {ls : Array Slot} {rest : List Value}
variable {y : MethodName} {bytes : ByteArray} {maxL mc ms fr lo n idx : Nat} {ret : Option FieldType} {r : Option Value × XW} {st0 As : List Value} {b ci : Nat} {host : String}
theorem xr_go {av : Array Value} (hr : va_Run p l e R s m args below meth c H locs cells slots mc ms (F0 m pc ls st0) rest (XQ G X r av) (xAd X)) (W0 : XD G X0 X s H locs)
    (kk : ∀ (H1 : Heap) (locs1 : List Loc), XD G X0 r.2 s H1 locs1 → W p l e R s m args below meth c H1 locs1 (cells + mc) (slots + ms) Q (F0 m (pc + 3) ls (r.1.toList ++ rest))) : W p l e R s m args below meth c H locs cells slots Q (F0 m pc ls st0) := by
  intro T hT Xs
  obtain ⟨v, st₀, t, T', L, h0, X', hL, e1, e2, ⟨hv, hw, hkd, hz, hk⟩, st⟩ := hr T hT Xs
  have hv' : v = r.1 := Outcome.returned.inj hv
  subst hv'
  rw [h0] at hz hk
  have hA := xAd_sub W0
  obtain ⟨t2, a1, b1⟩ := kk T'.heap (locs ++ L) ⟨by rw [e1]; exact hw, fun a ha => hA a (hkd a ha), ⟨Nat.le_trans W0.2.2.1.1 (by rw [e1]; exact hz), fun q h1 h2 => by rw [e1, hk q (Nat.lt_of_lt_of_le h1 W0.2.2.1.1) (fun z => h2 (hA q z))]; exact W0.2.2.1.2.1 q h1 h2, fun q hq => (List.mem_append.mp hq).elim (W0.2.2.1.2.2 q) (fun h => hA _ (hL q h))⟩, W0.2.2.2⟩ T' rfl X'
  exact ⟨t2, st t2 a1, b1⟩
theorem xcb (C0 : XC p s m args meth c own cc nL G) (hc : XMc y bytes maxL ret n) (hl : Cond.methodLink own idx y ∈ xws) (hR : fr + 1 ≤ R.frames ∧ 8 + (maxL + 11) + lo ≤ R.locals) : CallB R s args own idx y bytes maxL ret (.code y bytes maxL ret :: xws) { frames := fr, cells := mc, slots := ms, locals := lo } mc ms n :=
  callB_of n C0.2.2.2.2.1 (xws_gi (cc2 := bytes) (n2 := n) (r2 := ret) (y2 := y) hc.1) rfl rfl rfl (C0.2.2.2.2.1 _ hc.2.1) (C0.2.2.2.2.1 _ hl) hc.2.2 hR
theorem xrecv (C0 : XC p s m args meth c own cc nL G) (W0 : XD G X0 X s H locs) {rr : vw_C} (hk : xKd X b = ci + 1) (hc : vwCl[ci]? = some rr) (hy : rr.1 = y.cls) : ∃ cellB : Cell, H[b]? = some cellB ∧ cellB.vm.isStatics = false ∧ s.vm.findClass y.cls = some cellB.cls := by
  obtain ⟨cell, q1, q2, q3, -⟩ := (W0.1.2 b).1 ci rr hk hc
  exact ⟨cell, q1, by rw [q3]; rfl, by rw [q2, ← hy]; exact (C0.2.2.2.2.2.1.1.1 ci rr hc).2.1⟩
theorem gK_of {X : XW} {a ci : Nat} {u : Unit} (h : gK X a ci = some u) : xKd X a = ci + 1 := by
  unfold gK at h
  split at h
  · assumption
  · cases h
theorem xr_V (C0 : XC p s m args meth c own cc nL G) (W0 : XD G X0 X s H locs) (hM : XM l G y bytes maxL ret fr lo mc ms (.ref b :: As) X r) {rr : vw_C} (hk : xKd X b = ci + 1) (hc : vwCl[ci]? = some rr) (hy : rr.1 = y.cls) (hw : XMc y bytes maxL ret n) (hv : XMv y) (hl : Cond.methodLink own idx y ∈ xws) (hR : fr + 1 ≤ R.frames ∧ 8 + (maxL + 11) + lo ≤ R.locals) (hn : As.length = n) (hls : ls.size = nL) (hst : st0 = As.reverse ++ .ref b :: rest) (hr : (rest.map fun v => v.category).sum ≤ 8) (hf : cells + mc ≤ R.cells ∧ slots + ms ≤ R.slots) (hdg : decode cc pc = .ok (.invokevirtual idx, 3))
    (kk : ∀ (H1 : Heap) (locs1 : List Loc), XD G X0 r.2 s H1 locs1 → W p l e R s m args below meth c H1 locs1 (cells + mc) (slots + ms) Q (F0 m (pc + 3) ls (r.1.toList ++ rest))) : W p l e R s m args below meth c H locs cells slots Q (F0 m pc ls st0) :=
  xr_go (va_runV (As := As) (rest := rest) (b := b) ⟨C0.1, C0.2.1, C0.2.2.1, C0.2.2.2.1, C0.2.2.2.2.1⟩ hM ⟨xcb C0 hw hl hR, C0.2.2.2.2.1 _ hv.1, C0.2.2.2.2.1 _ hv.2⟩ ⟨xblind, xrecv C0 W0 hk hc hy, xpre W0 C0.2.2.2.2.2.1 _⟩ rfl hn hls hst (lv_room hr) hdg hf) W0 kk
theorem xr_S (C0 : XC p s m args meth c own cc nL G) (W0 : XD G X0 X s H locs) (hM : XM l G y bytes maxL ret fr lo mc ms As X r) (hw : XMc y bytes maxL ret n) (hv : Cond.static y ∈ xws) (hl : Cond.methodLink own idx y ∈ xws) (hR : fr + 1 ≤ R.frames ∧ 8 + (maxL + 11) + lo ≤ R.locals) (hn : As.length = n) (hls : ls.size = nL) (hst : st0 = As.reverse ++ rest) (hr : (rest.map fun v => v.category).sum ≤ 8) (hf : cells + mc ≤ R.cells ∧ slots + ms ≤ R.slots) (hdg : decode cc pc = .ok (.invokestatic idx, 3))
    (kk : ∀ (H1 : Heap) (locs1 : List Loc), XD G X0 r.2 s H1 locs1 → W p l e R s m args below meth c H1 locs1 (cells + mc) (slots + ms) Q (F0 m (pc + 3) ls (r.1.toList ++ rest))) : W p l e R s m args below meth c H locs cells slots Q (F0 m pc ls st0) :=
  xr_go (va_runS (As := As) (rest := rest) ⟨C0.1, C0.2.1, C0.2.2.1, C0.2.2.2.1, C0.2.2.2.2.1⟩ hM ⟨xcb C0 hw hl hR, C0.2.2.2.2.1 _ hv⟩ ⟨xblind, xpre W0 C0.2.2.2.2.2.1 _⟩ rfl hn hls hst (lv_room hr) hdg hf) W0 kk
theorem xr_I (C0 : XC p s m args meth c own cc nL G) (W0 : XD G X0 X s H locs) (hM : XM l G y bytes maxL none fr lo mc ms (.ref b :: As) X r) (hw : XMc y bytes maxL none n) (hv : y.name = "<init>" ∧ Cond.instanceMethod y ∈ xws) (hl : Cond.methodLink own idx y ∈ xws) (hR : fr + 1 ≤ R.frames ∧ 8 + (maxL + 11) + lo ≤ R.locals) (hn : As.length = n) (hls : ls.size = nL) (hst : st0 = As.reverse ++ .ref b :: rest) (hr : (rest.map fun v => v.category).sum ≤ 8) (hf : cells + mc ≤ R.cells ∧ slots + ms ≤ R.slots) (hdg : decode cc pc = .ok (.invokespecial idx, 3))
    (kk : ∀ (H1 : Heap) (locs1 : List Loc), XD G X0 r.2 s H1 locs1 → W p l e R s m args below meth c H1 locs1 (cells + mc) (slots + ms) Q (F0 m (pc + 3) ls (r.1.toList ++ rest))) : W p l e R s m args below meth c H locs cells slots Q (F0 m pc ls st0) :=
  xr_go (va_runI (As := As) (rest := rest) (b := b) ⟨C0.1, C0.2.1, C0.2.2.1, C0.2.2.2.1, C0.2.2.2.2.1⟩ hM ⟨xcb C0 hw hl hR, hv.1, C0.2.2.2.2.1 _ hv.2⟩ ⟨xblind, xpre W0 C0.2.2.2.2.2.1 _⟩ rfl hn hls hst (lv_room hr) hdg hf) W0 kk
theorem xcn (C0 : XC p s m args meth c own cc nL G) (hc : XMc y bytes maxL ret n) (hl : va_Nw (.methodLinkNest own idx y host) s) (hR : fr + 1 ≤ R.frames ∧ 8 + (maxL + 11) + lo ≤ R.locals) : va_CN R s args own idx y host bytes maxL ret (.code y bytes maxL ret :: xws) { frames := fr, cells := mc, slots := ms, locals := lo } mc ms n :=
  va_cnB n C0.2.2.2.2.1 (xws_gi (cc2 := bytes) (n2 := n) (r2 := ret) (y2 := y) hc.1) rfl rfl rfl hl (C0.2.2.2.2.1 _ hc.2.1) hc.2.2 hR
theorem xr_SN (C0 : XC p s m args meth c own cc nL G) (W0 : XD G X0 X s H locs) (hM : XM l G y bytes maxL ret fr lo mc ms As X r) (hw : XMc y bytes maxL ret n) (hv : Cond.static y ∈ xws) (hl : va_Nw (.methodLinkNest own idx y host) s) (hR : fr + 1 ≤ R.frames ∧ 8 + (maxL + 11) + lo ≤ R.locals) (hn : As.length = n) (hls : ls.size = nL) (hst : st0 = As.reverse ++ rest) (hr : (rest.map fun v => v.category).sum ≤ 8) (hf : cells + mc ≤ R.cells ∧ slots + ms ≤ R.slots) (hdg : decode cc pc = .ok (.invokestatic idx, 3))
    (kk : ∀ (H1 : Heap) (locs1 : List Loc), XD G X0 r.2 s H1 locs1 → W p l e R s m args below meth c H1 locs1 (cells + mc) (slots + ms) Q (F0 m (pc + 3) ls (r.1.toList ++ rest))) : W p l e R s m args below meth c H locs cells slots Q (F0 m pc ls st0) :=
  xr_go (va_runSN (As := As) (rest := rest) ⟨C0.1, C0.2.1, C0.2.2.1, C0.2.2.2.1, C0.2.2.2.2.1⟩ hM ⟨xcn C0 hw hl hR, C0.2.2.2.2.1 _ hv, trivial⟩ ⟨xblind, xpre W0 C0.2.2.2.2.2.1 _⟩ rfl hn hls hst (lv_room hr) hdg hf) W0 kk
theorem xr_IN (C0 : XC p s m args meth c own cc nL G) (W0 : XD G X0 X s H locs) (hM : XM l G y bytes maxL none fr lo mc ms (.ref b :: As) X r) (hw : XMc y bytes maxL none n) (hv : y.name = "<init>" ∧ Cond.instanceMethod y ∈ xws) (hl : va_Nw (.methodLinkNest own idx y host) s) (hR : fr + 1 ≤ R.frames ∧ 8 + (maxL + 11) + lo ≤ R.locals) (hn : As.length = n) (hls : ls.size = nL) (hst : st0 = As.reverse ++ .ref b :: rest) (hr : (rest.map fun v => v.category).sum ≤ 8) (hf : cells + mc ≤ R.cells ∧ slots + ms ≤ R.slots) (hdg : decode cc pc = .ok (.invokespecial idx, 3))
    (kk : ∀ (H1 : Heap) (locs1 : List Loc), XD G X0 r.2 s H1 locs1 → W p l e R s m args below meth c H1 locs1 (cells + mc) (slots + ms) Q (F0 m (pc + 3) ls (r.1.toList ++ rest))) : W p l e R s m args below meth c H locs cells slots Q (F0 m pc ls st0) :=
  xr_go (va_runIN (As := As) (rest := rest) (b := b) ⟨C0.1, C0.2.1, C0.2.2.1, C0.2.2.2.1, C0.2.2.2.2.1⟩ hM ⟨xcn C0 hw hl hR, hv.1, C0.2.2.2.2.1 _ hv.2⟩ ⟨xblind, xpre W0 C0.2.2.2.2.2.1 _⟩ rfl hn hls hst (lv_room hr) hdg hf) W0 kk
theorem xr_new (C0 : XC p s m args meth c own cc nL G) (W0 : XD G X0 X s H locs) {C : String} {T : u_T} {N : Nat} {ty : Nat → FieldType} (hc : XCl ci C T N ty) (hci : ci < 11) (hdf : ∀ k, k < N → defaultValue (ty k) = if xfr ci k = true then .null else .int 0) (hcl : Cond.classLink own idx C ∈ xws) (hinst : Cond.instantiable C N ∈ xws) (hini : Cond.initialized C ∈ xws) (hcells : cells + 1 ≤ R.cells) (hslots : slots + N ≤ R.slots) (hdg : decode cc pc = .ok (.new idx, 3))
    (kk : ∀ (H1 : Heap), XD G X0 (nO X ci).2 s H1 locs → W p l e R s m args below meth c H1 locs (cells + 1) (slots + N) Q (F0 m (pc + 3) ls (.ref (nO X ci).1 :: rest))) : W p l e R s m args below meth c H locs cells slots Q (F0 m pc ls rest) := by
  obtain ⟨hx, hb, -, hown, hts, hK, -⟩ := C0
  obtain ⟨hc1, hc2, hc3, hc4⟩ := hc
  have hKn := hK.1.1 ci _ hc1
  have hX1 : X.1 = H.size := W0.1.1.symm
  refine W.newcK hx hb hown (hts _ hcl) (hts _ hinst) (hts _ hini) rfl hdg hcells hslots hKn.2.1 rfl fun H1 kC hkC e1 z1 o1 => ?_
  have hk := kk H1 (XD.fresh (kd := ci + 1) (len := 0) W0 z1 o1 ⟨fun ci' r' h1 h2 => ?_, fun t h1 => ?_, fun _ => by omega⟩)
  · rw [show (nO X ci).1 = H.size from hX1] at hk
    exact hk
  · have hkd : xKd (wN X (ci + 1) 0) H.size = ci + 1 := by
      show (if H.size = X.1 then (ci + 1, 0) else X.2.1 H.size).1 = ci + 1
      rw [if_pos hX1.symm]
    have hci' : ci' = ci := by omega
    subst hci'
    cases hc1.symm.trans h2
    refine (u_born ty hts hc2 hKn hkC e1 hc3).to (fun k hk => ?_)
    rw [hdf k hk]
    unfold xval xR xI wN
    dsimp only [x1]
    rw [if_pos hX1.symm, if_pos hX1.symm]
    rfl
  · have hkd : xKd (wN X (ci + 1) 0) H.size = ci + 1 := by
      show (if H.size = X.1 then (ci + 1, 0) else X.2.1 H.size).1 = ci + 1
      rw [if_pos hX1.symm]
    omega
theorem xr_vret {X' : XW} (C0 : XC p s m args meth c own cc nL G) (W0 : XD G X0 X s H locs) (hr : meth.sig.returnType = none) (hX : X' = X) (hdg : decode cc pc = .ok (.return_, 1)) : W p l e R s m args below meth c H locs cells slots (MQ below (XQ G X0 (none, X')) args s cells slots (xAd X0)) (F0 m pc ls []) := by
  subst hX
  exact W.vret C0.1 C0.2.1 hr (fun t ht hW => ⟨rfl, by rw [ht]; exact W0.1, W0.2.1, W0.2.2.1.F ht⟩) W0.2.2.1.2.2 hdg C0.2.2.2.2.2.2
theorem xr_iret {r : Int32 × XW} {v : Int32} (C0 : XC p s m args meth c own cc nL G) (W0 : XD G X0 X s H locs) (hr : meth.sig.returnType = some .int) (hX : (v, X) = r) (hdg : decode cc pc = .ok (.ireturn, 1)) : W p l e R s m args below meth c H locs cells slots (MQ below (XQ G X0 (some (.int r.1), r.2)) args s cells slots (xAd X0)) (F0 m pc ls [.int v]) := by
  subst hX
  exact W.iret C0.1 C0.2.1 hr (fun t ht hW => ⟨rfl, by rw [ht]; exact W0.1, W0.2.1, W0.2.2.1.F ht⟩) W0.2.2.1.2.2 hdg C0.2.2.2.2.2.2
theorem xr_zret {r : Int32 × XW} {v : Int32} (C0 : XC p s m args meth c own cc nL G) (W0 : XD G X0 X s H locs) (hr : meth.sig.returnType = some .boolean) (h01 : v = 0 ∨ v = 1) (hX : (v, X) = r) (hdg : decode cc pc = .ok (.ireturn, 1)) : W p l e R s m args below meth c H locs cells slots (MQ below (XQ G X0 (some (.int r.1), r.2)) args s cells slots (xAd X0)) (F0 m pc ls [.int v]) := by
  subst hX
  exact W.zret C0.1 C0.2.1 hr (by rcases h01 with rfl | rfl <;> decide) (fun t ht hW => ⟨rfl, by rw [ht]; exact W0.1, W0.2.1, W0.2.2.1.F ht⟩) W0.2.2.1.2.2 hdg C0.2.2.2.2.2.2
theorem xr_aret {r : Nat × XW} {v : Nat} {rt : String} (C0 : XC p s m args meth c own cc nL G) (W0 : XD G X0 X s H locs) (hr : meth.sig.returnType = some (.object rt)) (hX : (v, X) = r) (hdg : decode cc pc = .ok (.areturn, 1)) : W p l e R s m args below meth c H locs cells slots (MQ below (XQ G X0 (some (.ref r.1), r.2)) args s cells slots (xAd X0)) (F0 m pc ls [.ref v]) := by
  subst hX
  exact W.aret C0.1 C0.2.1 hr (Or.inl ⟨_, rfl⟩) (Or.inr ⟨_, rfl⟩) (fun t ht hW => ⟨rfl, by rw [ht]; exact W0.1, W0.2.1, W0.2.2.1.F ht⟩) W0.2.2.1.2.2 hdg C0.2.2.2.2.2.2
end XR3
theorem xm_of {l : Launch} {G : XG} {y : MethodName} {cc : ByteArray} {maxL : Nat} {ret : Option FieldType} {fr lo mc ms : Nat} {As : List Value} {X : XW} {r : Option Value × XW} {own : String} (hy : plainName y.cls = true) (hown : y.cls = own) (hl : (lg_sl As).length ≤ maxL)
    (body : ∀ (p : Program) (e : Env) (s : State) (m : MethodId) (below : List Frame) (meth : Method) (c : Code) (ls : Array Slot), XC p s m As.toArray meth c own cc maxL G → XD G X X s s.heap [] → meth.sig.returnType = ret → meth.name = y.name → lv_has ls maxL (lv_args 0 As) →
      W p l e { frames := fr, cells := mc, slots := ms, locals := lo } s m As.toArray below meth c s.heap [] 0 0 (MQ below (XQ G X r) As.toArray s mc ms (xAd X)) (F0 m 0 ls [])) : XM l G y cc maxL ret fr lo mc ms As X r := by
  refine Met.ofW (cc := cc) (maxL := maxL) (ret := ret) hy rfl ?_
  intro p e s m args below meth c s₁ B hml hv
  obtain ⟨rfl, hw, hk, hst⟩ := hv
  have hts := atoms_spec (ws := .code y cc maxL ret :: xws) B.pre
  have hl' := lv_entry As (n := maxL) hl
  rw [lg_entry_eq]
  exact body p e s m below meth c _ ⟨B.exec, B.bytes, hml, by rw [← hown]; exact findClass_of_methodNamed B.named, fun w h => hts w (List.mem_cons_of_mem _ h), hk, B.notSynchronized⟩ ⟨hw, fun a ha => Or.inl ha, va_S.rf, hw.1.symm, hst⟩ B.returns (name_of_methodNamed B.named B.method).1 hl'
