/-! A METHOD THAT MAY THROW, over the world -/
def NSE : String := "java/util/NoSuchElementException"
def xt_nm : List String := ["java/lang/RuntimeException", "java/lang/Exception"]
def xt_rx : ByteArray := prog_23_method_4_code
theorem xt_0 : decode xt_rx 0 = .ok (.aload_n 0, 1) := by decide +kernel
theorem xt_1 : decode xt_rx 1 = .ok (.aload_n 1, 1) := by decide +kernel
theorem xt_2 : decode xt_rx 2 = .ok (.invokespecial 13, 3) := by decide +kernel
theorem xt_5 : decode xt_rx 5 = .ok (.return_, 1) := by decide +kernel
/-- the world X with the heap's size n -/
def wZ (X : XW) (n : Nat) : XW := (n, X.2)
def XQo (G : XG) (X : XW) (r : Option Int32 × XW) : Array Value → State → Outcome → State → Prop := fun a st o t => ∃ v, r.1 = some v ∧ XQ G X (some (.int v), r.2) a st o t
def XTo (G : XG) (X : XW) (r : Option Int32 × XW) : String → State → State → Prop := fun E st t => E = NSE ∧ r.1 = none ∧ xw G (wZ r.2 t.heap.size) t.heap ∧ r.2.1 ≤ t.heap.size ∧ (∀ a, xKd r.2 a ≠ 0 → xAd X a) ∧ va_F (xAd X) st t
def XMt (l : Launch) (G : XG) (y : MethodName) (cc : ByteArray) (maxL : Nat) (ret : Option FieldType) (fr lo mc ms : Nat) (As : List Value) (X : XW) (r : Option Int32 × XW) : Prop :=
  vx_Met l y (.code y cc maxL ret :: xws) { frames := fr, cells := mc, slots := ms, locals := lo } (va_Pc As (XPre G X)) (XQo G X r) (XTo G X r) mc ms (xAd X)
theorem xt_m1 : ∀ w ∈ (xt_at "VoiceShaper" 179 NSE 13 xt_rx xt_nm).filter goodWord, w ∈ lw_tbl := by decide +kernel
theorem xt_m2 : ∀ w ∈ (xt_at "VoiceShaper" 179 NSE 13 xt_rx xt_nm).filter (fun w => !goodWord w), w ∈ [xn_743, xn_745, xn_747, xn_749] := by decide +kernel
theorem xt_m3 : ∀ w ∈ Cond.classLink "VoiceShaper" 175 NSE :: Cond.initialized NSE :: xt_at "VoiceShaper" 179 NSE 13 xt_rx xt_nm, vx_ot w = true := by decide +kernel
theorem xt_k : Cond.classLink "VoiceShaper" 175 NSE ∈ lw_tbl ∧ goodWord (Cond.classLink "VoiceShaper" 175 NSE) = true := by decide +kernel
theorem xt_i : Cond.initialized NSE ∈ lw_tbl ∧ goodWord (Cond.initialized NSE) = true := by decide +kernel
section Th2
variable {p : Program} {l : Launch} {e : Env} {R : Room} {s : State} {m : MethodId} {args : Array Value} {below : List Frame} {meth : Method} {c : Code} {cc : ByteArray} {nL : Nat} {G : XG} {X0 X : XW} {H : Heap} {locs : List Loc} {cells slots mc ms pc : Nat} {ls : Array Slot}
theorem xs_hat {own : String} (C0 : XC p s m args meth c own cc nL G) : ∀ w ∈ xt_at "VoiceShaper" 179 NSE 13 xt_rx xt_nm, w.before args s = true := by
  have hn := C0.2.2.2.2.2.1.2
  refine vx_hat (fun w hw => C0.2.2.2.2.1 w (xws_in (xt_m1 w hw) (List.mem_filter.mp hw).2)) xt_m2 ?_
  exact vx_c (va_Nw.use rfl (xnw_743 hn)) (vx_c (va_Nw.use rfl (xnw_745 hn)) (vx_c (va_Nw.use rfl (xnw_747 hn)) (vx_c (va_Nw.use rfl (xnw_749 hn)) vx_n)))
theorem xw_wZ {t : State} (h : xw G X H) (hs : H.size ≤ t.heap.size) (hq : ∀ q : Nat, q < H.size → t.heap[q]? = H[q]?) : xw G (wZ X t.heap.size) t.heap := by
  refine ⟨rfl, fun a => ?_⟩
  obtain ⟨a1, a2, a3⟩ := h.2 a
  by_cases k : xKd X a = 0
  · have k' : xKd (wZ X t.heap.size) a = 0 := k
    exact ⟨fun ci r h1 _ => by rw [k'] at h1; exact absurd h1 (by omega), fun tt h1 => by rw [k'] at h1; exact absurd h1 (by omega), fun h1 => absurd k' h1⟩
  · have ha := a3 k
    refine ⟨fun ci r h1 h2 => ?_, fun tt h1 => by rw [hq a ha]; exact a2 tt h1, fun _ => by omega⟩
    have h3 := a1 ci r h1 h2
    unfold t_OB at h3 ⊢
    rw [hq a ha]
    exact h3
theorem xs_iret {r : Option Int32 × XW} {v : Int32} {own : String} (C0 : XC p s m args meth c own cc nL G) (W0 : XD G X0 X s H locs) (hr : meth.sig.returnType = some .int) (hX : (some v, X) = r) (hdg : decode cc pc = .ok (.ireturn, 1)) : W p l e R s m args below meth c H locs cells slots (vx_MQ below (XQo G X0 r) (XTo G X0 r) args s cells slots (xAd X0)) (F0 m pc ls [.int v]) := by
  subst hX
  exact vx_ret (W.iret C0.1 C0.2.1 hr (fun t ht hW => ⟨v, rfl, rfl, by rw [ht]; exact W0.1, W0.2.1, W0.2.2.1.F ht⟩) W0.2.2.1.2.2 hdg C0.2.2.2.2.2.2)
theorem xs_throw {r : Option Int32 × XW} {text : String} {is sa : Nat} {rest : List Value} (C0 : XC p s m args meth c "VoiceShaper" cc nL G) (W0 : XD G X0 X s H locs) (hl : l.stackTraces = false) (hout : ∀ x ∈ c.exceptionTable.toList, False) (hstr : vk_R "VoiceShaper" is text sa s) (hX : (none, X) = r) (hls : ls.size = nL)
    (d0 : decode cc pc = .ok (.new 175, 3)) (d3 : decode cc (pc + 3) = .ok (.dup, 1)) (d4 : decode cc (pc + 4) = .ok (.ldc is, 2)) (d6 : decode cc (pc + 6) = .ok (.invokespecial 179, 3)) (d9 : decode cc (pc + 9) = .ok (.athrow, 1))
    (hRf : 5 < R.frames) (hRl : (rest.map fun v => v.category).sum + 82 ≤ R.locals) (hRc : cells + 1 ≤ R.cells) (hRs : slots + 6 ≤ R.slots) (hc : cells + 1 ≤ mc) (hs : slots + 6 ≤ ms) :
    W p l e R s m args below meth c H locs cells slots (vx_MQ below (XQo G X0 r) (XTo G X0 r) args s mc ms (xAd X0)) (F0 m pc ls rest) := by
  subst hX
  have hst := W0.2.2.2.2.2
  refine xt_throw C0.1 C0.2.1 hl xt_0 xt_1 xt_2 xt_5 (own := "VoiceShaper") (cls := NSE) (names := xt_nm) (ik := 175) (is := is) (ic := 179) (A := xAd X0) C0.2.2.2.1 (by decide +kernel) (by decide +kernel) (C0.2.2.2.2.1 _ (xws_in xt_k.1 xt_k.2)) (C0.2.2.2.2.1 _ (xws_in xt_i.1 xt_i.2)) hstr (xs_hat C0) xt_m3 hst.2.2.2.2.2.2.2.1 hst.2.2.2.2.2.2.2.2 W0.2.2.1 (by rw [hls, C0.2.2.1]) d0 d3 d4 d6 d9 (fun x hx => (hout x hx).elim) hRf hRl hRc hRs C0.2.2.2.2.2.2 (fun t hv h1 h2 => ?_) W0.2.2.1.2.2 hc hs
  have hz : H.size = X.1 := W0.1.1
  refine ⟨rfl, rfl, xw_wZ W0.1 h1 h2, by rw [← hz]; exact h1, W0.2.1, Nat.le_trans W0.2.2.1.1 h1, fun q hq hA => ?_⟩
  rw [h2 q (Nat.lt_of_lt_of_le hq W0.2.2.1.1)]
  exact W0.2.2.1.2.1 q hq hA
theorem xmt_of {l : Launch} {y : MethodName} {ret : Option FieldType} {fr lo : Nat} {As : List Value} {r : Option Int32 × XW} {own : String} {maxL : Nat} (hy : plainName y.cls = true) (hown : y.cls = own) (hl : (lg_sl As).length ≤ maxL)
    (body : ∀ (p : Program) (e : Env) (s : State) (m : MethodId) (below : List Frame) (meth : Method) (c : Code) (ls : Array Slot), XC p s m As.toArray meth c own cc maxL G → XD G X X s s.heap [] → meth.sig.returnType = ret → (∀ x ∈ c.exceptionTable.toList, False) → lv_has ls maxL (lv_args 0 As) →
      W p l e { frames := fr, cells := mc, slots := ms, locals := lo } s m As.toArray below meth c s.heap [] 0 0 (vx_MQ below (XQo G X r) (XTo G X r) As.toArray s mc ms (xAd X)) (F0 m 0 ls [])) : XMt l G y cc maxL ret fr lo mc ms As X r := by
  refine vx_ofW (cc := cc) (maxL := maxL) (ret := ret) hy rfl ?_
  intro p e s m args below meth c s₁ B hml ht hv
  obtain ⟨rfl, hw, hk, hst⟩ := hv
  have hts := atoms_spec (ws := .code y cc maxL ret :: xws) B.pre
  have hl' := lv_entry As (n := maxL) hl
  rw [lg_entry_eq]
  exact body p e s m below meth c _ ⟨B.exec, B.bytes, hml, by rw [← hown]; exact findClass_of_methodNamed B.named, fun w h => hts w (List.mem_cons_of_mem _ h), hk, B.notSynchronized⟩ ⟨hw, fun a ha => Or.inl ha, va_S.rf, hw.1.symm, hst⟩ B.returns ht hl'
end Th2
