def iter {α : Type} (b : α → α) (z : α) : Nat → α
  | 0 => z
  | n + 1 => b (iter b z n)
def FU : Nat := 5000
theorem it_t {α : Type} {c : Prop} [Decidable c] {A B : Option α} {r : α} (hc : c) (h : (if c then A else B) = some r) : A = some r := by rwa [if_pos hc] at h
theorem it_f {α : Type} {c : Prop} [Decidable c] {A B : Option α} {r : α} (hc : ¬ c) (h : (if c then A else B) = some r) : B = some r := by rwa [if_neg hc] at h
theorem ii {x : Int32} {n : Int} {k : Int32} (h : Int32.ofInt n = k) : x + Int32.ofInt n = x + k := by rw [h]
def zG (v : Int32) : Option Unit := if v = 0 ∨ v = 1 then some () else none
theorem zG_of {v : Int32} {u : Unit} (h : zG v = some u) : v = 0 ∨ v = 1 := by
  unfold zG at h
  split at h
  · assumption
  · cases h
theorem xoi1 : Cond.instanceMethod objectInit ∈ xws := xws_t 30 (by decide +kernel) rfl
theorem xoi2 : Cond.code objectInit ⟨#[0xb1]⟩ 1 none ∈ xws := xws_t 31 (by decide +kernel) rfl
theorem xnw_i {G : XG} {X : XW} {N t : Nat} (ht : t = 0 ∨ t = 1 ∨ t = 3) : arrV (G.2.2.1 t) N (fun _ => .int 0) = vp_cell (G.2.2.1 t) (xarr (wN X (20 + t) N) X.1 t) := by
  rw [xarr_i ht, vp_cell_i]
  simp [xA, xLn, wN, x1]
theorem nw_byte {G : XG} {X : XW} {N : Nat} : arrV (G.2.2.1 0) N (fun _ => .int 0) = vp_cell (G.2.2.1 0) (xarr (wN X 20 N) X.1 0) := xnw_i (Or.inl rfl)
theorem nw_int {G : XG} {X : XW} {N : Nat} : arrV (G.2.2.1 1) N (fun _ => .int 0) = vp_cell (G.2.2.1 1) (xarr (wN X 21 N) X.1 1) := xnw_i (Or.inr (Or.inl rfl))
theorem nw_boolean {G : XG} {X : XW} {N : Nat} : arrV (G.2.2.1 3) N (fun _ => .int 0) = vp_cell (G.2.2.1 3) (xarr (wN X 23 N) X.1 3) := xnw_i (Or.inr (Or.inr rfl))
theorem nw_long {G : XG} {X : XW} {N : Nat} : arrV (G.2.2.1 2) N (fun _ => .long 0) = vp_cell (G.2.2.1 2) (xarr (wN X 22 N) X.1 2) := by
  rw [xarr_l, vp_cell_l]
  simp [xL, xLn, wN, x1]
def iMx (x y : Int32) : Int32 := if x < y then y else x
def iMn (x y : Int32) : Int32 := if y < x then y else x
def iAb (x : Int32) : Int32 := if 0 ≤ x then x else 0 - x
def sL (i : Nat) : Int32 := Int32.ofNat (xslen.getD i 0)
def sB (i : Nat) (k : Int32) : Option Int32 := if ¬ (k < 0 ∨ xslen.getD i 0 ≤ k.toNatClampNeg) then some ((xsbyt.getD i []).getD k.toNatClampNeg 0) else none
def nG (ty : FieldType) (v : Int32) : Option Unit := if vp_nar ty v = v then some () else none
theorem nG_of {ty : FieldType} {v : Int32} {u : Unit} (h : nG ty v = some u) (ht : ty = .char ∨ ty = .byte := by decide) : narrow ty (.int v) = .int v := by
  unfold nG at h
  split at h
  · rename_i q
    rcases ht with rfl | rfl
    · exact congrArg Value.int q
    · exact congrArg Value.int q
  · cases h
def sA (n : Nat) (i : Int32) : Option Int32 := if ¬ (i < 0 ∨ 3 ≤ i.toNatClampNeg) then some (xsv n i.toNatClampNeg) else none
section XR4
variable {p : Program} {l : Launch} {e : Env} {R : Room} {s : State} {m : MethodId} {args : Array Value} {below : List Frame} {meth : Method} {c : Code} {H : Heap} {locs : List Loc} {cells slots : Nat} {Q : State → Prop}
variable {own : String} {cc : ByteArray} {nL : Nat} {G : XG} {X0 X : XW} {pc : Nat} {ls : Array Slot} {rest : List Value} {idx : Nat}
theorem xr_idiv (C0 : XC p s m args meth c own cc nL G) {x y v : Int32} (hg : iD x y = some v) (hdg : decode cc pc = .ok (.idiv, 1)) (kk : W p l e R s m args below meth c H locs cells slots Q (F0 m (pc + 1) ls (.int v :: rest))) : W p l e R s m args below meth c H locs cells slots Q (F0 m pc ls (.int y :: .int x :: rest)) := by
  unfold iD at hg
  split at hg
  · cases hg
  · cases hg; exact lv_idiv C0.1 C0.2.1 hdg (by assumption) kk
theorem xr_irem (C0 : XC p s m args meth c own cc nL G) {x y v : Int32} (hg : iM x y = some v) (hdg : decode cc pc = .ok (.irem, 1)) (kk : W p l e R s m args below meth c H locs cells slots Q (F0 m (pc + 1) ls (.int v :: rest))) : W p l e R s m args below meth c H locs cells slots Q (F0 m pc ls (.int y :: .int x :: rest)) := by
  unfold iM at hg
  split at hg
  · cases hg
  · cases hg; exact lv_irem C0.1 C0.2.1 hdg (by assumption) kk
theorem xr_mmax (C0 : XC p s m args meth c own cc nL G) (hls : ls.size = nL) (hl : Cond.methodLink own idx Lib.Math.max.name ∈ xws) (hf : 1 ≤ R.frames) (ho : (rest.map fun v => v.category).sum + 13 ≤ R.locals) (hc : cells ≤ R.cells) (hs : slots ≤ R.slots) {x y : Int32} (hdg : decode cc pc = .ok (.invokestatic idx, 3))
    (kk : W p l e R s m args below meth c H locs cells slots Q (F0 m (pc + 3) ls (.int (iMx x y) :: rest))) : W p l e R s m args below meth c H locs cells slots Q (F0 m pc ls (.int y :: .int x :: rest)) :=
  va_mmax C0.1 C0.2.1 (by rw [hls]; exact C0.2.2.1) C0.2.2.2.1 (C0.2.2.2.2.1 _ hl) (C0.2.2.2.2.1 _ (xws_t 208 (by decide +kernel) rfl)) (C0.2.2.2.2.1 _ (xws_t 10 (by decide +kernel) rfl)) (C0.2.2.2.2.1 _ (xws_t 209 (by decide +kernel) rfl)) hf ho hc hs hdg kk
theorem xr_mmin (C0 : XC p s m args meth c own cc nL G) (hls : ls.size = nL) (hl : Cond.methodLink own idx Lib.Math.min.name ∈ xws) (hf : 1 ≤ R.frames) (ho : (rest.map fun v => v.category).sum + 13 ≤ R.locals) (hc : cells ≤ R.cells) (hs : slots ≤ R.slots) {x y : Int32} (hdg : decode cc pc = .ok (.invokestatic idx, 3))
    (kk : W p l e R s m args below meth c H locs cells slots Q (F0 m (pc + 3) ls (.int (iMn x y) :: rest))) : W p l e R s m args below meth c H locs cells slots Q (F0 m pc ls (.int y :: .int x :: rest)) :=
  va_mmin C0.1 C0.2.1 (by rw [hls]; exact C0.2.2.1) C0.2.2.2.1 (C0.2.2.2.2.1 _ hl) (C0.2.2.2.2.1 _ (xws_t 518 (by decide +kernel) rfl)) (C0.2.2.2.2.1 _ (xws_t 10 (by decide +kernel) rfl)) (C0.2.2.2.2.1 _ (xws_t 519 (by decide +kernel) rfl)) hf ho hc hs hdg kk
theorem xr_mabs (C0 : XC p s m args meth c own cc nL G) (hls : ls.size = nL) (hl : Cond.methodLink own idx Lib.Math.abs.name ∈ xws) (hf : 1 ≤ R.frames) (ho : (rest.map fun v => v.category).sum + 13 ≤ R.locals) (hc : cells ≤ R.cells) (hs : slots ≤ R.slots) {x : Int32} (hdg : decode cc pc = .ok (.invokestatic idx, 3))
    (kk : W p l e R s m args below meth c H locs cells slots Q (F0 m (pc + 3) ls (.int (iAb x) :: rest))) : W p l e R s m args below meth c H locs cells slots Q (F0 m pc ls (.int x :: rest)) :=
  va_mabs C0.1 C0.2.1 (by rw [hls]; exact C0.2.2.1) C0.2.2.2.1 (C0.2.2.2.2.1 _ hl) (C0.2.2.2.2.1 _ (xws_t 690 (by decide +kernel) rfl)) (C0.2.2.2.2.1 _ (xws_t 10 (by decide +kernel) rfl)) (C0.2.2.2.2.1 _ (xws_t 691 (by decide +kernel) rfl)) hf ho hc hs hdg kk
theorem xr_gets (C0 : XC p s m args meth c own cc nL G) (W0 : XD G X0 X s H locs) (n : Nat) (hn : n < 5) (hl : Cond.fieldLink own idx "VoiceShaper" (xsn n) "[I" ∈ xws) (hdg : decode cc pc = .ok (.getstatic idx, 3))
    (kk : W p l e R s m args below meth c H locs cells slots Q (F0 m (pc + 3) ls (.ref (G.2.2.2 n) :: rest))) : W p l e R s m args below meth c H locs cells slots Q (F0 m pc ls rest) :=
  va_gets C0.1 C0.2.1 (W0.2.2.2.2.1 n hn).1 W0.2.2.1 C0.2.2.2.1 (C0.2.2.2.2.1 _ hl) (fun _ h => h) hdg kk
theorem xr_getsN (C0 : XC p s m args meth c own cc nL G) (W0 : XD G X0 X s H locs) (n : Nat) (hn : n < 5) {host : String} (hl : va_Nw (.fieldLinkNest own idx "VoiceShaper" (xsn n) "[I" host) s) (hdg : decode cc pc = .ok (.getstatic idx, 3))
    (kk : W p l e R s m args below meth c H locs cells slots Q (F0 m (pc + 3) ls (.ref (G.2.2.2 n) :: rest))) : W p l e R s m args below meth c H locs cells slots Q (F0 m pc ls rest) :=
  va_getsN C0.1 C0.2.1 (W0.2.2.2.2.1 n hn).1 W0.2.2.1 C0.2.2.2.1 (va_Nw.use rfl hl) (fun _ h => h) hdg kk
theorem xr_sald (C0 : XC p s m args meth c own cc nL G) (W0 : XD G X0 X s H locs) (n : Nat) (hn : n < 5) {i v : Int32} (hg : sA n i = some v) (hdg : decode cc pc = .ok (.iaload, 1))
    (kk : W p l e R s m args below meth c H locs cells slots Q (F0 m (pc + 1) ls (.int v :: rest))) : W p l e R s m args below meth c H locs cells slots Q (F0 m pc ls (.int i :: .ref (G.2.2.2 n) :: rest)) := by
  unfold sA at hg
  split at hg
  · cases hg
    exact va_ti C0.1 C0.2.1 (W0.2.2.2.2.1 n hn).2 W0.2.2.1 (by assumption) rfl hdg kk
  · cases hg
theorem xr_ldcS (C0 : XC p s m args meth c own cc nL G) {tx : String} {q : Nat} (hR : vk_R own idx tx q s) (hdg : decode cc pc = .ok (.ldc idx, 2))
    (kk : W p l e R s m args below meth c H locs cells slots Q (F0 m (pc + 2) ls (.ref q :: rest))) : W p l e R s m args below meth c H locs cells slots Q (F0 m pc ls rest) := va_ldcS C0.1 C0.2.1 C0.2.2.2.1 hR hdg kk
theorem xr_strV (C0 : XC p s m args meth c own cc nL G) (W0 : XD G X0 X s H locs) {i : Nat} (hi : i < 2) (hl : Cond.fieldLink own idx "java/lang/String" "value" "[B" ∈ xws) (hdg : decode cc pc = .ok (.getfield idx, 3))
    (kk : W p l e R s m args below meth c H locs cells slots Q (F0 m (pc + 3) ls (.ref (G.2.2.2 (20 + i)) :: rest))) : W p l e R s m args below meth c H locs cells slots Q (F0 m pc ls (.ref (G.2.2.2 (10 + i)) :: rest)) :=
  vk_getf C0.1 C0.2.1 (W0.2.2.2.2.2.1.1 i hi).2.2.1 W0.2.2.1 C0.2.2.2.1 (C0.2.2.2.2.1 _ hl) (fun _ h => h) hdg kk
theorem xr_strC (C0 : XC p s m args meth c own cc nL G) (W0 : XD G X0 X s H locs) {i : Nat} (hi : i < 2) (hl : Cond.fieldLink own idx "java/lang/String" "coder" "B" ∈ xws) (hdg : decode cc pc = .ok (.getfield idx, 3))
    (kk : W p l e R s m args below meth c H locs cells slots Q (F0 m (pc + 3) ls (.int 0 :: rest))) : W p l e R s m args below meth c H locs cells slots Q (F0 m pc ls (.ref (G.2.2.2 (10 + i)) :: rest)) :=
  vk_getf C0.1 C0.2.1 (W0.2.2.2.2.2.1.1 i hi).2.1 W0.2.2.1 C0.2.2.2.1 (C0.2.2.2.2.1 _ hl) (fun _ h => h) hdg kk
theorem xr_cs (C0 : XC p s m args meth c own cc nL G) (W0 : XD G X0 X s H locs) (hl : Cond.fieldLink own idx "java/lang/String" "COMPACT_STRINGS" "Z" ∈ xws) (hdg : decode cc pc = .ok (.getstatic idx, 3))
    (kk : W p l e R s m args below meth c H locs cells slots Q (F0 m (pc + 3) ls (.int 1 :: rest))) : W p l e R s m args below meth c H locs cells slots Q (F0 m pc ls rest) :=
  va_gets C0.1 C0.2.1 W0.2.2.2.2.2.2.2.2.1 W0.2.2.1 C0.2.2.2.1 (C0.2.2.2.2.1 _ hl) (fun _ h => h) hdg kk
theorem xr_blen (C0 : XC p s m args meth c own cc nL G) (W0 : XD G X0 X s H locs) {i : Nat} (hi : i < 2) (hdg : decode cc pc = .ok (.arraylength, 1))
    (kk : W p l e R s m args below meth c H locs cells slots Q (F0 m (pc + 1) ls (.int (sL i) :: rest))) : W p l e R s m args below meth c H locs cells slots Q (F0 m pc ls (.ref (G.2.2.2 (20 + i)) :: rest)) :=
  va_tlen C0.1 C0.2.1 (W0.2.2.2.2.2.1.1 i hi).2.2.2 W0.2.2.1 rfl hdg kk
theorem xr_bload (C0 : XC p s m args meth c own cc nL G) (W0 : XD G X0 X s H locs) {i : Nat} (hi : i < 2) {k v : Int32} (hg : sB i k = some v) (hdg : decode cc pc = .ok (.baload, 1))
    (kk : W p l e R s m args below meth c H locs cells slots Q (F0 m (pc + 1) ls (.int v :: rest))) : W p l e R s m args below meth c H locs cells slots Q (F0 m pc ls (.int k :: .ref (G.2.2.2 (20 + i)) :: rest)) := by
  unfold sB at hg
  split at hg
  · cases hg
    exact va_tb C0.1 C0.2.1 (W0.2.2.2.2.2.1.1 i hi).2.2.2 W0.2.2.1 (by assumption) rfl hdg kk
  · cases hg
theorem xr_nret {r : Int32 × XW} {v : Int32} {ty : FieldType} (C0 : XC p s m args meth c own cc nL G) (W0 : XD G X0 X s H locs) (hr : meth.sig.returnType = some ty) (hn : narrow ty (.int v) = .int v) (hX : (v, X) = r) (hdg : decode cc pc = .ok (.ireturn, 1)) : W p l e R s m args below meth c H locs cells slots (MQ below (XQ G X0 (some (.int r.1), r.2)) args s cells slots (xAd X0)) (F0 m pc ls [.int v]) := by
  subst hX
  exact W.zret C0.1 C0.2.1 hr hn (fun t ht hW => ⟨rfl, by rw [ht]; exact W0.1, W0.2.1, W0.2.2.1.F ht⟩) W0.2.2.1.2.2 hdg C0.2.2.2.2.2.2
theorem xr_VT {y : MethodName} {bytes : ByteArray} {maxL mc ms fr lo n : Nat} {ret : Option FieldType} {r : Option Value × XW} {st0 As : List Value} {i : Nat} (C0 : XC p s m args meth c own cc nL G) (W0 : XD G X0 X s H locs) (hM : XM l G y bytes maxL ret fr lo mc ms (.ref (G.2.2.2 (10 + i)) :: As) X r) (hi : i < 2) (hy : y.cls = "java/lang/String") (hw : XMc y bytes maxL ret n) (hv : XMv y) (hl : Cond.methodLink own idx y ∈ xws) (hR : fr + 1 ≤ R.frames ∧ 8 + (maxL + 11) + lo ≤ R.locals) (hn : As.length = n) (hls : ls.size = nL) (hst : st0 = As.reverse ++ .ref (G.2.2.2 (10 + i)) :: rest) (hr : (rest.map fun v => v.category).sum ≤ 8) (hf : cells + mc ≤ R.cells ∧ slots + ms ≤ R.slots) (hdg : decode cc pc = .ok (.invokevirtual idx, 3))
    (kk : ∀ (H1 : Heap) (locs1 : List Loc), XD G X0 r.2 s H1 locs1 → W p l e R s m args below meth c H1 locs1 (cells + mc) (slots + ms) Q (F0 m (pc + 3) ls (r.1.toList ++ rest))) : W p l e R s m args below meth c H locs cells slots Q (F0 m pc ls st0) :=
  xr_go (va_runV (As := As) (rest := rest) (b := G.2.2.2 (10 + i)) ⟨C0.1, C0.2.1, C0.2.2.1, C0.2.2.2.1, C0.2.2.2.2.1⟩ hM ⟨xcb C0 hw hl hR, C0.2.2.2.2.1 _ hv.1, C0.2.2.2.2.1 _ hv.2⟩ ⟨xblind, by rw [hy]; exact vk_recv (N := 2) (len := xslen) (byt := xsbyt) (adK := fun i => G.2.2.2 (10 + i)) (adV := fun i => G.2.2.2 (20 + i)) (i := i) W0.2.2.2.2.2.1 hi W0.2.2.1, xpre W0 C0.2.2.2.2.2.1 _⟩ rfl hn hls hst (lv_room hr) hdg hf) W0 kk
end XR4
