def aE (X : XW) (a t : Nat) : Option Int32 := if xKd X a = 20 + t then some (Int32.ofNat (xLn X a)) else none
section XR2
variable {p : Program} {l : Launch} {e : Env} {R : Room} {s : State} {m : MethodId} {args : Array Value} {below : List Frame} {meth : Method} {c : Code} {H : Heap} {locs : List Loc} {cells slots : Nat} {Q : State → Prop}
variable {own : String} {cc : ByteArray} {nL : Nat} {G : XG} {X0 X : XW} {pc : Nat} {ls : Array Slot} {rest : List Value}
theorem xr_kA {t : Nat} {ty : FieldType} (hK : xk G s) (h : (xtys G)[t]? = some (G.2.2.1 t, ty)) : ArrOfT s (G.2.2.1 t) ty ∧ va_RA s (G.2.2.1 t) ty := hK.1.2 t _ h
theorem xr_iald (C0 : XC p s m args meth c own cc nL G) (W0 : XD G X0 X s H locs) {a : Nat} {i v : Int32} (hg : aI X a 1 i = some v) (hdg : decode cc pc = .ok (.iaload, 1))
    (kk : W p l e R s m args below meth c H locs cells slots Q (F0 m (pc + 1) ls (.int v :: rest))) : W p l e R s m args below meth c H locs cells slots Q (F0 m pc ls (.int i :: .ref a :: rest)) := by
  obtain ⟨hx, hb, -, hown, hts, hK, -⟩ := C0
  unfold aI at hg
  split at hg
  · rename_i h1
    cases hg
    obtain ⟨h1, hin⟩ := h1
    have hcell := (W0.1.2 a).2.1 1 h1
    rw [xarr_i (Or.inr (Or.inl rfl)), vp_cell_i] at hcell
    have hlt : i.toNatClampNeg < xLn X a := Nat.not_le.mp fun q => hin (Or.inr q)
    exact W.iald hx hb hcell ((xr_kA hK (t := 1) rfl).1 _ (fun j => .int (xA X a j))) (fun q => by cases q) (by rw [arrV_size]; exact hin) (by rw [arrV_read _ _ hlt]) rfl rfl hdg kk
  · cases hg
theorem xr_zald (C0 : XC p s m args meth c own cc nL G) (W0 : XD G X0 X s H locs) {a : Nat} {i v : Int32} (hg : aI X a 3 i = some v) (hdg : decode cc pc = .ok (.baload, 1))
    (kk : W p l e R s m args below meth c H locs cells slots Q (F0 m (pc + 1) ls (.int v :: rest))) : W p l e R s m args below meth c H locs cells slots Q (F0 m pc ls (.int i :: .ref a :: rest)) := by
  obtain ⟨hx, hb, -, hown, hts, hK, -⟩ := C0
  unfold aI at hg
  split at hg
  · rename_i h1
    cases hg
    obtain ⟨h1, hin⟩ := h1
    have hcell := (W0.1.2 a).2.1 3 h1
    rw [xarr_i (Or.inr (Or.inr rfl)), vp_cell_i] at hcell
    have hlt : i.toNatClampNeg < xLn X a := Nat.not_le.mp fun q => hin (Or.inr q)
    exact W.zald hx hb hcell ((xr_kA hK (t := 3) rfl).1 _ (fun j => .int (xA X a j))) (fun q => by cases q) (by rw [arrV_size]; exact hin) (by rw [arrV_read _ _ hlt]) rfl rfl hdg kk
  · cases hg
theorem xr_bald (C0 : XC p s m args meth c own cc nL G) (W0 : XD G X0 X s H locs) {a : Nat} {i v : Int32} (hg : aI X a 0 i = some v) (hdg : decode cc pc = .ok (.baload, 1))
    (kk : W p l e R s m args below meth c H locs cells slots Q (F0 m (pc + 1) ls (.int v :: rest))) : W p l e R s m args below meth c H locs cells slots Q (F0 m pc ls (.int i :: .ref a :: rest)) := by
  obtain ⟨hx, hb, -, hown, hts, hK, -⟩ := C0
  unfold aI at hg
  split at hg
  · rename_i h1
    cases hg
    obtain ⟨h1, hin⟩ := h1
    have hcell := (W0.1.2 a).2.1 0 h1
    rw [xarr_i (Or.inl rfl), vp_cell_i] at hcell
    have hlt : i.toNatClampNeg < xLn X a := Nat.not_le.mp fun q => hin (Or.inr q)
    exact W.bald hx hb hcell ((xr_kA hK (t := 0) rfl).1 _ (fun j => .int (xA X a j))) (fun q => by cases q) (by rw [arrV_size]; exact hin) (by rw [arrV_read _ _ hlt]) rfl rfl hdg kk
  · cases hg
theorem xr_lald (C0 : XC p s m args meth c own cc nL G) (W0 : XD G X0 X s H locs) {a : Nat} {i : Int32} {v : Int64} (hg : aL X a i = some v) (hdg : decode cc pc = .ok (.laload, 1))
    (kk : W p l e R s m args below meth c H locs cells slots Q (F0 m (pc + 1) ls (.long v :: rest))) : W p l e R s m args below meth c H locs cells slots Q (F0 m pc ls (.int i :: .ref a :: rest)) := by
  obtain ⟨hx, hb, -, hown, hts, hK, -⟩ := C0
  unfold aL at hg
  split at hg
  · rename_i h1
    cases hg
    obtain ⟨h1, hin⟩ := h1
    have hcell := (W0.1.2 a).2.1 2 h1
    rw [xarr_l, vp_cell_l] at hcell
    have hlt : i.toNatClampNeg < xLn X a := Nat.not_le.mp fun q => hin (Or.inr q)
    exact W.lald hx hb hcell ((xr_kA hK (t := 2) rfl).1 _ (fun j => .long (xL X a j))) (fun q => by cases q) (by rw [arrV_size]; exact hin) (by rw [arrV_read _ _ hlt]) rfl rfl hdg kk
  · cases hg
theorem xr_aldq (C0 : XC p s m args meth c own cc nL G) (W0 : XD G X0 X s H locs) {a : Nat} (t : Nat) (ht : 4 ≤ t) {ty : FieldType} (hty : (xtys G)[t]? = some (G.2.2.1 t, ty)) (hry : isReferenceType ty = true) {i : Int32} {v : Nat} (hg : aQ X a t i = some v) (hdg : decode cc pc = .ok (.aaload, 1))
    (kk : W p l e R s m args below meth c H locs cells slots Q (F0 m (pc + 1) ls (.ref v :: rest))) : W p l e R s m args below meth c H locs cells slots Q (F0 m pc ls (.int i :: .ref a :: rest)) := by
  obtain ⟨hx, hb, -, hown, hts, hK, -⟩ := C0
  unfold aQ at hg
  split at hg
  · rename_i h1
    obtain ⟨h1, hin⟩ := h1
    have hcell := (W0.1.2 a).2.1 t h1
    rw [xarr_q ht, vp_cell_q] at hcell
    have hlt : i.toNatClampNeg < xLn X a := Nat.not_le.mp fun q => hin (Or.inr q)
    exact W.aald (v := .ref v) (ty := ty) hx hb hcell ((xr_kA hK hty).1 _ (fun j => va_rf (xQ X a j))) hry (fun q => by cases q) (by rw [arrV_size]; exact hin) (by rw [arrV_read _ _ hlt, hg]; rfl) rfl rfl hdg kk
  · cases hg
theorem xat_arr {X1 : XW} {H1 : Heap} {a t : Nat} (hk : xKd X1 a = 20 + t) (h : H1[a]? = some (vp_cell (G.2.2.1 t) (xarr X1 a t))) : xat G X1 H1 a :=
  ⟨fun ci r h1 h2 => by
    have hlt : ci < 11 := (List.getElem?_eq_some_iff.mp h2).1
    omega, fun t' h1 => by
    have e : t' = t := by omega
    subst e; exact h, fun _ => (Array.getElem?_eq_some_iff.mp h).1⟩
theorem updV_i {f : Nat → Int32} {k : Nat} {v : Int32} : updV (fun j => Value.int (f j)) k (.int v) = fun j => Value.int (va_up f k v j) := by
  funext q
  by_cases hq : q = k <;> simp [updV, va_up, hq]
theorem updV_l {f : Nat → Int64} {k : Nat} {v : Int64} : updV (fun j => Value.long (f j)) k (.long v) = fun j => Value.long (va_up f k v j) := by
  funext q
  by_cases hq : q = k <;> simp [updV, va_up, hq]
theorem updV_q {f : Nat → Option Nat} {k : Nat} {v : Nat} : updV (fun j => va_rf (f j)) k (.ref v) = fun j => va_rf (va_up f k (some v) j) := by
  funext q
  by_cases hq : q = k <;> simp [updV, va_up, hq, va_rf]
theorem xA_wA {a i : Nat} {v : Int32} : xA (wA X a i v) a = va_up (xA X a) i v := funext fun j => congrFun x2_eq j
theorem xL_wL {a i : Nat} {v : Int64} : xL (wL X a i v) a = va_up (xL X a) i v := funext fun j => congrFun x2_eq j
theorem xQ_wQ {a i : Nat} {v : Option Nat} : xQ (wQ X a i v) a = va_up (xQ X a) i v := funext fun j => congrFun x2_eq j
theorem xr_iast (C0 : XC p s m args meth c own cc nL G) (W0 : XD G X0 X s H locs) {a : Nat} {i v : Int32} {X1 : XW} (hg : uI X a i v = some X1) (hdg : decode cc pc = .ok (.iastore, 1))
    (kk : ∀ (H1 : Heap) (locs1 : List Loc), XD G X0 X1 s H1 locs1 → W p l e R s m args below meth c H1 locs1 cells slots Q (F0 m (pc + 1) ls rest)) : W p l e R s m args below meth c H locs cells slots Q (F0 m pc ls (.int v :: .int i :: .ref a :: rest)) := by
  obtain ⟨hx, hb, -, hown, hts, hK, -⟩ := C0
  unfold uI at hg
  split at hg
  · rename_i h1
    cases hg
    obtain ⟨h1, hin⟩ := h1
    have hcell := (W0.1.2 a).2.1 1 h1
    rw [xarr_i (Or.inr (Or.inl rfl)), vp_cell_i] at hcell
    refine W.iast hx hb hcell ((xr_kA hK (t := 1) rfl).1 _ (fun j => .int (xA X a j))) (fun q => by cases q) (by rw [arrV_size]; exact hin) rfl rfl hdg fun H1 e1 z oq => ?_
    refine kk H1 _ (W0.put (wA_but X a _ v) (by omega) z oq (xat_arr (t := 1) h1 ?_))
    rw [e1, arrV_store, xarr_i (Or.inr (Or.inl rfl)), vp_cell_i, xA_wA, updV_i]
    rfl
  · cases hg
theorem xr_zast (C0 : XC p s m args meth c own cc nL G) (W0 : XD G X0 X s H locs) {a : Nat} {i v : Int32} {X1 : XW} (hg : uZ X a i v = some X1) (hdg : decode cc pc = .ok (.bastore, 1))
    (kk : ∀ (H1 : Heap) (locs1 : List Loc), XD G X0 X1 s H1 locs1 → W p l e R s m args below meth c H1 locs1 cells slots Q (F0 m (pc + 1) ls rest)) : W p l e R s m args below meth c H locs cells slots Q (F0 m pc ls (.int v :: .int i :: .ref a :: rest)) := by
  obtain ⟨hx, hb, -, hown, hts, hK, -⟩ := C0
  unfold uZ at hg
  split at hg
  · rename_i h1
    cases hg
    obtain ⟨h1, hin⟩ := h1
    have hcell := (W0.1.2 a).2.1 3 h1
    rw [xarr_i (Or.inr (Or.inr rfl)), vp_cell_i] at hcell
    refine W.zast hx hb hcell ((xr_kA hK (t := 3) rfl).1 _ (fun j => .int (xA X a j))) (fun q => by cases q) (by rw [arrV_size]; exact hin) rfl rfl hdg fun H1 e1 z oq => ?_
    refine kk H1 _ (W0.put (wA_but X a _ _) (by omega) z oq (xat_arr (t := 3) h1 ?_))
    rw [xarr_i (Or.inr (Or.inr rfl)), vp_cell_i, xA_wA, e1, arrV_store]
    refine (congrArg (fun f => some (arrV (G.2.2.1 3) (xLn X a) f)) ?_)
    funext q
    by_cases hq : q = i.toNatClampNeg
    · subst hq
      simp [updV, va_up, vp_nar]
      try rfl
    · simp [updV, va_up, hq]
  · cases hg
theorem xr_bast (C0 : XC p s m args meth c own cc nL G) (W0 : XD G X0 X s H locs) {a : Nat} {i v : Int32} {X1 : XW} (hg : uB X a i v = some X1) (hdg : decode cc pc = .ok (.bastore, 1))
    (kk : ∀ (H1 : Heap) (locs1 : List Loc), XD G X0 X1 s H1 locs1 → W p l e R s m args below meth c H1 locs1 cells slots Q (F0 m (pc + 1) ls rest)) : W p l e R s m args below meth c H locs cells slots Q (F0 m pc ls (.int v :: .int i :: .ref a :: rest)) := by
  obtain ⟨hx, hb, -, hown, hts, hK, -⟩ := C0
  unfold uB at hg
  split at hg
  · rename_i h1
    cases hg
    obtain ⟨h1, hin⟩ := h1
    have hcell := (W0.1.2 a).2.1 0 h1
    rw [xarr_i (Or.inl rfl), vp_cell_i] at hcell
    refine W.bast hx hb hcell ((xr_kA hK (t := 0) rfl).1 _ (fun j => .int (xA X a j))) (fun q => by cases q) (by rw [arrV_size]; exact hin) rfl rfl hdg fun H1 e1 z oq => ?_
    refine kk H1 _ (W0.put (wA_but X a _ _) (by omega) z oq (xat_arr (t := 0) h1 ?_))
    rw [xarr_i (Or.inl rfl), vp_cell_i, xA_wA, e1, arrV_store]
    refine (congrArg (fun f => some (arrV (G.2.2.1 0) (xLn X a) f)) ?_)
    funext q
    by_cases hq : q = i.toNatClampNeg
    · subst hq
      simp [updV, va_up, vp_nar]
      try rfl
    · simp [updV, va_up, hq]
  · cases hg
theorem xr_last (C0 : XC p s m args meth c own cc nL G) (W0 : XD G X0 X s H locs) {a : Nat} {i : Int32} {v : Int64} {X1 : XW} (hg : uL X a i v = some X1) (hdg : decode cc pc = .ok (.lastore, 1))
    (kk : ∀ (H1 : Heap) (locs1 : List Loc), XD G X0 X1 s H1 locs1 → W p l e R s m args below meth c H1 locs1 cells slots Q (F0 m (pc + 1) ls rest)) : W p l e R s m args below meth c H locs cells slots Q (F0 m pc ls (.long v :: .int i :: .ref a :: rest)) := by
  obtain ⟨hx, hb, -, hown, hts, hK, -⟩ := C0
  unfold uL at hg
  split at hg
  · rename_i h1
    cases hg
    obtain ⟨h1, hin⟩ := h1
    have hcell := (W0.1.2 a).2.1 2 h1
    rw [xarr_l, vp_cell_l] at hcell
    refine W.last hx hb hcell ((xr_kA hK (t := 2) rfl).1 _ (fun j => .long (xL X a j))) (fun q => by cases q) (by rw [arrV_size]; exact hin) rfl rfl hdg fun H1 e1 z oq => ?_
    refine kk H1 _ (W0.put (wL_but X a _ v) (by omega) z oq (xat_arr (t := 2) h1 ?_))
    rw [e1, arrV_store, xarr_l, vp_cell_l, xL_wL, updV_l]
    rfl
  · cases hg
theorem xr_astq (C0 : XC p s m args meth c own cc nL G) (W0 : XD G X0 X s H locs) {a : Nat} (t ci : Nat) (ht : 4 ≤ t) {r : vw_C} (hty : (xtys G)[t]? = some (G.2.2.1 t, .object r.1)) (hc : vwCl[ci]? = some r) {i : Int32} {v : Nat} {X1 : XW} (hg : uQ X a t ci i v = some X1) (hdg : decode cc pc = .ok (.aastore, 1))
    (kk : ∀ (H1 : Heap) (locs1 : List Loc), XD G X0 X1 s H1 locs1 → W p l e R s m args below meth c H1 locs1 cells slots Q (F0 m (pc + 1) ls rest)) : W p l e R s m args below meth c H locs cells slots Q (F0 m pc ls (.ref v :: .int i :: .ref a :: rest)) := by
  obtain ⟨hx, hb, -, hown, hts, hK, -⟩ := C0
  unfold uQ at hg
  split at hg
  · rename_i h1
    cases hg
    obtain ⟨h1, hkv, hin⟩ := h1
    have hcell := (W0.1.2 a).2.1 t h1
    rw [xarr_q ht, vp_cell_q] at hcell
    have hlt : i.toNatClampNeg < xLn X a := Nat.not_le.mp fun q => hin (Or.inr q)
    have h0 : ¬ i < 0 := fun q => hin (Or.inl q)
    obtain ⟨cellV, g1, g2, g3, -⟩ := (W0.1.2 v).1 ci r hkv hc
    have hcls := (hK.1.1 ci r hc).2
    obtain ⟨kA, comp, k1, k2, k3, -⟩ := (xr_kA hK hty).2
    have hcomp : comp = G.1 ci := Option.some.inj (k3.symm.trans hcls.1)
    subst hcomp
    obtain ⟨kC, hkC, -⟩ := hcls.2
    refine W.aast hx hb hcell (fun q h => by cases h) (fun h => by cases h) k1 k2 rfl hkC ⟨h0, by rw [arrV_size]; exact hlt⟩ g1 (fun q h => by rw [g3] at h; cases h) (by rw [g2]; exact hkC) (by rw [g2]; exact va_assign hcls) rfl rfl hdg fun H1 e1 z oq => ?_
    refine kk H1 _ (W0.put (wQ_but X a _ _) (by omega) z oq (xat_arr (t := t) h1 ?_))
    rw [e1, arrV_store, xarr_q ht, vp_cell_q, xQ_wQ, updV_q]
    rfl
  · cases hg
theorem xr_alen (C0 : XC p s m args meth c own cc nL G) (W0 : XD G X0 X s H locs) {a : Nat} {v : Int32} (t : Nat) {ty : FieldType} (hty : (xtys G)[t]? = some (G.2.2.1 t, ty)) (hg : aE X a t = some v) (hdg : decode cc pc = .ok (.arraylength, 1))
    (kk : W p l e R s m args below meth c H locs cells slots Q (F0 m (pc + 1) ls (.int v :: rest))) : W p l e R s m args below meth c H locs cells slots Q (F0 m pc ls (.ref a :: rest)) := by
  obtain ⟨hx, hb, -, hown, hts, hK, -⟩ := C0
  unfold aE at hg
  split at hg
  · rename_i hk
    cases hg
    have hcell := (W0.1.2 a).2.1 t hk
    have hA := (xr_kA hK hty).1
    unfold xarr at hcell
    split at hcell
    · rw [vp_cell_l] at hcell
      exact W.alen (n := Int32.ofNat (xLn X a)) hx hb hcell (hA _ (fun j => .long (xL X a j))) (by rw [arrV_size] <;> rfl) rfl rfl hdg kk
    · split at hcell
      · rw [vp_cell_q] at hcell
        exact W.alen (n := Int32.ofNat (xLn X a)) hx hb hcell (hA _ (fun j => va_rf (xQ X a j))) (by rw [arrV_size] <;> rfl) rfl rfl hdg kk
      · rw [vp_cell_i] at hcell
        exact W.alen (n := Int32.ofNat (xLn X a)) hx hb hcell (hA _ (fun j => .int (xA X a j))) (by rw [arrV_size] <;> rfl) rfl rfl hdg kk
  · cases hg
theorem xr_newa (C0 : XC p s m args meth c own cc nL G) (W0 : XD G X0 X s H locs) {atype : ArrayType} (t M : Nat) {ty : FieldType} (hta : newarray.typeOf atype = ty) (ht4 : t < 4) (hM : M ≤ 60000000) (hty : (xtys G)[t]? = some (G.2.2.1 t, ty)) (hw : Cond.arrayClass ty ∈ xws) (hdf : ∀ N : Nat, arrV (G.2.2.1 t) N (fun _ => defaultValue ty) = vp_cell (G.2.2.1 t) (xarr (wN X (20 + t) N) X.1 t)) (hcb : componentBytes ty ≤ 8) {n : Int32} {r : Nat × XW} (hg : nA X t M n = some r) (hcells : cells + 1 ≤ R.cells) (hslots : slots + M ≤ R.slots) (hdg : decode cc pc = .ok (.newarray atype, 2))
    (kk : ∀ (H1 : Heap), XD G X0 r.2 s H1 locs → W p l e R s m args below meth c H1 locs (cells + 1) (slots + M) Q (F0 m (pc + 2) ls (.ref r.1 :: rest))) : W p l e R s m args below meth c H locs cells slots Q (F0 m pc ls (.int n :: rest)) := by
  obtain ⟨hx, hb, -, hown, hts, hK, -⟩ := C0
  unfold nA at hg
  split at hg
  · rename_i h1
    cases hg
    obtain ⟨hn, hnM⟩ := h1
    subst hta
    have hX1 : X.1 = H.size := W0.1.1.symm
    refine va_newaK hx hb (hts _ hw) rfl hdg rfl hn rfl ?_ hcells (by omega) rfl fun H1 cA e1 z1 o1 hAr hNm => ?_
    · exact Nat.le_trans (Nat.mul_le_mul (Nat.le_trans hnM hM) hcb) (by decide)
    · have hcA : cA = G.2.2.1 t := by
        have h2 := (xr_kA hK hty).2
        have h3 : s.vm.findClass ("[" ++ (newarray.typeOf atype).toString) = some (G.2.2.1 t) := by cases atype <;> exact h2
        exact Option.some.inj (hNm.symm.trans h3)
      subst hcA
      refine W.widen (k := cells + 1) (n := slots + M) (Nat.le_refl _) (by omega) ?_
      have hD := XD.fresh (kd := 20 + t) (len := n.toNatClampNeg) W0 z1 o1 (xat_arr (t := t) ?_ ?_)
      · have hk := kk H1 hD
        rw [hX1] at hk
        exact hk
      · show (if H.size = X.1 then (20 + t, n.toNatClampNeg) else X.2.1 H.size).1 = 20 + t
        rw [if_pos hX1.symm]
      · rw [e1, hdf, hX1]
  · cases hg
end XR2
