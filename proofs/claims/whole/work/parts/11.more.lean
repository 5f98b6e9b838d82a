/-! arrays of arrays, arrays of references, arraycopy -/
/-- a whole int array replaced -/
def wF (X : XW) (b : Nat) (f : Nat → Int32) : XW := (X.1, X.2.1, X.2.2.1, X.2.2.2.1, (fun a j => if a = b then f j else X.2.2.2.2.1 a j), X.2.2.2.2.2)
theorem wF_but (X : XW) (a : Nat) (f : Nat → Int32) : xbut a X (wF X a f) := ⟨rfl, fun _ => rfl, fun b h => ⟨rfl, rfl, funext fun j => if_neg h, rfl, rfl⟩⟩
theorem xA_wF {X : XW} {a : Nat} {f : Nat → Int32} : xA (wF X a f) a = f := funext fun j => if_pos rfl
def cpI (X : XW) (a : Nat) (sp : Int32) (b : Nat) (dp n : Int32) : Option XW :=
  if xKd X a = 21 ∧ xKd X b = 21 ∧ ¬ sp < 0 ∧ ¬ dp < 0 ∧ ¬ n < 0 ∧ sp.toNatClampNeg + n.toNatClampNeg ≤ xLn X a ∧ dp.toNatClampNeg + n.toNatClampNeg ≤ xLn X b then some (wF X b (va_cpy (xA X a) (xA X b) sp.toNatClampNeg dp.toNatClampNeg n.toNatClampNeg)) else none
/-- new int[n][k]: the outer array, then its rows -/
def wM (X : XW) (n k : Nat) : XW := (X.1 + 1 + n, (fun b => if b = X.1 then (26, n) else if X.1 < b ∧ b < X.1 + 1 + n then (21, k) else X.2.1 b), X.2.2.1, X.2.2.2.1, (fun b j => if X.1 < b ∧ b < X.1 + 1 + n then 0 else X.2.2.2.2.1 b j), X.2.2.2.2.2.1, (fun b j => if b = X.1 then (if j < n then some (X.1 + 1 + j) else none) else X.2.2.2.2.2.2 b j))
def nM (X : XW) (n k : Nat) : Nat × XW := (X.1, wM X n k)
/-- new C[n] -/
def nQ (X : XW) (t n : Nat) : Nat × XW := (X.1, wN X (20 + t) n)
section XR5
variable {p : Program} {l : Launch} {e : Env} {R : Room} {s : State} {m : MethodId} {args : Array Value} {below : List Frame} {meth : Method} {c : Code} {H : Heap} {locs : List Loc} {cells slots : Nat} {Q : State → Prop}
variable {own : String} {cc : ByteArray} {nL : Nat} {G : XG} {X0 X : XW} {pc : Nat} {ls : Array Slot} {rest : List Value} {idx : Nat}
theorem xr_copy (C0 : XC p s m args meth c own cc nL G) (W0 : XD G X0 X s H locs) (hls : ls.size = nL) (hlk : Cond.methodLink own idx arraycopyName ∈ xws) {a b : Nat} {sp dp n : Int32} {X1 : XW} (hg : cpI X a sp b dp n = some X1) (hframes : 1 ≤ R.frames) (hlocals : (rest.map fun v => v.category).sum + (nativeFrameWords "java/lang/System" "arraycopy" 5 + 11) ≤ R.locals) (hdg : decode cc pc = .ok (.invokestatic idx, 3))
    (kk : ∀ (H1 : Heap) (locs1 : List Loc), XD G X0 X1 s H1 locs1 → W p l e R s m args below meth c H1 locs1 cells slots Q (F0 m (pc + 3) ls rest)) : W p l e R s m args below meth c H locs cells slots Q (F0 m pc ls (.int n :: .int dp :: .ref b :: .int sp :: .ref a :: rest)) := by
  unfold cpI at hg
  split at hg
  · rename_i hh
    cases hg
    obtain ⟨hka, hkb, h1, h2, h3, h4, h5⟩ := hh
    have nn : ∀ z : Int32, ¬ z < 0 → z.toInt = (z.toNatClampNeg : Int) := by
      intro z hz
      have hz0 : (0 : Int) ≤ z.toInt := by
        have := Int32.not_lt.mp hz
        simpa using Int32.le_iff_toInt_le.mp this
      show z.toInt = ((z.toInt.toNat : Nat) : Int)
      omega
    have hts := C0.2.2.2.2.1
    have hcA := (W0.1.2 a).2.1 1 hka
    have hcB := (W0.1.2 b).2.1 1 hkb
    rw [xarr_i (Or.inr (Or.inl rfl))] at hcA hcB
    have hAr := (xr_kA C0.2.2.2.2.2.1 (t := 1) rfl).1
    obtain ⟨-, k0, hk0, cm0, hkk0⟩ := hAr (xLn X a) (fun j => .int (xA X a j))
    obtain ⟨-, k1, hk1, cm1, hkk1⟩ := hAr (xLn X b) (fun j => .int (xA X b j))
    intro T hT Xs
    obtain ⟨vm', X', step⟩ := Xs.arraycopy C0.1 C0.2.2.2.1 (hts _ hlk) (hts _ (xws_t 341 (by decide +kernel) rfl)) (hts _ (xws_t 340 (by decide +kernel) rfl)) (hts _ (xws_t 12 (by decide +kernel) rfl)) (src := a) (dst := b) (cs := vp_cell (G.2.2.1 1) (xLn X a, .inl (xA X a))) (cd := vp_cell (G.2.2.1 1) (xLn X b, .inl (xA X b))) (srcPos := sp) (destPos := dp) (n := n) (by rw [hT]; exact hcA) (by rw [hT]; exact hcB)
      (fun _ h => by cases h) (fun _ h => by cases h) (fun h => by cases h) (fun h => by cases h) hk0 hk1 hkk0 hkk1 (by simp [show refKind FieldType.int = false from rfl]) h1 h2 h3
      (by rw [nn sp h1, nn n h3]; show ¬ _ > ((arrV (G.2.2.1 1) (xLn X a) (fun j => .int (xA X a j))).slots.size : Int); rw [arrV_size]; omega)
      (by rw [nn dp h2, nn n h3]; show ¬ _ > ((arrV (G.2.2.1 1) (xLn X b) (fun j => .int (xA X b j))).slots.size : Int); rw [arrV_size]; omega)
      (fun vm₁ _ i hi => by
        have e : (vp_cell (G.2.2.1 1) (xLn X a, .inl (xA X a))).slots.getD (sp.toNatClampNeg + i) .null = .int (xA X a (sp.toNatClampNeg + i)) := by
          show (arrV (G.2.2.1 1) (xLn X a) (fun j => .int (xA X a j))).slots.getD _ _ = _
          rw [Array.getD_eq_getD_getElem?, arrV_read _ _ (by omega)]
          rfl
        refine ⟨?_, ?_⟩
        · rw [e]
          rfl
        · rw [e]
          exact trivial)
      (g := F0 m pc ls (.int n :: .int dp :: .ref b :: .int sp :: .ref a :: rest)) rfl (by rw [C0.2.2.1]; exact hls) (rest := rest) rfl (by rw [C0.2.1]; exact hdg) hframes (by show 2 * 0 + _ + _ ≤ _; omega)
    have e1 : copied (vp_cell (G.2.2.1 1) (xLn X a, .inl (xA X a))) (vp_cell (G.2.2.1 1) (xLn X b, .inl (xA X b))) sp dp n = vp_cell (G.2.2.1 1) (xLn X b, .inl (va_cpy (xA X a) (xA X b) sp.toNatClampNeg dp.toNatClampNeg n.toNatClampNeg)) := va_copied (fun z => .int z) (G.2.2.1 1) (G.2.2.1 1) (xA X a) (xA X b) h4
    rw [e1] at X' step
    have hl : b < H.size := (Array.getElem?_eq_some_iff.mp hcB).1
    generalize hcell : vp_cell (G.2.2.1 1) (xLn X b, .inl (va_cpy (xA X a) (xA X b) sp.toNatClampNeg dp.toNatClampNeg n.toNatClampNeg)) = cellN at X' step
    have hheap : ((T.setVm vm').setCell b cellN).heap = H.setIfInBounds b cellN := by rw [← hT]; rfl
    have oq : ∀ q : Nat, q ≠ b → (H.setIfInBounds b cellN)[q]? = H[q]? := fun q hq => by simp [Array.getElem?_setIfInBounds, Ne.symm hq]
    have hb' : (H.setIfInBounds b cellN)[b]? = some cellN := by simp [Array.getElem?_setIfInBounds, hl]
    have hD := XD.put (i := 0) W0 (wF_but X b (va_cpy (xA X a) (xA X b) sp.toNatClampNeg dp.toNatClampNeg n.toNatClampNeg)) (by omega) (by simp) oq (xat_arr (t := 1) hkb (by rw [hb', xarr_i (Or.inr (Or.inl rfl)), xA_wF, ← hcell]; rfl))
    have hAb := W0.2.1 b (by omega)
    obtain ⟨t, a1, b1⟩ := kk _ _ ⟨hD.1, hD.2.1, ⟨hD.2.2.1.1, hD.2.2.1.2.1, fun q hq => by
        rcases List.mem_append.mp hq with h | h
        · exact W0.2.2.1.2.2 q h
        · obtain ⟨z, -, hz⟩ := List.mem_map.mp h
          rw [← hz]
          exact hAb⟩, hD.2.2.2⟩ _ hheap X'
    exact ⟨t, step t a1, b1⟩
  · cases hg
theorem xr_anew (C0 : XC p s m args meth c own cc nL G) (W0 : XD G X0 X s H locs) (t n : Nat) {C : String} (ht : 4 ≤ t) (hty : (xtys G)[t]? = some (G.2.2.1 t, .object C)) (hover : va_AO C s) (hcl : Cond.classLink own idx C ∈ xws) {ni : Int32} (hn : ni = nI n) (hn2 : n ≤ 1000) (hcells : cells + 1 ≤ R.cells) (hslots : slots + n ≤ R.slots) (hdg : decode cc pc = .ok (.anewarray idx, 3))
    (kk : ∀ (H1 : Heap), XD G X0 (nQ X t n).2 s H1 locs → W p l e R s m args below meth c H1 locs (cells + 1) (slots + n) Q (F0 m (pc + 3) ls (.ref (nQ X t n).1 :: rest))) : W p l e R s m args below meth c H locs cells slots Q (F0 m pc ls (.int ni :: rest)) := by
  obtain ⟨hx, hb, -, hown, hts, hK, -⟩ := C0
  have hX1 : X.1 = H.size := W0.1.1.symm
  have hcl2 : ni.toNatClampNeg = n := by rw [hn]; exact nI_clamp (by omega)
  refine W.anew hx hb hown (hts _ hcl) (va_AO.use hover) rfl hdg rfl (by rw [hn]; exact nI_pos (by omega)) (by rw [hcl2]; omega) hcells (by rw [hcl2]; exact hslots) fun cA kA comp f1 f2 f3 f4 => ?_
  rw [hcl2]
  have hcA : cA = G.2.2.1 t := by
    obtain ⟨_, _, -, -, -, g4⟩ := (xr_kA hK hty).2
    exact Option.some.inj (f1.symm.trans g4)
  subst hcA
  generalize hH1 : H.push ({ cls := G.2.2.1 t, slots := Array.replicate n .null, vm := .none } : Cell) = H1
  have z1 : H1.size = H.size + 1 := by rw [← hH1, Array.size_push]
  have e1 : H1[H.size]? = some (arrV (G.2.2.1 t) n (fun _ => .null)) := by rw [← hH1, Array.getElem?_push_size, ← arrV_new]
  have o1 : ∀ q : Nat, q < H.size → H1[q]? = H[q]? := fun q hq => by rw [← hH1, Array.getElem?_push, if_neg (Nat.ne_of_lt hq)]
  have hk := kk H1 (XD.fresh (kd := 20 + t) (len := n) W0 z1 o1 (xat_arr (t := t) (by
      show (if H.size = X.1 then (20 + t, n) else X.2.1 H.size).1 = 20 + t
      rw [if_pos hX1.symm]) (by
      rw [e1, xarr_q ht, vp_cell_q, ← hX1]
      simp [xQ, xLn, wN, x1, va_rf])))
  rw [show (nQ X t n).1 = H.size from hX1] at hk
  exact hk
end XR5
section XR6
variable {p : Program} {l : Launch} {e : Env} {R : Room} {s : State} {m : MethodId} {args : Array Value} {below : List Frame} {meth : Method} {c : Code} {H : Heap} {locs : List Loc} {cells slots : Nat} {Q : State → Prop}
variable {own : String} {cc : ByteArray} {nL : Nat} {G : XG} {X0 X : XW} {pc : Nat} {ls : Array Slot} {rest : List Value} {idx : Nat}
theorem xouter (c : ClassId) (N h0 : Nat) : ∀ i : Nat, Jvm.Free.Multi.outerC c N h0 i = arrV c N (fun j => va_rf (if j < i then some (h0 + 1 + j) else none))
  | 0 => by
    show ({ cls := c, slots := Array.replicate N .null, vm := .none } : Cell) = _
    rw [arrV_new]
    refine congrArg (arrV c N) (funext fun j => ?_)
    simp [va_rf]
  | i + 1 => by
    show (Jvm.Free.Multi.outerC c N h0 i).setSlot i (.ref (h0 + 1 + i)) = _
    rw [xouter c N h0 i, arrV_store]
    refine congrArg (arrV c N) (funext fun j => ?_)
    by_cases e : j = i
    · subst e
      simp [updV, va_rf]
    · by_cases h : j < i
      · simp [updV, e, h, Nat.lt_succ_of_lt h]
      · simp [updV, e, h, show ¬ j < i + 1 by omega]
theorem xr_mna (C0 : XC p s m args meth c own cc nL G) (W0 : XD G X0 X s H locs) (n k : Nat) (hcl : Cond.classLink own idx "[[I" ∈ xws) {ni ki : Int32} (hn : ni = nI n) (hk : ki = nI k) (hn2 : n ≤ 1000) (hk2 : k ≤ 1000) (hcells : cells + (1 + n) ≤ R.cells) (hslots : slots + (n + n * k) ≤ R.slots) (hdg : decode cc pc = .ok (.multianewarray idx 2, 4))
    (kk : ∀ (H1 : Heap), XD G X0 (nM X n k).2 s H1 locs → W p l e R s m args below meth c H1 locs (cells + 1 + n) (slots + n + n * k) Q (F0 m (pc + 4) ls (.ref (nM X n k).1 :: rest))) : W p l e R s m args below meth c H locs cells slots Q (F0 m pc ls (.int ki :: .int ni :: rest)) := by
  have hX1 : X.1 = H.size := W0.1.1.symm
  have cn : ni.toNatClampNeg = n := by rw [hn]; exact nI_clamp (by omega)
  have ck : ki.toNatClampNeg = k := by rw [hk]; exact nI_clamp (by omega)
  have hts := C0.2.2.2.2.1
  have hK := C0.2.2.2.2.2.1
  intro T hT Xs
  obtain ⟨vm₁, cA, comp, -, fA, fC, hO, -, X', step⟩ := Xs.multianewarray2F C0.1 C0.2.2.2.1 (ty := .int) (hts _ hcl) (xnw_aoA hK.2) (hts _ ka_int) (g := F0 m pc ls (.int ki :: .int ni :: rest)) rfl (by rw [C0.2.1]; exact hdg) rfl (by rw [hn]; exact nI_pos (by omega)) (by rw [hk]; exact nI_pos (by omega)) (by rw [cn]; omega) (by rw [ck]; show k * 4 ≤ _; omega) (by rw [ck]; omega) rfl rfl (by rw [cn]; exact hcells) (by rw [cn, ck]; exact hslots)
  rw [cn, ck] at X' step
  have hcA : cA = G.2.2.1 6 := by
    have g4 : s.vm.findClass ("[" ++ (FieldType.array .int).toString) = some (G.2.2.1 6) := (xr_kA hK (t := 6) rfl).2
    exact Option.some.inj (fA.symm.trans g4)
  have hcI : comp = G.2.2.1 1 := by
    have g4 : s.vm.findClass ("[" ++ FieldType.int.toString) = some (G.2.2.1 1) := (xr_kA hK (t := 1) rfl).2
    exact Option.some.inj (fC.symm.trans g4)
  subst hcA
  subst hcI
  generalize hF : Jvm.Free.Multi.fill (T.setVm vm₁) (G.2.2.1 6) (G.2.2.1 1) n k (defaultValue .int) n = F at X' step
  have hTh : (T.setVm vm₁).heap = H := hT
  obtain ⟨f1, f2, -, -⟩ := Jvm.Free.Multi.fill_facts (T.setVm vm₁) (G.2.2.1 6) (G.2.2.1 1) n k (defaultValue .int) n
  rw [hF, hTh] at f1 f2
  have hold : ∀ x : Nat, x < H.size → F.heap[x]? = H[x]? := fun x hx => by
    have := Jvm.Free.Multi.fill_old (T.setVm vm₁) (G.2.2.1 6) (G.2.2.1 1) n k (defaultValue .int) (a := x) (by rw [hTh]; exact hx) n
    rw [hF, hTh] at this
    exact this
  have hrow : ∀ j : Nat, j < n → F.heap[H.size + 1 + j]? = some (vp_cell (G.2.2.1 1) (k, .inl (fun _ => 0))) := fun j hj => by
    have := Jvm.Free.Multi.fill_inner (T.setVm vm₁) (G.2.2.1 6) (G.2.2.1 1) n k (defaultValue .int) n j hj
    rw [hF, hTh] at this
    rw [this, vp_cell_i]
    show some ({ cls := G.2.2.1 1, slots := Array.replicate k (.int 0), vm := .none } : Cell) = _
    rw [arrV_new]
  rw [xouter] at f2
  obtain ⟨⟨g1, g2⟩, g3, g4, g5, g6⟩ := W0
  have kd0 : ∀ b : Nat, b < H.size → (wM X n k).2.1 b = X.2.1 b := fun b hb => by
    show (if b = X.1 then (26, n) else if X.1 < b ∧ b < X.1 + 1 + n then (21, k) else X.2.1 b) = X.2.1 b
    rw [if_neg (by omega), if_neg (by omega)]
  have hD : XD G X0 (wM X n k) s F.heap locs := by
    refine ⟨⟨by rw [f1]; show _ = X.1 + 1 + n; omega, fun b => ?_⟩, fun b hb => ?_, ⟨by rw [f1]; have := g4.1; omega, fun x h1 h2 => (hold x (Nat.lt_of_lt_of_le h1 g4.1)).trans (g4.2.1 x h1 h2), g4.2.2⟩, g5, g6⟩
    · by_cases hb : b = H.size
      · refine xat_arr (t := 6) ?_ ?_
        · show (if b = X.1 then (26, n) else if X.1 < b ∧ b < X.1 + 1 + n then (21, k) else X.2.1 b).1 = 26
          rw [if_pos (by omega)]
        · rw [hb, f2, xarr_q (by decide), vp_cell_q]
          have eL : xLn (wM X n k) H.size = n := by
            show (if H.size = X.1 then (26, n) else if X.1 < H.size ∧ H.size < X.1 + 1 + n then (21, k) else X.2.1 H.size).2 = n
            rw [if_pos hX1.symm]
          have eQ : xQ (wM X n k) H.size = fun j => if j < n then some (H.size + 1 + j) else none := by
            funext j
            show (if H.size = X.1 then (if j < n then some (X.1 + 1 + j) else none) else X.2.2.2.2.2.2 H.size j) = _
            rw [if_pos hX1.symm, hX1]
          rw [eL, eQ]
      · by_cases hb2 : H.size < b ∧ b < H.size + 1 + n
        · refine xat_arr (t := 1) ?_ ?_
          · show (if b = X.1 then (26, n) else if X.1 < b ∧ b < X.1 + 1 + n then (21, k) else X.2.1 b).1 = 21
            rw [if_neg (by omega), if_pos (by omega)]
          · have hr := hrow (b - (H.size + 1)) (by omega)
            rw [show H.size + 1 + (b - (H.size + 1)) = b by omega] at hr
            rw [hr, xarr_i (Or.inr (Or.inl rfl))]
            have eL : xLn (wM X n k) b = k := by
              show (if b = X.1 then (26, n) else if X.1 < b ∧ b < X.1 + 1 + n then (21, k) else X.2.1 b).2 = k
              rw [if_neg (by omega), if_pos (by omega)]
            have eA : xA (wM X n k) b = fun _ => 0 := by
              funext j
              show (if X.1 < b ∧ b < X.1 + 1 + n then 0 else X.2.2.2.2.1 b j) = 0
              rw [if_pos (by omega)]
            rw [eL, eA]
        · have e0 : (wM X n k).2.1 b = X.2.1 b := by
            show (if b = X.1 then (26, n) else if X.1 < b ∧ b < X.1 + 1 + n then (21, k) else X.2.1 b) = X.2.1 b
            rw [if_neg (by omega), if_neg (by omega)]
          refine (g2 b).kept e0 rfl rfl (funext fun j => if_neg (by omega)) rfl (funext fun j => if_neg (by omega)) (fun q => hold b ((g2 b).2.2 q)) (by rw [f1]; omega)
    · by_cases hb2 : b < H.size
      · refine g3 b ?_
        unfold xKd at hb ⊢
        rw [kd0 b hb2] at hb
        exact hb
      · right; rw [g5]; exact Nat.le_trans g4.1 (by omega)
  have hk9 := kk F.heap hD
  rw [show (nM X n k).1 = H.size from hX1] at hk9
  obtain ⟨t, a1, b1⟩ := hk9 F rfl X'
  refine ⟨t, step t ?_, b1⟩
  have e : T.heap.size = H.size := by rw [hT]
  rw [e]
  exact a1
end XR6
