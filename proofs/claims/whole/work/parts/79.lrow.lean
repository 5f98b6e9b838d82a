/-! THE LAW'S OWN LOOP: rows for the script, for a boolean, for the call that catches -/
def lwE (p : Program) (s : State) (m : MethodId) (meth : Method) (c : Code) (G : XG) (X0 : XW) (b L : Nat) (xs : Nat → Int32) : Prop := XC p s m #[Value.ref b] meth c RL cL_law 7 G ∧ va_X b L xs s s.heap ∧ b < s.heap.size ∧ ¬ xAd X0 b
def lwA (b v : Nat) (i : Int32) : List (Nat × Value) := [(0, .ref b), (1, .ref v), (2, .ref (v + 127)), (3, .ref (v + 169)), (4, .int i)]
def sc (xs : Nat → Int32) (i k : Int32) : Int32 := xs (i + k).toNatClampNeg
def bz (x : Int32) : Int32 := if x = 0 then 0 else 1
theorem bz01 (x : Int32) : bz x = 0 ∨ bz x = 1 := by
  unfold bz
  split
  · exact Or.inl rfl
  · exact Or.inr rfl
def sj (x y : Int32) : Int64 := x.toInt64 <<< ((32 : Int32).toInt64 &&& 63) ||| y.toInt64 &&& 4294967295
theorem pk {X : XW} {a ci k : Nat} {v : Int32} {β : Type} {f : XW → Option β} {r : β} (h : (pI X a ci k v >>= f) = some r) : xKd X a = ci + 1 := by
  unfold pI at h
  by_cases hc : xKd X a = ci + 1
  · exact hc
  · rw [if_neg hc] at h
    cases h
section Lw
variable {p : Program} {l : Launch} {e : Env} {R : Room} {s : State} {m : MethodId} {below : List Frame} {meth : Method} {c : Code} {H : Heap} {locs : List Loc} {cells slots : Nat} {Q : State → Prop}
variable {G : XG} {X0 X : XW} {pc : Nat} {ls : Array Slot} {rest : List Value} {b v L : Nat} {xs : Nat → Int32} {i : Int32} {lv : List (Nat × Value)}
theorem lw_sc (E : lwE p s m meth c G X0 b L xs) (W0 : XD G X0 X s H locs) (h0 : ls[0]? = some (.val (.ref b))) (h4 : ls[4]? = some (.val (.int i))) {n : Int} {k : Int32} (hn : Int32.ofInt n = k) (hin : vp_in (i + k) L) (d1 : decode cL_law pc = .ok (.aload_n 0, 1)) (d2 : decode cL_law (pc + 1) = .ok (.iload 4, 2)) (d3 : decode cL_law (pc + 3) = .ok (.iconst n, 1)) (d4 : decode cL_law (pc + 4) = .ok (.iadd, 1)) (d5 : decode cL_law (pc + 5) = .ok (.iaload, 1))
    (kk : W p l e R s m #[Value.ref b] below meth c H locs cells slots Q (F0 m (pc + 6) ls (.int (sc xs i k) :: rest))) : W p l e R s m #[Value.ref b] below meth c H locs cells slots Q (F0 m pc ls rest) := by
  obtain ⟨C0, hX, hbl, hbA⟩ := E
  have hx := C0.1
  have hb := C0.2.1
  refine lv_aload_n hx hb d1 rfl h0 ?_
  refine lv_iload hx hb d2 h4 ?_
  refine lv_iconst hx hb d3 hn ?_
  refine lv_iadd hx hb d4 ?_
  exact va_sld hx hb hX hbl hbA W0.2.2.1 hin d5 kk
theorem lw_scb (E : lwE p s m meth c G X0 b L xs) (W0 : XD G X0 X s H locs) (h0 : ls[0]? = some (.val (.ref b))) (h4 : ls[4]? = some (.val (.int i))) {n : Int} {k : Int32} (hn : (Int8.ofInt n).toInt32 = k) (hin : vp_in (i + k) L) (d1 : decode cL_law pc = .ok (.aload_n 0, 1)) (d2 : decode cL_law (pc + 1) = .ok (.iload 4, 2)) (d3 : decode cL_law (pc + 3) = .ok (.bipush n, 2)) (d4 : decode cL_law (pc + 5) = .ok (.iadd, 1)) (d5 : decode cL_law (pc + 6) = .ok (.iaload, 1))
    (kk : W p l e R s m #[Value.ref b] below meth c H locs cells slots Q (F0 m (pc + 7) ls (.int (sc xs i k) :: rest))) : W p l e R s m #[Value.ref b] below meth c H locs cells slots Q (F0 m pc ls rest) := by
  obtain ⟨C0, hX, hbl, hbA⟩ := E
  have hx := C0.1
  have hb := C0.2.1
  refine lv_aload_n hx hb d1 rfl h0 ?_
  refine lv_iload hx hb d2 h4 ?_
  refine lv_bipush hx hb d3 hn ?_
  refine lv_iadd hx hb d4 ?_
  exact va_sld hx hb hX hbl hbA W0.2.2.1 hin d5 kk
theorem lw_nz {args : Array Value} (hx : p.tables.exec = Jvm.exec) (hb : c.code = cL_law) {x : Int32} (d1 : decode cL_law pc = .ok (.ifCond .eq 7, 3)) (d2 : decode cL_law (pc + 3) = .ok (.iconst 1, 1)) (d3 : decode cL_law (pc + 4) = .ok (.goto 4, 3)) (d4 : decode cL_law (pc + 7) = .ok (.iconst 0, 1))
    (kk : W p l e R s m args below meth c H locs cells slots Q (F0 m (pc + 8) ls (.int (bz x) :: rest))) : W p l e R s m args below meth c H locs cells slots Q (F0 m pc ls (.int x :: rest)) := by
  refine lv_if_eq (tgt := pc + 7) hx hb d1 (by omega) (fun h => ?_) (fun h => ?_)
  · refine lv_iconst hx hb d4 (v := 0) rfl ?_
    have hz : bz x = 0 := if_pos h
    rw [hz] at kk
    exact kk
  · refine lv_iconst hx hb d2 (v := 1) rfl ?_
    refine lv_goto (tgt := pc + 8) hx hb d3 (by omega) ?_
    have hz : bz x = 1 := if_neg h
    rw [hz] at kk
    exact kk
end Lw
theorem gd_L_shape : GoodIn xws (va_wsS RL 81 yL_shape (.codeWith yL_shape cL_shape 5 (some .int) hhL :: xws)) := by
  have g : ∀ w, w ∈ xws → w ∈ xws ∧ ((w.onTables && w.keeps) = true ∨ ∃ ty, w = .arrayClass ty) := fun w h => ⟨h, good_of_word (xws_good h)⟩
  intro w hw
  unfold va_wsS at hw
  rcases List.mem_append.mp hw with h | h
  · rcases List.mem_cons.mp h with rfl | h
    · exact g _ ml_L_81
    rcases List.mem_cons.mp h with rfl | h
    · exact g _ (xws_t 734 (by decide +kernel) rfl)
    rcases List.mem_cons.mp h with rfl | h
    · exact g _ (xws_t 0 (by decide +kernel) rfl)
    · cases h
  · rcases List.mem_cons.mp h with rfl | h
    · exact g _ (xws_t 735 (by decide +kernel) rfl)
    · exact g _ h
section Lw2
variable {p : Program} {l : Launch} {e : Env} {s : State} {m : MethodId} {args : Array Value} {below : List Frame} {meth : Method} {c : Code} {H : Heap} {locs : List Loc} {cells slots : Nat} {Q : State → Prop}
variable {G : XG} {X0 X : XW} {pc : Nat} {ls : Array Slot} {rest : List Value}
theorem xs_13 {x : Nat} {i w : Int32} {out : Nat} {r : Option Int32 × XW} (C0 : XC p s m args meth c RL cL_law 7 G) (W0 : XD G X0 X s H locs) (hlt : l.stackTraces = false) (hk : xKd X x = 9 + 1) (h : fX9_shape x i w X = some r) (ho : ∀ v, r.1 = some v → ∃ X1, uL r.2 out 0 v.toInt64 = some X1) (hls : ls.size = 7) (hr : (rest.map fun v => v.category).sum ≤ 8) (hf : cells + 1 ≤ room_1.cells ∧ slots + 6 ≤ room_1.slots) (hdg : decode cL_law pc = .ok (.invokestatic 81, 3))
    (kk : ∀ (v : Int32) (X1 : XW) (H1 : Heap) (locs1 : List Loc), r.1 = some v → uL r.2 out 0 v.toInt64 = some X1 → XD G X0 X1 s H1 locs1 → W p l e room_1 s m args below meth c H1 locs1 (cells + 1) (slots + 6) Q (F0 m (pc + 3) ls (.int 0 :: rest)))
    (kx : ∀ (n : Nat) (H1 : Heap) (locs1 : List Loc), r.1 = none → r.2.1 ≤ n → XD G X0 (wZ r.2 n) s H1 locs1 → W p l e room_1 s m args below meth c H1 locs1 (cells + 1) (slots + 6) Q (F0 m (pc + 3) ls (.int 1 :: rest))) : W p l e room_1 s m args below meth c H locs cells slots Q (F0 m pc ls (.ref out :: .int w :: .int i :: .ref x :: rest)) := by
  have hr' := vx_runSX (cells := cells) (slots := slots) (locs := locs) (below := below) (meth := meth) (p := p) (e := e) (As := [.ref x, .int i, .int w, .ref out]) (rest := rest) (g := F0 m pc ls (.ref out :: .int w :: .int i :: .ref x :: rest)) ⟨C0.1, C0.2.1, C0.2.2.1, C0.2.2.2.1, C0.2.2.2.2.1⟩ (ctL_shape l G hlt hk h ho) (vx_cwSW 4 C0.2.2.2.2.1 gd_L_shape rfl rfl rfl (by decide +kernel) ⟨by decide, by decide⟩) ⟨xblind, xpre W0 C0.2.2.2.2.2.1 _⟩ rfl rfl hls rfl (lv_room hr) hdg hf
  intro T hT Xs
  have hA := xAd_sub W0
  have keep : ∀ (st₀ t T' : State) (L : List Loc) (X1 : XW), st₀.heap = H → T'.heap = t.heap → (∀ q ∈ L, xAd X q.base) → xw G X1 t.heap → (∀ a, xKd X1 a ≠ 0 → xAd X a) → va_F (xAd X) st₀ t → XD G X0 X1 s T'.heap (locs ++ L) := fun st₀ t T' L X1 h0 e1 hL hw hkd hF => by
    obtain ⟨hz, hk⟩ := hF
    rw [h0] at hz hk
    exact ⟨by rw [e1]; exact hw, fun a ha => hA a (hkd a ha), ⟨Nat.le_trans W0.2.2.1.1 (by rw [e1]; exact hz), fun q h1 h2 => by rw [e1, hk q (Nat.lt_of_lt_of_le h1 W0.2.2.1.1) (fun z => h2 (hA q z))]; exact W0.2.2.1.2.1 q h1 h2, fun q hq => (List.mem_append.mp hq).elim (W0.2.2.1.2.2 q) (fun h => hA _ (hL q h))⟩, W0.2.2.2⟩
  rcases hr' T hT Xs with ⟨v, st₀, t, T', L, h0, X', hL, e1, e2, hq, st⟩ | ⟨q, st₀, t, T', L, E, ce, h0, X', hL, e1, e2, hF, hce, hcv, hcl, st⟩
  · rcases hq with ⟨v', X1, hv1, hX1, hv2, hw', hkd, hF⟩ | ⟨hn1, k, hk', hv2, hw', hkd, hF⟩
    · have hvv : v = some (.int 0) := Outcome.returned.inj hv2
      subst hvv
      obtain ⟨t2, a1, b1⟩ := kk v' X1 T'.heap (locs ++ L) hv1 hX1 (keep st₀ t T' L _ h0 e1 hL hw' hkd hF) T' rfl X'
      exact ⟨t2, st t2 a1, b1⟩
    · have hvv : v = some (.int 1) := Outcome.returned.inj hv2
      subst hvv
      obtain ⟨t2, a1, b1⟩ := kx k T'.heap (locs ++ L) hn1 hk' (keep st₀ t T' L _ h0 e1 hL hw' hkd hF) T' rfl X'
      exact ⟨t2, st t2 a1, b1⟩
  · exact hF.elim
end Lw2
