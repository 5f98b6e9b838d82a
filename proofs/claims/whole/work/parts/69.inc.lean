/-! THE BEGINNING: the class -/
def xap (P : Nat → Prop) (X X1 : XW) : Prop := ∀ a, P a → X1.2.1 a = X.2.1 a ∧ xI X1 a = xI X a ∧ xR X1 a = xR X a ∧ xA X1 a = xA X a ∧ xL X1 a = xL X a ∧ xQ X1 a = xQ X a
def t00 : St := (fun _ => d0, 1, 0, fun _ => (0, 99, 99, 0, fun _ => l00), 0, 6, 1, 1, 0, fun _ => 0)
section Inc
variable {P : Nat → Prop} {X X1 X2 : XW} {v : Nat}
theorem xap.rf (P : Nat → Prop) (X : XW) : xap P X X := fun _ _ => ⟨rfl, rfl, rfl, rfl, rfl, rfl⟩
theorem xap.tr (h : xap P X X1) (h2 : xap P X1 X2) : xap P X X2 := fun a ha => by
  obtain ⟨a1, a2, a3, a4, a5, a6⟩ := h a ha
  obtain ⟨b1, b2, b3, b4, b5, b6⟩ := h2 a ha
  exact ⟨b1.trans a1, b2.trans a2, b3.trans a3, b4.trans a4, b5.trans a5, b6.trans a6⟩
theorem xap.wk {Q : Nat → Prop} (h : xap P X X1) (hQ : ∀ a, Q a → P a) : xap Q X X1 := fun a ha => h a (hQ a ha)
theorem xag.ap {n : Nat} (h : xag n X X1) (hP : ∀ a, P a → a < n) : xap P X X1 := fun a ha => h.2 a (hP a ha)
theorem xap.lg (h : xap P X X1) : xlg P X X1 := fun a ha => ⟨(h a ha).1, (h a ha).2.2.1, (h a ha).2.2.2.2.2⟩
theorem xap.wR {a k : Nat} {q : Option Nat} (hP : ∀ b, P b → b ≠ a) : xap P X (wR X a k q) := fun b hb => ⟨rfl, rfl, funext fun j => if_neg (fun z => hP b hb z.1), rfl, rfl, rfl⟩
theorem xap.wQ {a k : Nat} {q : Option Nat} (hP : ∀ b, P b → b ≠ a) : xap P X (wQ X a k q) := fun b hb => ⟨rfl, rfl, rfl, rfl, rfl, funext fun j => if_neg (fun z => hP b hb z.1)⟩
theorem CRd.ap {q : Nat} {d : Rd} (c : CRd X q d) (h : xap P X X1) (hP : ∀ a, q ≤ a → a < q + 10 → P a) : CRd X1 q d := by
  obtain ⟨c1, c2, c3, c4, c5, c6⟩ := c
  have eI : xI X1 q = xI X q := (h q (hP _ (by omega) (by omega))).2.1
  have eA : ∀ j, j < 10 → xA X1 (q + j) = xA X (q + j) := fun j hj => (h (q + j) (hP _ (by omega) (by omega))).2.2.2.1
  refine ⟨by rw [eI]; exact c1, by rw [eI]; exact c2, by rw [eI]; exact c3, fun k hk => ?_, fun k h1 h2 => by rw [eA 1 (by decide)]; exact c5 k h1 h2, fun w i hw hi => by rw [Nat.add_assoc, eA (7 + w) (by omega), ← Nat.add_assoc]; exact c6 w i hw hi⟩
  unfold CWd
  rw [eA 1 (by decide), eA 2 (by decide), eA 3 (by decide), eA 4 (by decide), eA 5 (by decide)]
  exact c4 k hk
/-- the object itself, so far -/
def VR (X : XW) (v : Nat) (r i : List (Nat × Nat)) (n1 n2 : Nat) : Prop := xKd X v = 10 ∧ (∀ e, e ∈ r → xR X v e.1 = some (v + e.2)) ∧ (∀ e, e ∈ i → xI X v e.1 = nI e.2) ∧ ar X (v + 1) 25 4 ∧ ar X (v + 2) 24 4 ∧ (∀ j, j < n1 → xQ X (v + 1) j = some (cR v j)) ∧ ∀ j, j < n2 → xQ X (v + 2) j = some (cM v j)
theorem VR.ag {r i : List (Nat × Nat)} {n1 n2 n : Nat} (V : VR X v r i n1 n2) (h : xag n X X1) (hn : v + 3 ≤ n) : VR X1 v r i n1 n2 := by
  obtain ⟨v1, v2, v3, v4, v5, v6, v7⟩ := V
  exact ⟨(h.kd (by omega)).trans v1, fun e he => (h.rr (by omega) _).trans (v2 e he), fun e he => by rw [(h.2 v (by omega)).2.1]; exact v3 e he, v4.lg h.lg (by omega), v5.lg h.lg (by omega), fun j hj => (h.qq (by omega) _).trans (v6 j hj), fun j hj => (h.qq (by omega) _).trans (v7 j hj)⟩
theorem VR.wR {r i : List (Nat × Nat)} {n1 n2 k d : Nat} (V : VR X v r i n1 n2) (hk : ∀ e, e ∈ r → e.1 ≠ k) : VR (wR X v k (some (v + d))) v ((k, d) :: r) i n1 n2 := by
  obtain ⟨v1, v2, v3, v4, v5, v6, v7⟩ := V
  refine ⟨v1, fun e he => ?_, v3, v4, v5, v6, v7⟩
  rcases List.mem_cons.mp he with rfl | q
  · exact if_pos ⟨rfl, rfl⟩
  · exact (if_neg (fun z => hk e q z.2)).trans (v2 e q)
theorem uQ_of {a t ci j n q : Nat} (h : ar X a (20 + t) n) (hq : xKd X q = ci + 1) (hj : j < n) (hn : n < 2 ^ 31) : uQ X a t ci (nI j) q = some (wQ X a j (some q)) := by
  unfold uQ
  rw [if_pos ⟨h.1, hq, by rw [h.2]; exact in_nI hj hn⟩, nI_clamp (by omega)]
theorem VR.q1 {r i : List (Nat × Nat)} {n1 n2 : Nat} (V : VR X v r i n1 n2) : VR (wQ X (v + 1) n1 (some (cR v n1))) v r i (n1 + 1) n2 := by
  obtain ⟨v1, v2, v3, v4, v5, v6, v7⟩ := V
  refine ⟨v1, v2, v3, v4, v5, fun j hj => ?_, fun j hj => (if_neg (fun z => by omega)).trans (v7 j hj)⟩
  by_cases e : j = n1
  · rw [e]
    exact if_pos ⟨rfl, rfl⟩
  · exact (if_neg (fun z => e z.2)).trans (v6 j (by omega))
theorem VR.q2 {r i : List (Nat × Nat)} {n1 n2 : Nat} (V : VR X v r i n1 n2) : VR (wQ X (v + 2) n2 (some (cM v n2))) v r i n1 (n2 + 1) := by
  obtain ⟨v1, v2, v3, v4, v5, v6, v7⟩ := V
  refine ⟨v1, v2, v3, v4, v5, fun j hj => (if_neg (fun z => by omega)).trans (v6 j hj), fun j hj => ?_⟩
  by_cases e : j = n2
  · rw [e]
    exact if_pos ⟨rfl, rfl⟩
  · exact (if_neg (fun z => e z.2)).trans (v7 j (by omega))
/-- a part's making leaves what was made before -/
abbrev Bf (v n a : Nat) : Prop := v + 2 < a ∧ a < n
theorem ph_read {r i : List (Nat × Nat)} {j n2 : Nat} (V : VR X v r i j n2) (h0 : (0, 1) ∈ r) (hj : j < 4) (hz : X.1 = cR v j) : ∃ X1, (∀ f : XW → Option XW, (gR X v 9 0 >>= fun q33 => fX4_init ((nO X 4).1) (nO X 4).2 >>= fun X35 => uQ X35 q33 5 4 (nI j) ((nO X 4).1) >>= f) = f X1) ∧ X1.1 = cR v (j + 1) ∧ VR X1 v r i (j + 1) n2 ∧ xap (Bf v (cR v j)) X X1 ∧ xag v X X1 ∧ LRd X1 (cR v j) ∧ CRd X1 (cR v j) d0 := by
  obtain ⟨A, a1, a2, a3, a4, a5⟩ := n_read (X := wN X 5 0) (q := cR v j) (by rw [kd_wN, if_pos hz.symm]) (by show X.1 + 1 = _; rw [hz])
  have g : xag (cR v j) X A := (xag.wN (by omega)).tr a3
  have VA := V.ag g (by unfold cR; omega)
  have hap : xap (fun a => a ≠ v + 1) A (wQ A (v + 1) j (some (cR v j))) := xap.wQ (fun b hb => hb)
  refine ⟨wQ A (v + 1) j (some (cR v j)), fun f => ?_, ?_, VA.q1, (g.ap (fun a ha => ha.2)).tr (xap.wQ (fun b hb => by have := hb.1; omega)), ?_, a4.lg hap.lg (fun a q1 q2 => by unfold cR at q1; omega), a5.ap hap (fun a q1 q2 => by unfold cR at q1; omega)⟩
  · show (gR X v 9 0 >>= fun q33 => fX4_init X.1 (wN X 5 0) >>= fun X35 => uQ X35 q33 5 4 (nI j) X.1 >>= f) = _
    rw [gR_of V.1 (V.2.1 _ h0), sb, hz, a1, sb, uQ_of VA.2.2.2.1 a4.1 hj (by decide), sb]
  · show A.1 = _
    rw [a2]
    unfold cR
    omega
  · exact (g.le (by unfold cR; omega)).tr ⟨Nat.le_refl _, fun a ha => ⟨rfl, rfl, rfl, rfl, rfl, funext fun j => if_neg (fun z => by omega)⟩⟩
theorem ph_mann {r i : List (Nat × Nat)} {j n1 : Nat} (V : VR X v r i n1 j) (h0 : (3, 2) ∈ r) (hj : j < 4) (hz : X.1 = cM v j) : ∃ X1, (∀ f : XW → Option XW, (gR X v 9 3 >>= fun q33 => fX2_init ((nO X 2).1) (nO X 2).2 >>= fun X35 => uQ X35 q33 4 2 (nI j) ((nO X 2).1) >>= f) = f X1) ∧ X1.1 = cM v (j + 1) ∧ VR X1 v r i n1 (j + 1) ∧ xap (Bf v (cM v j)) X X1 ∧ xag v X X1 ∧ LMn X1 (cM v j) 0 99 99 ∧ xR X1 (cM v j) 0 = some (cM v j + 1) ∧ CRu X1 (cM v j + 1) 0 (fun _ => l00) := by
  obtain ⟨A, a1, a2, a3, a4, a5, a6⟩ := n_mann (X := wN X 3 0) (m := cM v j) (by rw [kd_wN, if_pos hz.symm]) (by show X.1 + 1 = _; rw [hz])
  have g : xag (cM v j) X A := (xag.wN (by omega)).tr a3
  have VA := V.ag g (by unfold cM; omega)
  refine ⟨wQ A (v + 2) j (some (cM v j)), fun f => ?_, ?_, VA.q2, (g.ap (fun a ha => ha.2)).tr (xap.wQ (fun b hb => by have := hb.1; omega)), ?_, a4, a5, ⟨a6.1.1, a6.1.2.1, a6.1.2.2⟩, a6.2⟩
  · show (gR X v 9 3 >>= fun q33 => fX2_init X.1 (wN X 3 0) >>= fun X35 => uQ X35 q33 4 2 (nI j) X.1 >>= f) = _
    rw [gR_of V.1 (V.2.1 _ h0), sb, hz, a1, sb, uQ_of VA.2.2.2.2.1 a4.1 hj (by decide), sb]
  · show A.1 = _
    rw [a2]
    unfold cM
    omega
  · exact (g.le (by unfold cM; omega)).tr ⟨Nat.le_refl _, fun a ha => ⟨rfl, rfl, rfl, rfl, rfl, funext fun j => if_neg (fun z => by omega)⟩⟩
theorem ph_shape {r i : List (Nat × Nat)} {n1 n2 s k : Nat} (V : VR X v r i n1 n2) (hz : X.1 = v + s) (hs : 3 ≤ s) (hk : ∀ e, e ∈ r → e.1 ≠ k) : ∃ X1, (∀ f : XW → Option XW, (fX6_init ((nO X 6).1) (nO X 6).2 >>= fun X25 => pR X25 v 9 k ((nO X 6).1) >>= f) = f X1) ∧ X1.1 = v + s + 24 ∧ VR X1 v ((k, s) :: r) i n1 n2 ∧ xap (Bf v (v + s)) X X1 ∧ xag v X X1 ∧ LSh X1 (v + s) ∧ xI X1 (v + s) 2 = -1 := by
  obtain ⟨A, a1, a2, a3, a4, a5⟩ := n_shape (X := wN X 7 0) (s := v + s) (by rw [kd_wN, if_pos hz.symm]) (by show X.1 + 1 = _; rw [hz])
  have g : xag (v + s) X A := (xag.wN (by omega)).tr a3
  have VA := V.ag g (by omega)
  have hap : xap (fun a => a ≠ v) A (wR A v k (some (v + s))) := xap.wR (fun b hb => hb)
  refine ⟨wR A v k (some (v + s)), fun f => ?_, a2, VA.wR hk, (g.ap (fun a ha => ha.2)).tr (xap.wR (fun b hb => by have := hb.1; omega)), (g.le (by omega)).tr (xag.wR (Nat.le_refl _)), a4.lg hap.lg (fun a q1 q2 => by omega), a5⟩
  show (fX6_init X.1 (wN X 7 0) >>= fun X25 => pR X25 v 9 k X.1 >>= f) = _
  rw [hz, a1, sb, pR_w VA.1, sb]
theorem Bf_wk {n m : Nat} (h : xap (Bf v n) X X1) (hm : m ≤ n) : xap (Bf v m) X X1 := h.wk (fun _ ha => ⟨ha.1, Nat.lt_of_lt_of_le ha.2 hm⟩)
theorem c_in0 (h : xKd X v = 10) (hz : X.1 = v + 1) : ∃ G, (∀ f : XW → Option XW, (pR (nQ X 5 4).2 v 9 0 ((nQ X 5 4).1) >>= fun X1 => pI X1 v 9 1 1 >>= fun X3 => pI X3 v 9 2 0 >>= fun X5 => pR (nQ X5 4 4).2 v 9 3 ((nQ X5 4 4).1) >>= fun X7 => pI X7 v 9 4 0 >>= fun X9 => pI X9 v 9 5 6 >>= fun X11 => pI X11 v 9 6 1 >>= fun X13 => pI X13 v 9 7 1 >>= f) = f G) ∧ G.1 = v + 3 ∧ VR G v [(3, 2), (0, 1)] [(1, 1), (2, 0), (4, 0), (5, 6), (6, 1), (7, 1)] 0 0 ∧ xag v X G := by
  generalize hB : wR (wN X 25 4) v 0 (some (v + 1)) = B
  have kB : xKd B v = 9 + 1 := by rw [← hB]; show xKd (wN X 25 4) v = _; rw [kd_wN, if_neg (by omega)]; exact h
  have zB : B.1 = v + 2 := by rw [← hB]; show X.1 + 1 = _; omega
  have rB : xR B v 0 = some (v + 1) := by rw [← hB]; exact if_pos ⟨rfl, rfl⟩
  have aB : ar B (v + 1) 25 4 := by
    rw [← hB]
    refine ⟨?_, ?_⟩
    · show xKd (wN X 25 4) (v + 1) = _
      rw [kd_wN, if_pos hz.symm]
    · show xLn (wN X 25 4) (v + 1) = _
      rw [ln_wN, if_pos hz.symm]
  have gB : xag v X B := by rw [← hB]; exact (xag.wN (by omega)).tr (xag.wR (Nat.le_refl _))
  generalize hD : wI (wI B v 1 1) v 2 0 = D
  have kD : xKd D v = 9 + 1 := by rw [← hD]; exact kB
  have zD : D.1 = v + 2 := by rw [← hD]; exact zB
  have rD : xR D v 0 = some (v + 1) := by rw [← hD]; exact rB
  have aD : ar D (v + 1) 25 4 := by rw [← hD]; exact aB
  have iD : xI D v 1 = 1 ∧ xI D v 2 = 0 := by
    rw [← hD]
    exact ⟨by rw [xI_wn (by decide), xI_we], by rw [xI_we]⟩
  have gD : xag v B D := by rw [← hD]; exact (xag.wI (Nat.le_refl _)).tr (xag.wI (Nat.le_refl _))
  generalize hE : wR (wN D 24 4) v 3 (some (v + 2)) = E
  have kE : xKd E v = 9 + 1 := by rw [← hE]; show xKd (wN D 24 4) v = _; rw [kd_wN, if_neg (by omega)]; exact kD
  have zE : E.1 = v + 3 := by rw [← hE]; show D.1 + 1 = _; omega
  have rE : xR E v 0 = some (v + 1) ∧ xR E v 3 = some (v + 2) := by
    rw [← hE]
    refine ⟨(if_neg (fun z => absurd z.2 (by decide))).trans ?_, if_pos ⟨rfl, rfl⟩⟩
    exact (if_neg (by omega)).trans rD
  have aE : ar E (v + 1) 25 4 ∧ ar E (v + 2) 24 4 := by
    rw [← hE]
    refine ⟨⟨?_, ?_⟩, ?_, ?_⟩
    · show xKd (wN D 24 4) (v + 1) = _
      rw [kd_wN, if_neg (by omega)]; exact aD.1
    · show xLn (wN D 24 4) (v + 1) = _
      rw [ln_wN, if_neg (by omega)]; exact aD.2
    · show xKd (wN D 24 4) (v + 2) = _
      rw [kd_wN, if_pos zD.symm]
    · show xLn (wN D 24 4) (v + 2) = _
      rw [ln_wN, if_pos zD.symm]
  have iE : xI E v = xI D v := by rw [← hE]; show xI (wN D 24 4) v = _; rw [xI_wN, if_neg (by omega)]
  have gE : xag v D E := by rw [← hE]; exact (xag.wN (by omega)).tr (xag.wR (Nat.le_refl _))
  generalize hG : wI (wI (wI (wI E v 4 0) v 5 6) v 6 1) v 7 1 = G
  have zG' : G.1 = v + 3 := by rw [← hG]; exact zE
  have VG : VR G v [(3, 2), (0, 1)] [(1, 1), (2, 0), (4, 0), (5, 6), (6, 1), (7, 1)] 0 0 := by
    rw [← hG]
    refine ⟨kE, fun e he => ?_, fun e he => ?_, aE.1, aE.2, fun j hj => absurd hj (Nat.not_lt_zero _), fun j hj => absurd hj (Nat.not_lt_zero _)⟩
    · simp only [List.mem_cons, List.not_mem_nil, or_false] at he
      rcases he with rfl | rfl
      · exact rE.2
      · exact rE.1
    · simp only [List.mem_cons, List.not_mem_nil, or_false] at he
      rcases he with rfl | rfl | rfl | rfl | rfl | rfl
      · rw [xI_wn (by decide), xI_wn (by decide), xI_wn (by decide), xI_wn (by decide), iE]; exact iD.1
      · rw [xI_wn (by decide), xI_wn (by decide), xI_wn (by decide), xI_wn (by decide), iE]; exact iD.2
      · rw [xI_wn (by decide), xI_wn (by decide), xI_wn (by decide), xI_we]; rfl
      · rw [xI_wn (by decide), xI_wn (by decide), xI_we]; rfl
      · rw [xI_wn (by decide), xI_we]; rfl
      · rw [xI_we]; rfl
  have gG : xag v E G := by rw [← hG]; exact (((xag.wI (Nat.le_refl _)).tr (xag.wI (Nat.le_refl _))).tr (xag.wI (Nat.le_refl _))).tr (xag.wI (Nat.le_refl _))
  refine ⟨G, fun f => ?_, zG', VG, ((gB.tr gD).tr gE).tr gG⟩
  show (pR (wN X 25 4) v 9 0 X.1 >>= fun X1 => pI X1 v 9 1 1 >>= fun X3 => pI X3 v 9 2 0 >>= fun X5 => pR (wN X5 24 4) v 9 3 X5.1 >>= fun X7 => pI X7 v 9 4 0 >>= fun X9 => pI X9 v 9 5 6 >>= fun X11 => pI X11 v 9 6 1 >>= fun X13 => pI X13 v 9 7 1 >>= f) = _
  rw [pR_w (show xKd (wN X 25 4) v = 9 + 1 by rw [kd_wN, if_neg (by omega)]; exact h), sb, hz, hB, pI_of kB, sb, pI_of (show xKd (wI B v 1 1) v = 9 + 1 from kB), sb, hD, pR_w (show xKd (wN D 24 4) v = 9 + 1 by rw [kd_wN, if_neg (by omega)]; exact kD), sb, zD, hE, pI_of kE, sb, pI_of (show xKd (wI E v 4 0) v = 9 + 1 from kE), sb, pI_of (show xKd (wI (wI E v 4 0) v 5 6) v = 9 + 1 from kE), sb, pI_of (show xKd (wI (wI (wI E v 4 0) v 5 6) v 6 1) v = 9 + 1 from kE), sb, hG]
theorem c_in1 {G : XW} (zG' : G.1 = v + 3) (VG : VR G v [(3, 2), (0, 1)] [(1, 1), (2, 0), (4, 0), (5, 6), (6, 1), (7, 1)] 0 0) : ∃ K1, (∀ f : XW → Option XW, (fX7_init ((nO G 7).1) (nO G 7).2 >>= fun X17 => pR X17 v 9 8 ((nO G 7).1) >>= fun X19 => fX0_init ((nO X19 0).1) (nO X19 0).2 >>= fun X21 => pR X21 v 9 9 ((nO X19 0).1) >>= f) = f K1) ∧ K1.1 = v + 7 ∧ VR K1 v [(9, 5), (8, 3), (3, 2), (0, 1)] [(1, 1), (2, 0), (4, 0), (5, 6), (6, 1), (7, 1)] 0 0 ∧ xag v G K1 ∧ (xKd K1 (v + 3) = 8 ∧ xR K1 (v + 3) 0 = some (v + 4) ∧ ar K1 (v + 4) 20 1000 ∧ xI K1 (v + 3) 1 = 0) ∧ xKd K1 (v + 5) = 1 ∧ xR K1 (v + 5) 0 = some (v + 6) ∧ ar K1 (v + 6) 21 16 := by
  obtain ⟨T0, t1, t2, t3, t4, t5, t6, t7⟩ := n_tape (X := wN G 8 0) (p := v + 3) (by rw [kd_wN, if_pos zG'.symm]) (by show G.1 + 1 = _; omega)
  have gT : xag (v + 3) G T0 := (xag.wN (by omega)).tr t3
  have VT0 := VG.ag gT (Nat.le_refl _)
  generalize hT1 : wR T0 v 8 (some (v + 3)) = T1
  have VT := VT0.wR (k := 8) (d := 3) (by decide)
  rw [hT1] at VT
  have zT : T1.1 = v + 5 := by rw [← hT1]; exact t2
  have pT : xKd T1 (v + 3) = 8 ∧ xR T1 (v + 3) 0 = some (v + 4) ∧ ar T1 (v + 4) 20 1000 ∧ xI T1 (v + 3) 1 = 0 := by
    rw [← hT1]
    exact ⟨t4, (if_neg (fun z => by omega)).trans t5, t6, t7⟩
  have gT1 : xag v T0 T1 := by rw [← hT1]; exact xag.wR (Nat.le_refl _)
  obtain ⟨K0, k1, k2, k3, k4, k5, k6⟩ := n_calc (X := wN T1 1 0) (p := v + 5) (by rw [kd_wN, if_pos zT.symm]) (by show T1.1 + 1 = _; omega)
  have gK0 : xag (v + 5) T1 K0 := (xag.wN (by omega)).tr k3
  have VK0 := VT.ag gK0 (by omega)
  generalize hK1 : wR K0 v 9 (some (v + 5)) = K1
  have VK := VK0.wR (k := 9) (d := 5) (by decide)
  rw [hK1] at VK
  have zK : K1.1 = v + 7 := by rw [← hK1]; exact k2
  have pK : xKd K1 (v + 5) = 1 ∧ xR K1 (v + 5) 0 = some (v + 6) ∧ ar K1 (v + 6) 21 16 := by
    rw [← hK1]
    exact ⟨k4, (if_neg (fun z => by omega)).trans k5, k6⟩
  have aK : xap (Bf v (v + 5)) T1 K1 := by
    rw [← hK1]
    exact (gK0.ap (fun a ha => ha.2)).tr (xap.wR (fun b hb => by have := hb.1; omega))
  have gK1 : xag v T1 K1 := by rw [← hK1]; exact (gK0.le (by omega)).tr (xag.wR (Nat.le_refl _))
  have lt := aK.lg
  have h3 : Bf v (v + 5) (v + 3) := ⟨by omega, by omega⟩
  have h4 : Bf v (v + 5) (v + 4) := ⟨by omega, by omega⟩
  refine ⟨K1, fun f => ?_, zK, VK, ((gT.le (by omega)).tr gT1).tr gK1, ⟨(lt.kd h3).trans pT.1, (lt.rr h3 0).trans pT.2.1, pT.2.2.1.lg lt h4, ?_⟩, pK⟩
  · show (fX7_init G.1 (wN G 8 0) >>= fun X17 => pR X17 v 9 8 G.1 >>= fun X19 => fX0_init X19.1 (wN X19 1 0) >>= fun X21 => pR X21 v 9 9 X19.1 >>= f) = _
    rw [zG', t1, sb, pR_w VT0.1, sb, hT1, zT, k1, sb, pR_w VK0.1, sb, hK1]
  · rw [(aK (v + 3) h3).2.1]
    exact pT.2.2.2
theorem c_in2 {S2 : XW} {r i : List (Nat × Nat)} (V : VR S2 v r i 0 0) (h0 : (0, 1) ∈ r) (hz : S2.1 = cR v 0) : ∃ R3, (∀ f : XW → Option XW, (gR S2 v 9 0 >>= fun q33 => fX4_init ((nO S2 4).1) (nO S2 4).2 >>= fun X35 => uQ X35 q33 5 4 0 ((nO S2 4).1) >>= fun X37 => gR X37 v 9 0 >>= fun q39 => fX4_init ((nO X37 4).1) (nO X37 4).2 >>= fun X41 => uQ X41 q39 5 4 1 ((nO X37 4).1) >>= fun X43 => gR X43 v 9 0 >>= fun q45 => fX4_init ((nO X43 4).1) (nO X43 4).2 >>= fun X47 => uQ X47 q45 5 4 2 ((nO X43 4).1) >>= fun X49 => gR X49 v 9 0 >>= fun q51 => fX4_init ((nO X49 4).1) (nO X49 4).2 >>= fun X53 => uQ X53 q51 5 4 3 ((nO X49 4).1) >>= f) = f R3) ∧ R3.1 = cR v 4 ∧ VR R3 v r i 4 0 ∧ xap (Bf v (cR v 0)) S2 R3 ∧ xag v S2 R3 ∧ ∀ i, i < 4 → LRd R3 (cR v i) ∧ CRd R3 (cR v i) d0 := by
  obtain ⟨R0, r01, r02, VR0, ar0, gr0, lr0, cr0⟩ := ph_read V h0 (by decide) hz
  obtain ⟨R1, r11, r12, VR1, ar1, gr1, lr1, cr1⟩ := ph_read VR0 h0 (by decide) r02
  obtain ⟨R2, r21, r22, VR2, ar2, gr2, lr2, cr2⟩ := ph_read VR1 h0 (by decide) r12
  obtain ⟨R3, r31, r32, VR3, ar3, gr3, lr3, cr3⟩ := ph_read VR2 h0 (by decide) r22
  have mn : ∀ a b, a ≤ b → cR v a ≤ cR v b := fun a b h => by unfold cR; omega
  have f2 : xap (Bf v (cR v 3)) R2 R3 := ar3
  have f1 : xap (Bf v (cR v 2)) R1 R3 := xap.tr ar2 (Bf_wk f2 (mn _ _ (by decide)))
  have f0 : xap (Bf v (cR v 1)) R0 R3 := xap.tr ar1 (Bf_wk f1 (mn _ _ (by decide)))
  have fS : xap (Bf v (cR v 0)) S2 R3 := xap.tr ar0 (Bf_wk f0 (mn _ _ (by decide)))
  have bb : ∀ j a, cR v j ≤ a → a < cR v j + 10 → Bf v (cR v (j + 1)) a := fun j a q1 q2 => by
    unfold cR at *
    exact ⟨by omega, by omega⟩
  refine ⟨R3, fun f => ?_, r32, VR3, fS, ((gr0.tr gr1).tr gr2).tr gr3, fun i hi => ?_⟩
  · exact (r01 _).trans ((r11 _).trans ((r21 _).trans (r31 f)))
  · match i, hi with
    | 0, _ => exact ⟨lr0.lg f0.lg (bb 0), cr0.ap f0 (bb 0)⟩
    | 1, _ => exact ⟨lr1.lg f1.lg (bb 1), cr1.ap f1 (bb 1)⟩
    | 2, _ => exact ⟨lr2.lg f2.lg (bb 2), cr2.ap f2 (bb 2)⟩
    | 3, _ => exact ⟨lr3, cr3⟩
theorem mk_ap {W Z : XW} {m : Nat} {Q : Nat → Prop} (hq : xap Q W Z) (hQ : ∀ a, cM v m ≤ a → a < cM v m + 8 → Q a) (a1 : LMn W (cM v m) 0 99 99) (a2 : xR W (cM v m) 0 = some (cM v m + 1)) (a3 : CRu W (cM v m + 1) 0 (fun _ => l00)) : LMn Z (cM v m) 0 99 99 ∧ xR Z (cM v m) 0 = some (cM v m + 1) ∧ CRu Z (cM v m + 1) 0 (fun _ => l00) := by
  have hm := hq (cM v m) (hQ _ (by omega) (by omega))
  refine ⟨⟨(hq.lg.kd (hQ _ (by omega) (by omega))).trans a1.1, ?_⟩, (hq.lg.rr (hQ _ (by omega) (by omega)) 0).trans a2, a3.1.lg hq.lg (fun a q1 q2 => hQ a (by omega) (by omega)), ?_, a3.2.2.1, fun n hn => absurd hn (Nat.not_lt_zero _)⟩
  · rw [hm.2.1]
    exact a1.2
  · rw [(hq (cM v m + 1) (hQ _ (by omega) (by omega))).2.1]
    exact a3.2.1
theorem c_in3 {R3 : XW} {r i : List (Nat × Nat)} (V : VR R3 v r i 4 0) (h0 : (3, 2) ∈ r) (hz : R3.1 = cM v 0) : ∃ Z, (∀ f : XW → Option XW, (gR R3 v 9 3 >>= fun q57 => fX2_init ((nO R3 2).1) (nO R3 2).2 >>= fun X59 => uQ X59 q57 4 2 0 ((nO R3 2).1) >>= fun X61 => gR X61 v 9 3 >>= fun q63 => fX2_init ((nO X61 2).1) (nO X61 2).2 >>= fun X65 => uQ X65 q63 4 2 1 ((nO X61 2).1) >>= fun X67 => gR X67 v 9 3 >>= fun q69 => fX2_init ((nO X67 2).1) (nO X67 2).2 >>= fun X71 => uQ X71 q69 4 2 2 ((nO X67 2).1) >>= fun X73 => gR X73 v 9 3 >>= fun q75 => fX2_init ((nO X73 2).1) (nO X73 2).2 >>= fun X77 => uQ X77 q75 4 2 3 ((nO X73 2).1) >>= f) = f Z) ∧ Z.1 = cM v 4 ∧ VR Z v r i 4 4 ∧ xap (Bf v (cM v 0)) R3 Z ∧ xag v R3 Z ∧ ∀ m, m < 4 → LMn Z (cM v m) 0 99 99 ∧ xR Z (cM v m) 0 = some (cM v m + 1) ∧ CRu Z (cM v m + 1) 0 (fun _ => l00) := by
  obtain ⟨N0, m01, m02, VN0, an0, gn0, lm0, rm0, cm0⟩ := ph_mann V h0 (by decide) hz
  obtain ⟨N1, m11, m12, VN1, an1, gn1, lm1, rm1, cm1⟩ := ph_mann VN0 h0 (by decide) m02
  obtain ⟨N2, m21, m22, VN2, an2, gn2, lm2, rm2, cm2⟩ := ph_mann VN1 h0 (by decide) m12
  obtain ⟨Z, m31, m32, VZ, an3, gn3, lm3, rm3, cm3⟩ := ph_mann VN2 h0 (by decide) m22
  have mn : ∀ a b, a ≤ b → cM v a ≤ cM v b := fun a b h => by unfold cM; omega
  have e2 : xap (Bf v (cM v 3)) N2 Z := an3
  have e1 : xap (Bf v (cM v 2)) N1 Z := xap.tr an2 (Bf_wk e2 (mn _ _ (by decide)))
  have e0 : xap (Bf v (cM v 1)) N0 Z := xap.tr an1 (Bf_wk e1 (mn _ _ (by decide)))
  have eR : xap (Bf v (cM v 0)) R3 Z := xap.tr an0 (Bf_wk e0 (mn _ _ (by decide)))
  have bb : ∀ j a, cM v j ≤ a → a < cM v j + 8 → Bf v (cM v (j + 1)) a := fun j a q1 q2 => by
    unfold cM at *
    exact ⟨by omega, by omega⟩
  refine ⟨Z, fun f => ?_, m32, VZ, eR, ((gn0.tr gn1).tr gn2).tr gn3, fun m hm => ?_⟩
  · exact (m01 _).trans ((m11 _).trans ((m21 _).trans (m31 f)))
  · match m, hm with
    | 0, _ => exact mk_ap e0 (bb 0) lm0 rm0 cm0
    | 1, _ => exact mk_ap e1 (bb 1) lm1 rm1 cm1
    | 2, _ => exact mk_ap e2 (bb 2) lm2 rm2 cm2
    | 3, _ => exact ⟨lm3, rm3, cm3⟩
theorem c_init (h : xKd X v = 10) (hz : X.1 = v + 1) : ∃ X1, fX9_init v X = some X1 ∧ X1.1 = v + 127 ∧ xag v X X1 ∧ CSt X1 v t00 ∧ xI X1 (v + 7) 2 = -1 ∧ xI X1 (v + 31) 2 = -1 := by
  obtain ⟨G, g1, g2, VG, gG⟩ := c_in0 h hz
  obtain ⟨K1, k1, k2, VK, gK1, pT, pK⟩ := c_in1 g2 VG
  obtain ⟨S1, s1, s2, VS1, as1, gs1, ls1, is1⟩ := ph_shape (s := 7) (k := 10) VK k2 (by decide) (by decide)
  obtain ⟨S2, u1, u2, VS2, as2, gs2, ls2, is2⟩ := ph_shape (s := 31) (k := 11) VS1 (by rw [s2]) (by decide) (by decide)
  have c0 : cR v 0 = v + 55 := rfl
  have c4 : cR v 4 = v + 95 := rfl
  have d0 : cM v 0 = v + 95 := rfl
  have d4 : cM v 4 = v + 127 := rfl
  obtain ⟨R3, r1, r2, VR3, aR, gR, hLR⟩ := c_in2 VS2 (by decide) (by rw [u2, c0])
  obtain ⟨Z, m1, m2, VZ, aZ, gZ, hMn⟩ := c_in3 VR3 (by decide) (by rw [r2, c4, d0])
  rw [c0] at aR
  rw [d0] at aZ
  rw [d4] at m2
  have w2 : xap (Bf v (v + 55)) S2 Z := aR.tr (Bf_wk aZ (Nat.add_le_add_left (by decide) v))
  have w1 : xap (Bf v (v + 31)) S1 Z := as2.tr (Bf_wk w2 (Nat.add_le_add_left (by decide) v))
  have wk : xap (Bf v (v + 7)) K1 Z := as1.tr (Bf_wk w1 (Nat.add_le_add_left (by decide) v))
  have lk := wk.lg
  have bk : ∀ j, 3 ≤ j → j < 7 → Bf v (v + 7) (v + j) := fun j q1 q2 => ⟨Nat.add_lt_add_left q1 v, Nat.add_lt_add_left q2 v⟩
  have b1 : ∀ a, v + 7 ≤ a → a < v + 7 + 24 → Bf v (v + 31) a := fun a q1 q2 => ⟨by omega, by omega⟩
  have b2 : ∀ a, v + 31 ≤ a → a < v + 31 + 24 → Bf v (v + 55) a := fun a q1 q2 => ⟨by omega, by omega⟩
  have bR : ∀ j a, j < 4 → cR v j ≤ a → a < cR v j + 10 → Bf v (v + 95) a := fun j a hj q1 q2 => by
    unfold cR at q1 q2
    exact ⟨by omega, by omega⟩
  obtain ⟨z1, z2, z3, z4, z5, z6, z7⟩ := VZ
  refine ⟨Z, ?_, m2, ((((gG.tr gK1).tr gs1).tr gs2).tr gR).tr gZ, ⟨⟨z1, z2 (0, 1) (by decide), z2 (3, 2) (by decide), z2 (8, 3) (by decide), z2 (9, 5) (by decide), z2 (10, 7) (by decide), z2 (11, 31) (by decide), z4, z5, fun i hi => ⟨z6 i hi, (hLR i hi).1.lg aZ.lg (fun a => bR i a hi)⟩, fun i hi => ⟨z7 i hi, (hMn i hi).1.1⟩, (lk.kd (bk 3 (by decide) (by decide))).trans pT.1, (lk.rr (bk 3 (by decide) (by decide)) 0).trans pT.2.1, pT.2.2.1.lg lk (bk 4 (by decide) (by decide)), (lk.kd (bk 5 (by decide) (by decide))).trans pK.1, (lk.rr (bk 5 (by decide) (by decide)) 0).trans pK.2.1, pK.2.2.lg lk (bk 6 (by decide) (by decide)), ls1.lg w1.lg b1, ls2.lg w2.lg b2⟩, z3 (1, 1) (by decide), z3 (2, 0) (by decide), z3 (4, 0) (by decide), z3 (5, 6) (by decide), z3 (6, 1) (by decide), z3 (7, 1) (by decide), ⟨?_, fun i hi => absurd hi (Nat.not_lt_zero _)⟩, fun r hr => (hLR r hr).2.ap aZ (fun a => bR r a hr), fun m hm => ⟨(hMn m hm).1, cM v m + 1, (hMn m hm).2.1, ⟨?_, ?_⟩, (hMn m hm).2.2⟩⟩, ?_, ?_⟩
  · unfold fX9_init
    exact (g1 _).trans ((k1 _).trans ((s1 _).trans ((u1 _).trans ((r1 _).trans ((m1 _).trans rfl)))))
  · rw [(wk (v + 3) (bk 3 (by decide) (by decide))).2.1]
    exact pT.2.2.2
  · unfold cM
    omega
  · rw [m2]
    unfold cM
    omega
  · rw [(w1 (v + 7) (b1 _ (by omega) (by omega))).2.1]
    exact is1
  · rw [(w2 (v + 31) (b2 _ (by omega) (by omega))).2.1]
    exact is2
end Inc
