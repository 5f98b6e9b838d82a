/-! rules: both sides -/
def xlg (P : Nat → Prop) (X X1 : XW) : Prop := ∀ a, P a → X1.2.1 a = X.2.1 a ∧ xR X1 a = xR X a ∧ xQ X1 a = xQ X a
section LGs
variable {P : Nat → Prop} {X X1 : XW}
theorem xag.lg {n : Nat} (h : xag n X X1) : xlg (fun a => a < n) X X1 := fun a ha => ⟨(h.2 a ha).1, (h.2 a ha).2.2.1, (h.2 a ha).2.2.2.2.2⟩
theorem xlg.kd {a : Nat} (h : xlg P X X1) (ha : P a) : xKd X1 a = xKd X a := congrArg (fun z => z.1) (h a ha).1
theorem xlg.ln {a : Nat} (h : xlg P X X1) (ha : P a) : xLn X1 a = xLn X a := congrArg (fun z => z.2) (h a ha).1
theorem xlg.rr {a : Nat} (h : xlg P X X1) (ha : P a) (k : Nat) : xR X1 a k = xR X a k := by rw [(h a ha).2.1]
theorem xlg.qq {a : Nat} (h : xlg P X X1) (ha : P a) (k : Nat) : xQ X1 a k = xQ X a k := by rw [(h a ha).2.2]
theorem ar.lg {a kd n : Nat} (l : ar X a kd n) (h : xlg P X X1) (ha : P a) : ar X1 a kd n := ⟨(h.kd ha).trans l.1, (h.ln ha).trans l.2⟩
theorem LSh.lg {s : Nat} (l : LSh X s) (h : xlg P X X1) (hP : ∀ a, s ≤ a → a < s + 24 → P a) : LSh X1 s := by
  obtain ⟨l1, l2, l3, l4, l5, l6, l7, l8, l9, l10, l11, l12, l13, l14⟩ := l
  have p : ∀ j, j < 24 → P (s + j) := fun j hj => hP _ (by omega) (by omega)
  exact ⟨(h.kd (p 0 (by decide))).trans l1, (h.rr (p 0 (by decide)) _).trans l2, (h.rr (p 0 (by decide)) _).trans l3, (h.kd (p 1 (by decide))).trans l4, fun j hj => (h.rr (p 1 (by decide)) _).trans (l5 j hj), l6.lg h (p 2 (by decide)), l7.lg h (p 3 (by decide)), l8.lg h (p 4 (by decide)), l9.lg h (p 5 (by decide)), l10.lg h (p 6 (by decide)), l11.lg h (p 7 (by decide)), l12.lg h (p 8 (by decide)), l13.lg h (p 9 (by decide)), fun i hi => ⟨(h.qq (p 9 (by decide)) _).trans (l14 i hi).1, (l14 i hi).2.lg h (hP _ (by omega) (by omega))⟩⟩
theorem LRd.lg {q : Nat} (l : LRd X q) (h : xlg P X X1) (hP : ∀ a, q ≤ a → a < q + 10 → P a) : LRd X1 q := by
  obtain ⟨l1, l5, l6, l7, l8, l9, l10, l11, l14⟩ := l
  have p : ∀ j, j < 10 → P (q + j) := fun j hj => hP _ (by omega) (by omega)
  exact ⟨(h.kd (p 0 (by decide))).trans l1, fun j hj => (h.rr (p 0 (by decide)) _).trans (l5 j hj), l6.lg h (p 1 (by decide)), l7.lg h (p 2 (by decide)), l8.lg h (p 3 (by decide)), l9.lg h (p 4 (by decide)), l10.lg h (p 5 (by decide)), l11.lg h (p 6 (by decide)), fun i hi => ⟨(h.qq (p 6 (by decide)) _).trans (l14 i hi).1, (l14 i hi).2.lg h (hP _ (by omega) (by omega))⟩⟩
theorem LRu.lg {R : Nat} (l : LRu X R) (h : xlg P X X1) (hP : ∀ a, R ≤ a → a < R + 7 → P a) : LRu X1 R := by
  obtain ⟨l1, l5, l6, l7, l8, l9, l10, l11, l12⟩ := l
  have p : ∀ j, j < 7 → P (R + j) := fun j hj => hP _ (by omega) (by omega)
  exact ⟨(h.kd (p 0 (by decide))).trans l1, fun j hj => (h.rr (p 0 (by decide)) _).trans (l5 j hj), l6.lg h (p 1 (by decide)), l7.lg h (p 2 (by decide)), l8.lg h (p 3 (by decide)), l9.lg h (p 4 (by decide)), l10.lg h (p 5 (by decide)), (h.kd (p 6 (by decide))).trans l11, by rw [h.ln (p 6 (by decide))]; exact l12⟩
theorem LC.lg {v : Nat} (l : LC X v) (h : xlg P X X1) (hP : ∀ a, v ≤ a → a < v + 95 → P a) (hk : ∀ i, i < 4 → xKd X1 (cM v i) = xKd X (cM v i)) : LC X1 v := by
  obtain ⟨l1, l2, l3, l4, l5, l6, l7, l8, l9, l10, l11, l12, l13, l14, l15, l16, l17, l18, l19⟩ := l
  have p : ∀ j, j < 95 → P (v + j) := fun j hj => hP _ (by omega) (by omega)
  exact ⟨(h.kd (p 0 (by decide))).trans l1, (h.rr (p 0 (by decide)) _).trans l2, (h.rr (p 0 (by decide)) _).trans l3, (h.rr (p 0 (by decide)) _).trans l4, (h.rr (p 0 (by decide)) _).trans l5, (h.rr (p 0 (by decide)) _).trans l6, (h.rr (p 0 (by decide)) _).trans l7, l8.lg h (p 1 (by decide)), l9.lg h (p 2 (by decide)), fun i hi => ⟨(h.qq (p 1 (by decide)) _).trans (l10 i hi).1, (l10 i hi).2.lg h (fun a q1 q2 => hP a (by unfold cR at q1; omega) (by unfold cR at q2; omega))⟩, fun i hi => ⟨(h.qq (p 2 (by decide)) _).trans (l11 i hi).1, (hk i hi).trans (l11 i hi).2⟩, (h.kd (p 3 (by decide))).trans l12, (h.rr (p 3 (by decide)) _).trans l13, l14.lg h (p 4 (by decide)), (h.kd (p 5 (by decide))).trans l15, (h.rr (p 5 (by decide)) _).trans l16, l17.lg h (p 6 (by decide)), l18.lg h (fun a q1 q2 => hP a (by omega) (by omega)), l19.lg h (fun a q1 q2 => hP a (by omega) (by omega))⟩
theorem LM.lg {o : Nat} (L : LM X o) (h : xlg P X X1) (hP : ∀ a, o ≤ a → a ≤ o + 41 → P a) : LM X1 o := ⟨(h.kd (hP _ (by omega) (by omega))).trans L.1, fun k hk h0 => by
  have h1 := cM_le k hk h0
  have p : P (mA o k) := hP _ (by unfold mA; omega) (by unfold mA; omega)
  exact ⟨(h.rr (hP _ (by omega) (by omega)) k).trans (L.2 k hk h0).1, (h.kd p).trans (L.2 k hk h0).2.1, (h.ln p).trans (L.2 k hk h0).2.2⟩⟩
/-- what lies behind the heap's end does not matter -/
theorem Inv.ag {v : Nat} {t : St} (I : Inv X v t) (h : xag X.1 X X1) : Inv X1 v t := by
  obtain ⟨⟨L, C1, C2, C3, C4, C5, C6, C7, C8, C9⟩, ⟨M1, M2⟩, W, c7, c31, ha, hz⟩ := I
  generalize hY : ((X1.1, X1.2.1, X.2.2.1, X1.2.2.2.1, X.2.2.2.2.1, X.2.2.2.2.2.1, X1.2.2.2.2.2.2) : XW) = Y
  have g : xlg (fun a => a < X.1) X Y := by rw [← hY]; exact fun a q => ⟨(h.2 a q).1, (h.2 a q).2.2.1, (h.2 a q).2.2.2.2.2⟩
  have LY : LC Y v := L.lg g (fun a q1 q2 => by omega) (fun i hi => g.kd (by unfold cM; omega))
  have MY : LM Y (v + 127) := M1.lg g (fun a q1 q2 => by omega)
  have aY := ha.lg g (by omega)
  have sY : Y.1 = X1.1 := by rw [← hY]
  have CY : CSt Y v t := by
    rw [← hY] at LY g ⊢
    refine ⟨LY, C1, C2, C3, C4, C5, C6, C7, C8, fun m hm => ?_⟩
    obtain ⟨c1, R, r1, r2, ⟨r3, r4, r5, r6⟩⟩ := C9 m hm
    have r2' := r2
    unfold RAd at r2
    refine ⟨⟨(g.kd (by unfold cM; omega)).trans c1.1, c1.2⟩, R, (g.rr (by unfold cM; omega) 0).trans r1, ⟨r2.1, Nat.lt_of_lt_of_le r2.2 h.1⟩, r3.lg g (fun a q1 q2 => by omega), r4, r5, fun n hn => ?_⟩
    obtain ⟨d1, d2, b, d3, d4, d5, d6, d7⟩ := r6 n hn
    exact ⟨d1, d2, b, d3, d4, d5, ⟨by rw [g.ln (by omega)]; exact d6.1, d6.2⟩, ⟨by rw [g.ln (by omega)]; exact d7.1, d7.2⟩⟩
  have MYS : MSt Y (v + 127) t := by
    rw [← hY] at MY ⊢
    exact ⟨MY, M2⟩
  have c7Y : CCa Y (v + 7) t := by
    rw [← hY]
    exact c7
  have c31Y : CCa Y (v + 31) t := by
    rw [← hY]
    exact c31
  have F : xfm (fun a => X.1 ≤ a) Y X1 := by
    rw [← hY]
    exact ⟨rfl, fun a q => ⟨(h.2 a (by omega)).2.1, (h.2 a (by omega)).2.2.2.1, (h.2 a (by omega)).2.2.2.2.1⟩⟩
  obtain ⟨L', D1, D2, D3, D4, D5, D6, D7, D8, D9⟩ := CY
  have ev : xI X1 v = xI Y v := (F.2 v (by omega)).1
  refine ⟨⟨LY.mv F, by rw [ev]; exact D1, by rw [ev]; exact D2, by rw [ev]; exact D3, by rw [ev]; exact D4, by rw [ev]; exact D5, by rw [ev]; exact D6, D7.mf F (by omega) (by omega), fun r hr => (D8 r hr).mf F (fun a q1 q2 => by unfold cR at q2; omega), fun m hm => ?_⟩, MYS.xf F (fun a q1 q2 => by omega), W, c7Y.mf F (fun a q1 q2 => by omega), c31Y.mf F (fun a q1 q2 => by omega), aY.mv F, Nat.le_trans hz h.1⟩
  obtain ⟨-, R0, r1', r2', -⟩ := C9 m hm
  obtain ⟨c1, R, r1, r2, r3⟩ := D9 m hm
  have e0 : R = R0 := by
    rw [g.rr (by unfold cM; omega) 0, r1'] at r1
    exact (Option.some.inj r1).symm
  subst e0
  unfold RAd at r2'
  exact ⟨c1.mf F (by unfold cM; omega), R, (F.rr _ _).trans r1, by rw [← sY]; exact r2, r3.mf F (fun a q1 q2 => by omega)⟩
end LGs
section Rul
variable {X : XW} {v : Nat} {t : St}
theorem afr_W {s : RS} (W : WSt t) (h : s.2.2.2 = 0 → s.2.1 ≤ 24 ∧ ∀ m, m < s.2.1 → okL (s.2.2.1 m)) : WSt (afr t s) := by
  obtain ⟨W1, W2, W3, W4, W5, W6, W7, W8, W9, W10, W11, W12, W13, W14⟩ := W
  refine ⟨W1, W2, W3, W4, W5, W6, fun m hm => ?_, W8, W9, W10, W11, W12, W13, Nat.zero_le _, fun i hi => absurd hi (Nat.not_lt_zero _)⟩
  obtain ⟨o1, o2, o3, o4, o5⟩ := W7 m hm
  unfold okM
  rw [(afr_L t s m).1, (afr_L t s m).2.1, (afr_L t s m).2.2]
  refine ⟨o1, o2, o3, o4, ?_⟩
  by_cases q : s.2.2.2 = 0 ∧ m = tJ t
  · rw [afr_y q]
    exact (h q.1).2
  · rw [afr_n q]
    exact o5
theorem p_rules (I : Inv X v t) : ∃ a X1 X2 t', fX9_rules v X = some (a, X1) ∧ fX10_rules (v + 127) X1 = some (a, X2) ∧ Inv X2 v t' := by
  have hz := I.2.2.2.2.2.2
  have W := I.2.2.1
  have hT : tT t ≤ 1000 := W.2.2.2.2.2.2.2.2.2.2.2.2.2.1
  have hch := W.2.2.2.2.2.2.2.2.2.2.2.2.2.2
  have hJ : tJ t < 4 := W.2.2.2.2.2.1
  have I0 : Inv (wN X 2 0) v t := I.ag (xag.wN (Nat.le_refl _))
  obtain ⟨A, a1, a2, a3, a4, a5, a6, a7, a8, a9, a10, a11, a12, a13⟩ := n_gram hT X
  have IA := I.ag a3
  have LA := IA.1.1
  have hx : CTx A (v + 3) (tT t) (tA t) := ⟨LA.tp.1, LA.tp.2.1, LA.tp.2.2, IA.1.2.2.2.2.2.2.2.1.1, hT, fun i hi => ⟨IA.1.2.2.2.2.2.2.2.1.2 i hi, hch i hi⟩⟩
  obtain ⟨B, k, b1, FB, b2, b3, b4, b5⟩ := c_text hx (by omega) a4 a5 a6 a7 a8 a9 a10 a11 a12 a13
  generalize hs : rrun (kdT (tA t) (tT t)) (plT (tA t) (tT t)) k = s at *
  have gB : xag X.1 X B := a3.tr (xag.xf FB (fun a q1 q2 => by omega))
  have IB := I.ag gB
  have LB := IB.1.1
  have zB : B.1 = X.1 + 11 := FB.sz.trans a2
  generalize hD : wI B (v + 3) 1 0 = D
  have FD : xfm (fun a => a = v + 3) B D := by rw [← hD]; exact xfm.wI rfl
  have LD := LB.mv FD
  have MD := IB.2.1.xf FD (fun a q1 q2 => by omega)
  have iD3 : xI D (v + 3) 1 = nI 0 := by rw [← hD, xI_we]; rfl
  have h5 : fX9_rules v X = (if (nI s.2.2.2 = 0 : Prop) then (gR D v 9 3 >>= fun q17 => gI D v 9 4 >>= fun v19 => aQ D q17 4 v19 >>= fun q21 => gR D X.1 1 0 >>= fun q23 => pR D q21 2 0 q23 >>= fun X25 => gK X25 v 9 >>= fun u27 => fX9_forgetShapes v X25 >>= fun X29 => some (nI s.2.2.2, X29)) else (some (nI s.2.2.2, D))) := by
    unfold fX9_rules
    show (gR (wN X 2 0) v 9 8 >>= fun q1 => gI (wN X 2 0) q1 7 1 >>= fun v3 => fX1_init X.1 v3 (wN X 2 0) >>= fun X5 => gR X5 v 9 8 >>= fun q7 => gK X5 X.1 1 >>= fun u9 => fX1_readText X.1 q7 X5 >>= fun r11 => gR r11.2 v 9 8 >>= fun q13 => pI r11.2 q13 7 1 0 >>= fun X15 => if (r11.1 = 0 : Prop) then (gR X15 v 9 3 >>= fun q17 => gI X15 v 9 4 >>= fun v19 => aQ X15 q17 4 v19 >>= fun q21 => gR X15 X.1 1 0 >>= fun q23 => pR X15 q21 2 0 q23 >>= fun X25 => gK X25 v 9 >>= fun u27 => fX9_forgetShapes v X25 >>= fun X29 => some (r11.1, X29)) else (some (r11.1, X15))) = _
    rw [gR_of I0.1.1.1 I0.1.1.2.2.2.1, sb, gI_of I0.1.1.tp.1, sb, I0.1.2.2.2.2.2.2.2.1.1, a1, sb, gR_of LA.1 LA.2.2.2.1, sb, gK_of' a4, sb, b1, sb]
    dsimp only
    rw [gR_of LB.1 LB.2.2.2.1, sb, pI_of LB.tp.1, sb, hD]
  by_cases c : s.2.2.2 = 0
  rotate_left 1
  · have ne : ¬ nI s.2.2.2 = 0 := nI_ne0 (by omega) (by omega)
    rw [if_neg ne] at h5
    obtain ⟨V, k', v1, v2, v3, v4, v5⟩ := m_rules MD W b3
    have ek : rrun (kdT (tA t) (tT t)) (plT (tA t) (tT t)) k' = s := by
      rw [← hs] at b2 ⊢
      exact rrun_un v2 b2
    rw [ek] at v1 v4 v5
    refine ⟨_, D, V, afr t s, h5, v1, ?_⟩
    have et : afr t s = (t.1, t.2.1, t.2.2.1, t.2.2.2.1, t.2.2.2.2.1, t.2.2.2.2.2.1, t.2.2.2.2.2.2.1, t.2.2.2.2.2.2.2.1, 0, t.2.2.2.2.2.2.2.2.2) := by
      have : (fun m => if s.2.2.2 = 0 ∧ m = tJ t then (qL (tM t m), qH (tM t m), qS (tM t m), s.2.1, s.2.2.1) else tM t m) = t.2.2.2.1 := funext fun m => if_neg (fun z => c z.1)
      unfold afr
      rw [this]
      rfl
    have WA := afr_W (t := t) (s := s) W v5
    rw [et] at v4 WA ⊢
    obtain ⟨L, C1, C2, C3, C4, C5, C6, C7, C8, C9⟩ := IB.1
    have ev : xI D v = xI B v := (FD.2 v (by omega)).1
    refine ⟨CSt.mx (X := D) ?_ v3, v4, WA, (IB.2.2.2.1.mf FD (fun a q1 q2 => by omega)).mf v3.xf (fun a q1 q2 => by omega), (IB.2.2.2.2.1.mf FD (fun a q1 q2 => by omega)).mf v3.xf (fun a q1 q2 => by omega), (IB.2.2.2.2.2.1.mv FD).mv v3.xf, by rw [v3.xf.sz, FD.sz]; exact IB.2.2.2.2.2.2⟩
    exact ⟨LD, by rw [ev]; exact C1, by rw [ev]; exact C2, by rw [ev]; exact C3, by rw [ev]; exact C4, by rw [ev]; exact C5, by rw [ev]; exact C6, ⟨iD3, fun i hi => absurd hi (Nat.not_lt_zero _)⟩, fun r hr => (C8 r hr).mf FD (fun a q1 q2 => by unfold cR at q1; omega), fun m hm => (C9 m hm).mf FD (by unfold cM; omega) (fun a ha => by unfold SC; omega)⟩
  rw [c, if_pos nI_0] at h5
  have kJ := LD.mn hJ
  have rg : xR D X.1 0 = some (X.1 + 1) := by rw [FD.rr, FB.rr]; exact a5
  have kg : xKd D X.1 = 2 := by rw [FD.kd, FB.kd]; exact a4
  have iJ : xI D v 4 = nI (tJ t) := by rw [(FD.2 v (by omega)).1]; exact IB.1.2.2.2.1
  generalize hE : wR D (cM v (tJ t)) 0 (some (X.1 + 1)) = E
  have gE : xlg (fun a => a ≠ cM v (tJ t)) D E := by
    rw [← hE]
    exact fun a ha => ⟨rfl, funext fun j => if_neg (fun z => ha z.1), rfl⟩
  have LE : LC E v := LD.lg gE (fun a q1 q2 => by unfold cM; omega) (fun i _ => by rw [← hE]; rfl)
  have ME : MSt E (v + 127) t := by
    have l1 : LM E (v + 127) := MD.1.lg gE (fun a q1 q2 => by unfold cM; omega)
    rw [← hE] at l1 ⊢
    exact ⟨l1, MD.2⟩
  have aE : ar E (v + 169) 22 1 := (IB.2.2.2.2.2.1.mv FD).lg gE (by unfold cM; omega)
  have zE : E.1 = X.1 + 11 := by rw [← hE]; exact FD.sz.trans zB
  have FZ := wFs_f E v
  have MZ := ME.xf FZ (fun a q1 q2 => by omega)
  obtain ⟨V, k', v1, v2, v3, v4, v5⟩ := m_rules MZ W b3
  have ek : rrun (kdT (tA t) (tT t)) (plT (tA t) (tT t)) k' = s := by
    rw [← hs] at b2 ⊢
    exact rrun_un v2 b2
  rw [ek] at v1 v4 v5
  have h6 : fX9_rules v X = some (nI 0, wFs E v) := by
    rw [h5, gR_of LD.1 LD.2.2.1, sb, gI_of LD.1, sb, iJ, kJ.1, sb, gR_of kg rg, sb]
    unfold pR
    rw [if_pos kJ.2, sb, hE, gK_of' LE.1, sb, f_forget LE, sb]
  rw [c] at v1
  refine ⟨_, wFs E v, V, afr t s, h6, v1, CSt.mx (X := wFs E v) ?_ v3, v4, afr_W W v5, Or.inl ?_, Or.inl ?_, (aE.mv FZ).mv v3.xf, ?_⟩
  · obtain ⟨L, C1, C2, C3, C4, C5, C6, C7, C8, C9⟩ := IB.1
    have ev : xI (wFs E v) v = xI B v := by
      rw [(FZ.2 v (by omega)).1, ← hE]
      show xI D v = xI B v
      exact (FD.2 v (by omega)).1
    refine ⟨LE.mv FZ, by rw [ev]; exact C1, by rw [ev]; exact C2, by rw [ev]; exact C3, by rw [ev]; exact C4, by rw [ev]; exact C5, by rw [ev]; exact C6, ⟨?_, fun i hi => absurd hi (Nat.not_lt_zero _)⟩, fun r hr => ?_, fun m hm => ?_⟩
    · rw [(FZ.2 (v + 3) (by omega)).1, ← hE]
      exact iD3
    · have h0 : CRd D (cR v r) (tD t r) := (C8 r hr).mf FD (fun a q1 q2 => by unfold cR at q1; omega)
      have h1 : CRd E (cR v r) (tD t r) := by
        rw [← hE]
        exact h0
      exact h1.mf FZ (fun a q1 q2 => by unfold cR at q1; omega)
    · obtain ⟨c1, R, r1, r2, r3⟩ := C9 m hm
      have hl : LMn (wFs E v) (cM v m) (qL (tM t m)) (qH (tM t m)) (qS (tM t m)) := by
        have h0 : LMn D (cM v m) (qL (tM t m)) (qH (tM t m)) (qS (tM t m)) := c1.mf FD (by unfold cM; omega)
        have h1 : LMn E (cM v m) (qL (tM t m)) (qH (tM t m)) (qS (tM t m)) := by
          rw [← hE]
          exact h0
        exact h1.mf FZ (by unfold cM; omega)
      refine ⟨by rw [(afr_L t s m).1, (afr_L t s m).2.1, (afr_L t s m).2.2]; exact hl, ?_⟩
      have vals : ∀ (R' N : Nat) (ls : Nat → Ln), (∀ a, R' ≤ a → a < R' + 7 → a ≠ cM v (tJ t)) → v + 96 ≤ R' → CRu B R' N ls → CRu (wFs E v) R' N ls := fun R' N ls hne hle h => by
        have h1 : CRu D R' N ls := h.mf FD (fun a q1 q2 => by omega)
        have h2 : LRu E R' := h1.1.lg gE hne
        have h3 : CRu E R' N ls := by
          rw [← hE] at h2 ⊢
          exact ⟨h2, h1.2⟩
        exact h3.mf FZ (fun a q1 q2 => by omega)
      by_cases e : m = tJ t
      · rw [afr_y ⟨c, e⟩]
        refine ⟨X.1 + 1, ?_, ⟨by omega, by rw [FZ.sz, zE]; omega⟩, vals (X.1 + 1) s.2.1 s.2.2.1 (fun a q1 q2 => by unfold cM; omega) (by omega) (b5 c)⟩
        rw [FZ.rr, ← hE, e]
        exact if_pos ⟨rfl, rfl⟩
      · rw [afr_n (fun z => e z.2)]
        have hsz : (wFs E v).1 = B.1 := by rw [FZ.sz, zE, zB]
        refine ⟨R, ?_, by rw [hsz]; exact r2, vals R _ _ (fun a q1 q2 => ?_) ?_ r3⟩
        · rw [FZ.rr, gE.rr (by unfold cM; omega), FD.rr]
          exact r1
        · unfold RAd at r2
          unfold cM
          omega
        · unfold RAd at r2
          omega
  · rw [(v3.xf.2 (v + 7) (by omega)).1]
    exact wFs_7 E v
  · rw [(v3.xf.2 (v + 31) (by omega)).1]
    exact wFs_31 E v
  · rw [v3.xf.sz, FZ.sz, zE]
    omega
end Rul
