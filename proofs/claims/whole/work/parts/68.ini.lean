/-! THE BEGINNING: the class's parts -/
section Ini
variable {X X1 X2 : XW}
theorem kd_wM (X : XW) (n k a : Nat) : xKd (wM X n k) a = if a = X.1 then 26 else if X.1 < a ∧ a < X.1 + 1 + n then 21 else xKd X a := by
  show (if a = X.1 then (26, n) else if X.1 < a ∧ a < X.1 + 1 + n then (21, k) else X.2.1 a).1 = _
  split
  · rfl
  · split <;> rfl
theorem ln_wM (X : XW) (n k a : Nat) : xLn (wM X n k) a = if a = X.1 then n else if X.1 < a ∧ a < X.1 + 1 + n then k else xLn X a := by
  show (if a = X.1 then (26, n) else if X.1 < a ∧ a < X.1 + 1 + n then (21, k) else X.2.1 a).2 = _
  split
  · rfl
  · split <;> rfl
theorem xA_wM (X : XW) (n k a : Nat) : xA (wM X n k) a = if X.1 < a ∧ a < X.1 + 1 + n then (fun _ => 0) else xA X a := by
  funext j
  show (if X.1 < a ∧ a < X.1 + 1 + n then 0 else X.2.2.2.2.1 a j) = _
  split <;> rfl
theorem xag.wM {n m k : Nat} (hn : n ≤ X.1) : xag n X (wM X m k) := ⟨by show X.1 ≤ X.1 + 1 + m; omega, fun a ha => by
  have h : ¬ a = X.1 := by omega
  have h2 : ¬ (X.1 < a ∧ a < X.1 + 1 + m) := by omega
  refine ⟨(if_neg h).trans (if_neg h2), rfl, rfl, ?_, rfl, ?_⟩
  · rw [xA_wM, if_neg h2]
  · funext j
    exact if_neg h⟩
theorem pR_w {a ci k q : Nat} (h : xKd X a = ci + 1) : pR X a ci k q = some (wR X a k (some q)) := if_pos h
/-- new Tape -/
theorem n_tape {p : Nat} (h : xKd X p = 8) (hz : X.1 = p + 1) : ∃ X1, fX7_init p X = some X1 ∧ X1.1 = p + 2 ∧ xag p X X1 ∧ xKd X1 p = 8 ∧ xR X1 p 0 = some (p + 1) ∧ ar X1 (p + 1) 20 1000 ∧ xI X1 p 1 = 0 := by
  have O0 : OB X p 7 [] := ⟨h, hz, fun i hi => absurd hi (Nat.not_lt_zero _)⟩
  obtain ⟨A1, e1, O1, i1, g1⟩ := O0.new (t := 0) (M := 1000) (n := 1000) (k := 0) (by decide) (by decide) (by decide)
  have O1 : OB A1 p 7 [(0, 0, 1000)] := O1
  obtain ⟨q1, q2, q3⟩ := O1
  obtain ⟨r1, r2, r3, r4⟩ := q3 0 (by decide : 0 < 1)
  refine ⟨wI A1 p 1 0, ?_, q2, g1.tr (xag.wI (Nat.le_refl _)), q1, r1, ⟨r2, r3⟩, xI_we⟩
  unfold fX7_init
  rw [e1, pI_of q1, sb]
/-- new Calculator -/
theorem n_calc {p : Nat} (h : xKd X p = 1) (hz : X.1 = p + 1) : ∃ X1, fX0_init p X = some X1 ∧ X1.1 = p + 2 ∧ xag p X X1 ∧ xKd X1 p = 1 ∧ xR X1 p 0 = some (p + 1) ∧ ar X1 (p + 1) 21 16 := by
  have O0 : OB X p 0 [] := ⟨h, hz, fun i hi => absurd hi (Nat.not_lt_zero _)⟩
  obtain ⟨A1, e1, O1, i1, g1⟩ := O0.new (t := 1) (M := 16) (n := 16) (k := 0) (by decide) (by decide) (by decide)
  have O1 : OB A1 p 0 [(0, 1, 16)] := O1
  obtain ⟨q1, q2, q3⟩ := O1
  obtain ⟨r1, r2, r3, r4⟩ := q3 0 (by decide : 0 < 1)
  refine ⟨wI A1 p 1 0, ?_, q2, g1.tr (xag.wI (Nat.le_refl _)), q1, r1, ⟨r2, r3⟩⟩
  unfold fX0_init
  rw [e1, pI_of q1, sb]
/-- new Parting -/
theorem n_part {p : Nat} (h : xKd X p = 4) (hz : X.1 = p + 1) : ∃ X1, fX3_init p X = some X1 ∧ xag p X X1 ∧ OB X1 p 3 [(0, 1, 16), (1, 1, 16), (2, 1, 16), (3, 1, 16), (4, 3, 16), (5, 1, 17), (6, 1, 16)] := by
  have O0 : OB X p 3 [] := ⟨h, hz, fun i hi => absurd hi (Nat.not_lt_zero _)⟩
  obtain ⟨A1, e1, O1, -, g1⟩ := O0.new (t := 1) (M := 16) (n := 16) (k := 0) (by decide) (by decide) (by decide)
  obtain ⟨A2, e2, O2, -, g2⟩ := O1.new (t := 1) (M := 16) (n := 16) (k := 1) (by decide) (by decide) (by decide)
  obtain ⟨A3, e3, O3, -, g3⟩ := O2.new (t := 1) (M := 16) (n := 16) (k := 2) (by decide) (by decide) (by decide)
  obtain ⟨A4, e4, O4, -, g4⟩ := O3.new (t := 1) (M := 16) (n := 16) (k := 3) (by decide) (by decide) (by decide)
  obtain ⟨A5, e5, O5, -, g5⟩ := O4.new (t := 3) (M := 16) (n := 16) (k := 4) (by decide) (by decide) (by decide)
  obtain ⟨A6, e6, O6, -, g6⟩ := O5.new (t := 1) (M := 17) (n := 17) (k := 5) (by decide) (by decide) (by decide)
  obtain ⟨A7, e7, O7, -, g7⟩ := O6.new (t := 1) (M := 16) (n := 16) (k := 6) (by decide) (by decide) (by decide)
  refine ⟨wI A7 p 7 0, ?_, ((((((g1.tr g2).tr g3).tr g4).tr g5).tr g6).tr g7).tr (xag.wI (Nat.le_refl _)), O7.wI⟩
  unfold fX3_init
  rw [e1, e2, e3, e4, e5, e6, e7, pI_of O7.1, sb]
/-- new Shape -/
theorem n_shape {s : Nat} (h : xKd X s = 7) (hz : X.1 = s + 1) : ∃ X1, fX6_init s X = some X1 ∧ X1.1 = s + 24 ∧ xag s X X1 ∧ LSh X1 s ∧ xI X1 s 2 = -1 := by
  obtain ⟨A, a1, a2, q1, q2, q3⟩ := n_part (X := wN X 4 0) (p := s + 1) (by rw [kd_wN, if_pos hz.symm]) (by show X.1 + 1 = _; omega)
  have q2 : A.1 = s + 1 + 1 + 7 := q2
  have gA : xag (s + 1) X A := (xag.wN (by omega)).tr a2
  have kA : xKd A s = 7 := (gA.kd (by omega)).trans h
  generalize hB : wR A s 0 (some (s + 1)) = B
  have kB : xKd B s = 7 := by rw [← hB]; exact kA
  have zB : B.1 = s + 9 := by rw [← hB]; exact q2
  generalize hD : wM B 14 80 = D
  have gD : xag (s + 9) B D := by rw [← hD]; exact xag.wM (by omega)
  have kD : xKd D s = 6 + 1 := (gD.kd (by omega)).trans kB
  have zD : D.1 = s + 24 := by rw [← hD]; show B.1 + 1 + 14 = _; omega
  generalize hE : wR D s 1 (some (s + 9)) = E
  have kE : xKd E s = 6 + 1 := by rw [← hE]; exact kD
  have dd : ∀ a, xKd E a = xKd D a ∧ xLn E a = xLn D a := fun a => by rw [← hE]; exact ⟨rfl, rfl⟩
  have dB : ∀ a, a < s + 9 → xKd E a = xKd A a ∧ xLn E a = xLn A a := fun a ha => ⟨by rw [(dd a).1, gD.kd ha, ← hB]; rfl, by rw [(dd a).2, gD.ln ha, ← hB]; rfl⟩
  have ap : ∀ i, i < 7 → ar E (s + 1 + 1 + i) (20 + ([(0, 1, 16), (1, 1, 16), (2, 1, 16), (3, 1, 16), (4, 3, 16), (5, 1, 17), (6, 1, 16)].getD i (0, 0, 0)).2.1) ([(0, 1, 16), (1, 1, 16), (2, 1, 16), (3, 1, 16), (4, 3, 16), (5, 1, 17), (6, 1, 16)].getD i (0, 0, 0)).2.2 := fun i hi => ⟨(dB _ (by omega)).1.trans (q3 i hi).2.1, (dB _ (by omega)).2.trans (q3 i hi).2.2.1⟩
  have rE : ∀ a k, a ≠ s → a < s + 9 → xR E a k = xR A a k := fun a k ha ha2 => by
    rw [← hE]
    refine (if_neg (fun z => ha z.1)).trans ?_
    show xR D a k = xR A a k
    rw [gD.rr ha2, ← hB]
    exact if_neg (fun z => ha z.1)
  have LE : LSh E s := by
    refine ⟨kE, ?_, ?_, (dB _ (by omega)).1.trans q1, fun j hj => ?_, ap 0 (by decide), ap 1 (by decide), ap 2 (by decide), ap 3 (by decide), ap 4 (by decide), ap 5 (by decide), ap 6 (by decide), ⟨?_, ?_⟩, fun i hi => ⟨?_, ?_, ?_⟩⟩
    · rw [← hE]
      refine (if_neg (fun z => absurd z.2 (by decide))).trans ?_
      show xR D s 0 = _
      rw [gD.rr (by omega), ← hB]
      exact if_pos ⟨rfl, rfl⟩
    · rw [← hE]
      exact if_pos ⟨rfl, rfl⟩
    · rw [rE _ _ (by omega) (by omega)]
      match j, hj with
      | 0, _ => exact (q3 0 (by decide : 0 < 7)).1
      | 1, _ => exact (q3 1 (by decide : 1 < 7)).1
      | 2, _ => exact (q3 2 (by decide : 2 < 7)).1
      | 3, _ => exact (q3 3 (by decide : 3 < 7)).1
      | 4, _ => exact (q3 4 (by decide : 4 < 7)).1
      | 5, _ => exact (q3 5 (by decide : 5 < 7)).1
      | 6, _ => exact (q3 6 (by decide : 6 < 7)).1
    · rw [(dd _).1, ← hD, kd_wM, if_pos zB.symm]
    · rw [(dd _).2, ← hD, ln_wM, if_pos zB.symm]
    · rw [← hE]
      show xQ D (s + 9) i = _
      rw [← hD]
      refine (if_pos zB.symm).trans ((if_pos hi).trans ?_)
      rw [zB]
    · rw [(dd _).1, ← hD, kd_wM, if_neg (by omega), if_pos (by omega)]
    · rw [(dd _).2, ← hD, ln_wM, if_neg (by omega), if_pos (by omega)]
  refine ⟨wI (wI (wI E s 2 (-1)) s 3 0) s 4 1, ?_, ?_, ?_, LE, ?_⟩
  · unfold fX6_init
    show (fX3_init X.1 (wN X 4 0) >>= fun X1 => pR X1 s 6 0 X.1 >>= fun X3 => pR (wM X3 14 80) s 6 1 X3.1 >>= fun X5 => pI X5 s 6 2 (-1) >>= fun X7 => pI X7 s 6 3 0 >>= fun X9 => pZ X9 s 6 4 1 >>= fun X11 => some X11) = _
    rw [hz, a1, sb, pR_w (show xKd A s = 6 + 1 from kA), sb, hB, zB, hD, pR_w kD, sb, hE, pI_of kE, sb, pI_of (show xKd (wI E s 2 (-1)) s = 6 + 1 from kE), sb]
    unfold pZ
    rw [if_pos ⟨(show xKd (wI (wI E s 2 (-1)) s 3 0) s = 6 + 1 from kE), Or.inr rfl⟩, sb]
  · show E.1 = _
    rw [← hE]
    exact zD
  · have gB : xag s A B := by rw [← hB]; exact xag.wR (Nat.le_refl _)
    have gE : xag s D E := by rw [← hE]; exact xag.wR (Nat.le_refl _)
    exact ((((((gA.le (by omega)).tr gB).tr (gD.le (by omega))).tr gE).tr (xag.wI (Nat.le_refl _))).tr (xag.wI (Nat.le_refl _))).tr (xag.wI (Nat.le_refl _))
  · rw [xI_wn (by decide), xI_wn (by decide), xI_we]
/-- new Reading -/
theorem n_read {q : Nat} (h : xKd X q = 5) (hz : X.1 = q + 1) : ∃ X1, fX4_init q X = some X1 ∧ X1.1 = q + 10 ∧ xag q X X1 ∧ LRd X1 q ∧ CRd X1 q d0 := by
  have O0 : OB X q 4 [] := ⟨h, hz, fun i hi => absurd hi (Nat.not_lt_zero _)⟩
  obtain ⟨A1, e1, O1, -, g1⟩ := O0.new (t := 1) (M := 16) (n := 16) (k := 0) (by decide) (by decide) (by decide)
  obtain ⟨A2, e2, O2, -, g2⟩ := O1.new (t := 1) (M := 16) (n := 16) (k := 1) (by decide) (by decide) (by decide)
  obtain ⟨A3, e3, O3, -, g3⟩ := O2.new (t := 1) (M := 16) (n := 16) (k := 2) (by decide) (by decide) (by decide)
  obtain ⟨A4, e4, O4, -, g4⟩ := O3.new (t := 3) (M := 16) (n := 16) (k := 3) (by decide) (by decide) (by decide)
  obtain ⟨A, e5, O5, -, g5⟩ := O4.new (t := 3) (M := 16) (n := 16) (k := 4) (by decide) (by decide) (by decide)
  have O5 : OB A q 4 [(0, 1, 16), (1, 1, 16), (2, 1, 16), (3, 3, 16), (4, 3, 16)] := O5
  obtain ⟨q1, q2, q3⟩ := O5
  have zA : A.1 = q + 6 := q2
  generalize hD : wM A 3 80 = D
  have gD : xag (q + 6) A D := by rw [← hD]; exact xag.wM (by omega)
  have kD : xKd D q = 4 + 1 := (gD.kd (by omega)).trans q1
  have zD : D.1 = q + 10 := by rw [← hD]; show A.1 + 1 + 3 = _; omega
  generalize hE : wR D q 5 (some (q + 6)) = E
  have kE : xKd E q = 4 + 1 := by rw [← hE]; exact kD
  have dd : ∀ a, xKd E a = xKd D a ∧ xLn E a = xLn D a := fun a => by rw [← hE]; exact ⟨rfl, rfl⟩
  have ap : ∀ i, i < 5 → ar E (q + 1 + i) (20 + ([(0, 1, 16), (1, 1, 16), (2, 1, 16), (3, 3, 16), (4, 3, 16)].getD i (0, 0, 0)).2.1) ([(0, 1, 16), (1, 1, 16), (2, 1, 16), (3, 3, 16), (4, 3, 16)].getD i (0, 0, 0)).2.2 := fun i hi => ⟨by rw [(dd _).1, gD.kd (by omega)]; exact (q3 i hi).2.1, by rw [(dd _).2, gD.ln (by omega)]; exact (q3 i hi).2.2.1⟩
  have rE : ∀ k, k < 5 → xR E q k = xR A q k := fun k hk => by
    rw [← hE]
    refine (if_neg (fun z => by omega)).trans ?_
    exact gD.rr (by omega) k
  have LE : LRd E q := by
    refine ⟨kE, fun j hj => ?_, ap 0 (by decide), ap 1 (by decide), ap 2 (by decide), ap 3 (by decide), ap 4 (by decide), ⟨?_, ?_⟩, fun i hi => ⟨?_, ?_, ?_⟩⟩
    · match j, hj with
      | 0, _ => rw [rE 0 (by decide)]; exact (q3 0 (by decide : 0 < 5)).1
      | 1, _ => rw [rE 1 (by decide)]; exact (q3 1 (by decide : 1 < 5)).1
      | 2, _ => rw [rE 2 (by decide)]; exact (q3 2 (by decide : 2 < 5)).1
      | 3, _ => rw [rE 3 (by decide)]; exact (q3 3 (by decide : 3 < 5)).1
      | 4, _ => rw [rE 4 (by decide)]; exact (q3 4 (by decide : 4 < 5)).1
      | 5, _ => rw [← hE]; exact if_pos ⟨rfl, rfl⟩
    · rw [(dd _).1, ← hD, kd_wM, if_pos zA.symm]
    · rw [(dd _).2, ← hD, ln_wM, if_pos zA.symm]
    · rw [← hE]
      show xQ D (q + 6) i = _
      rw [← hD]
      refine (if_pos zA.symm).trans ((if_pos hi).trans ?_)
      rw [zA]
    · rw [(dd _).1, ← hD, kd_wM, if_neg (by omega), if_pos (by omega)]
    · rw [(dd _).2, ← hD, ln_wM, if_neg (by omega), if_pos (by omega)]
  generalize hG : wI (wI (wI E q 6 0) q 7 0) q 8 0 = G
  have LG : LRd G q := by rw [← hG]; exact LE
  have gG : xag q E G := by
    rw [← hG]
    exact ((xag.wI (Nat.le_refl _)).tr (xag.wI (Nat.le_refl _))).tr (xag.wI (Nat.le_refl _))
  have FC : xfm (fun a => q + 7 ≤ a ∧ a < q + 10) G (clM G q 3) := ⟨clM_st _ _ _, fun x hx => ⟨by rw [clM_I], by rw [clM_A, if_neg (by omega)], by rw [clM_L]⟩⟩
  refine ⟨clM G q 3, ?_, ?_, ?_, LG.mv FC, ?_, ?_, ?_, fun k hk => absurd hk (Nat.not_lt_zero _), fun k _ hk => ?_, fun w i hw hi => ?_⟩
  · unfold fX4_init
    rw [e1, e2, e3, e4, e5]
    show (pR (wM A 3 80) q 4 5 A.1 >>= fun X21 => pI X21 q 4 6 0 >>= fun X23 => pI X23 q 4 7 0 >>= fun X25 => pI X25 q 4 8 0 >>= fun X27 => gK X27 q 4 >>= fun u29 => fX4_clearMarks q X27 >>= fun X31 => some X31) = _
    rw [hD, pR_w kD, sb, zA, hE, pI_of kE, sb, pI_of (show xKd (wI E q 6 0) q = 4 + 1 from kE), sb, pI_of (show xKd (wI (wI E q 6 0) q 7 0) q = 4 + 1 from kE), sb, hG, gK_of' LG.1, sb, f_clear LG, sb]
  · rw [FC.sz, ← hG]
    show E.1 = _
    rw [← hE]
    exact zD
  · have gE : xag q D E := by rw [← hE]; exact xag.wR (Nat.le_refl _)
    exact (((((((g1.tr g2).tr g3).tr g4).tr g5).tr (gD.le (by omega))).tr gE).tr gG).tr (xag.xf FC (fun a q1 q2 => by omega))
  · rw [clM_I, ← hG, xI_wn (by decide), xI_wn (by decide), xI_we]; rfl
  · rw [clM_I, ← hG, xI_wn (by decide), xI_we]; rfl
  · rw [clM_I, ← hG, xI_we]; rfl
  · rw [clM_A, if_neg (by omega), ← hG]
    show xA E (q + 1) k = 0
    rw [← hE]
    show xA D (q + 1) k = 0
    rw [(gD.2 (q + 1) (by omega)).2.2.2.1, show xA A (q + 1) = fun _ => 0 from (q3 0 (by decide : 0 < 5)).2.2.2]
  · rw [clM_A, if_pos (by omega)]
    exact if_pos hi
/-- new Manner -/
theorem n_mann {m : Nat} (h : xKd X m = 3) (hz : X.1 = m + 1) : ∃ X1, fX2_init m X = some X1 ∧ X1.1 = m + 8 ∧ xag m X X1 ∧ LMn X1 m 0 99 99 ∧ xR X1 m 0 = some (m + 1) ∧ CRu X1 (m + 1) 0 (fun _ => l00) := by
  obtain ⟨A, a1, a2, a3, a4, a5, a6, a7, a8⟩ := n_rules (X := wN X 6 0) (R := m + 1) (T := 0) (by rw [kd_wN, if_pos hz.symm]) (by show X.1 + 1 = _; omega) (by decide)
  have gA : xag (m + 1) X A := (xag.wN (by omega)).tr a3
  have kA : xKd A m = 2 + 1 := (gA.kd (by omega)).trans h
  generalize hB : wR A m 0 (some (m + 1)) = B
  have gB : xag m A B := by rw [← hB]; exact xag.wR (Nat.le_refl _)
  have kB : xKd B m = 2 + 1 := by rw [← hB]; exact kA
  have gl : xlg (fun a => a ≠ m) A B := by
    rw [← hB]
    exact fun a ha => ⟨rfl, funext fun j => if_neg (fun z => ha z.1), rfl⟩
  have LB : LRu B (m + 1) := a4.lg gl (fun a q1 q2 => by omega)
  refine ⟨wI (wI (wI B m 1 0) m 2 99) m 3 99, ?_, ?_, ?_, ⟨kB, ?_, ?_, ?_⟩, ?_, LB, ?_, by decide, fun n hn => absurd hn (Nat.not_lt_zero _)⟩
  · unfold fX2_init
    show (fX5_init X.1 0 (wN X 6 0) >>= fun X1 => pR X1 m 2 0 X.1 >>= fun X3 => pI X3 m 2 1 0 >>= fun X5 => pI X5 m 2 2 99 >>= fun X7 => pI X7 m 2 3 99 >>= fun X9 => some X9) = _
    rw [hz, show fX5_init (m + 1) 0 (wN X 6 0) = some A from a1, sb, pR_w kA, sb, hB, pI_of kB, sb, pI_of (show xKd (wI B m 1 0) m = 2 + 1 from kB), sb, pI_of (show xKd (wI (wI B m 1 0) m 2 99) m = 2 + 1 from kB), sb]
  · show B.1 = _
    rw [← hB]
    exact a2
  · exact ((((gA.le (by omega)).tr gB).tr (xag.wI (Nat.le_refl _))).tr (xag.wI (Nat.le_refl _))).tr (xag.wI (Nat.le_refl _))
  · rw [xI_wn (by decide), xI_wn (by decide), xI_we]; rfl
  · rw [xI_wn (by decide), xI_we]; rfl
  · rw [xI_we]; rfl
  · show xR B m 0 = _
    rw [← hB]
    exact if_pos ⟨rfl, rfl⟩
  · rw [xI_wa (by omega), xI_wa (by omega), xI_wa (by omega), ← hB]
    exact a6
end Ini
