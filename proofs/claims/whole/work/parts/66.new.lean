/-! WHAT IS NEW: objects and arrays behind the heap's end -/
section NewR
variable {X X1 X2 : XW}
theorem kd_wN (X : XW) (k l a : Nat) : xKd (wN X k l) a = if a = X.1 then k else xKd X a := by
  show (if a = X.1 then (k, l) else X.2.1 a).1 = _
  split <;> rfl
theorem ln_wN (X : XW) (k l a : Nat) : xLn (wN X k l) a = if a = X.1 then l else xLn X a := by
  show (if a = X.1 then (k, l) else X.2.1 a).2 = _
  split <;> rfl
theorem xI_wN (X : XW) (k l a : Nat) : xI (wN X k l) a = if a = X.1 then (fun _ => 0) else xI X a := by
  funext j
  show (if a = X.1 then 0 else X.2.2.1 a j) = _
  split <;> rfl
theorem xA_wN (X : XW) (k l a : Nat) : xA (wN X k l) a = if a = X.1 then (fun _ => 0) else xA X a := by
  funext j
  show (if a = X.1 then 0 else X.2.2.2.2.1 a j) = _
  split <;> rfl
/-- the same below n -/
def xag (n : Nat) (X X1 : XW) : Prop := X.1 ≤ X1.1 ∧ ∀ a, a < n → X1.2.1 a = X.2.1 a ∧ xI X1 a = xI X a ∧ xR X1 a = xR X a ∧ xA X1 a = xA X a ∧ xL X1 a = xL X a ∧ xQ X1 a = xQ X a
theorem xag.rf (n : Nat) (X : XW) : xag n X X := ⟨Nat.le_refl _, fun _ _ => ⟨rfl, rfl, rfl, rfl, rfl, rfl⟩⟩
theorem xag.tr {n : Nat} (h : xag n X X1) (h2 : xag n X1 X2) : xag n X X2 := ⟨Nat.le_trans h.1 h2.1, fun a ha => by
  obtain ⟨a1, a2, a3, a4, a5, a6⟩ := h.2 a ha
  obtain ⟨b1, b2, b3, b4, b5, b6⟩ := h2.2 a ha
  exact ⟨b1.trans a1, b2.trans a2, b3.trans a3, b4.trans a4, b5.trans a5, b6.trans a6⟩⟩
theorem xag.le {n m : Nat} (h : xag n X X1) (hm : m ≤ n) : xag m X X1 := ⟨h.1, fun a ha => h.2 a (by omega)⟩
theorem xag.wN {n k l : Nat} (hn : n ≤ X.1) : xag n X (wN X k l) := ⟨Nat.le_succ _, fun a ha => by
  have h : ¬ a = X.1 := by omega
  refine ⟨?_, ?_, ?_, ?_, ?_, ?_⟩
  · exact if_neg h
  all_goals funext j; exact if_neg h⟩
theorem xag.wR {n a k : Nat} {q : Option Nat} (hn : n ≤ a) : xag n X (wR X a k q) := ⟨Nat.le_refl _, fun b hb => ⟨rfl, rfl, by funext j; exact if_neg (fun e => by omega), rfl, rfl, rfl⟩⟩
theorem xag.wI {n a k : Nat} {q : Int32} (hn : n ≤ a) : xag n X (wI X a k q) := ⟨Nat.le_refl _, fun b hb => ⟨rfl, by funext j; exact if_neg (fun e => by omega), rfl, rfl, rfl, rfl⟩⟩
theorem xag.xf {n : Nat} {S : Nat → Prop} (h : xfm S X X1) (hS : ∀ a, a < n → ¬ S a) : xag n X X1 := by
  obtain ⟨h1, h2⟩ := h
  have e : X1.1 = X.1 ∧ X1.2.1 = X.2.1 ∧ X1.2.2.2.1 = X.2.2.2.1 ∧ X1.2.2.2.2.2.2 = X.2.2.2.2.2.2 := ⟨congrArg (fun z => z.1) h1, congrArg (fun z => z.2.1) h1, congrArg (fun z => z.2.2.1) h1, congrArg (fun z => z.2.2.2) h1⟩
  refine ⟨by rw [e.1]; exact Nat.le_refl _, fun a ha => ?_⟩
  obtain ⟨g1, g2, g3⟩ := h2 a (hS a ha)
  refine ⟨by rw [e.2.1], g1, ?_, g2, g3, ?_⟩
  · unfold xR
    rw [e.2.2.1]
  · unfold xQ
    rw [e.2.2.2]
theorem xag.kd {n a : Nat} (h : xag n X X1) (ha : a < n) : xKd X1 a = xKd X a := congrArg (fun z => z.1) (h.2 a ha).1
theorem xag.ln {n a : Nat} (h : xag n X X1) (ha : a < n) : xLn X1 a = xLn X a := congrArg (fun z => z.2) (h.2 a ha).1
theorem xag.rr {n a : Nat} (h : xag n X X1) (ha : a < n) (k : Nat) : xR X1 a k = xR X a k := by rw [(h.2 a ha).2.2.1]
theorem xag.qq {n a : Nat} (h : xag n X X1) (ha : a < n) (k : Nat) : xQ X1 a k = xQ X a k := by rw [(h.2 a ha).2.2.2.2.2]
/-- an object at a whose arrays L were made one after the other behind it -/
def OB (X : XW) (a ci : Nat) (L : List (Nat × Nat × Nat)) : Prop := xKd X a = ci + 1 ∧ X.1 = a + 1 + L.length ∧ ∀ i, i < L.length → xR X a (L.getD i (0, 0, 0)).1 = some (a + 1 + i) ∧ xKd X (a + 1 + i) = 20 + (L.getD i (0, 0, 0)).2.1 ∧ xLn X (a + 1 + i) = (L.getD i (0, 0, 0)).2.2 ∧ xA X (a + 1 + i) = fun _ => 0
def nAR (X : XW) (a k t n : Nat) : XW := wR (wN X (20 + t) n) a k (some X.1)
theorem OB.new {a ci t M k : Nat} {n : Int32} {L : List (Nat × Nat × Nat)} (O : OB X a ci L) (hn : ¬ n < 0) (hM : n.toNatClampNeg ≤ M) (hk : ∀ e, e ∈ L → e.1 ≠ k) : ∃ X1, (∀ (f : XW → Option XW), (nA X t M n >>= fun r => pR r.2 a ci k r.1 >>= f) = f X1) ∧ OB X1 a ci (L ++ [(k, t, n.toNatClampNeg)]) ∧ xI X1 a = xI X a ∧ xag a X X1 := by
  obtain ⟨o1, o2, o3⟩ := O
  have ha : ¬ a = X.1 := by omega
  have k1 : xKd (wN X (20 + t) n.toNatClampNeg) a = ci + 1 := by rw [kd_wN, if_neg ha]; exact o1
  refine ⟨nAR X a k t n.toNatClampNeg, fun f => ?_, ⟨k1, ?_, fun i hi => ?_⟩, ?_, ?_⟩
  · unfold nA pR
    rw [if_pos ⟨hn, hM⟩, sb]
    dsimp only
    rw [if_pos k1, sb]
    rfl
  · show X.1 + 1 = a + 1 + (L ++ [(k, t, n.toNatClampNeg)]).length
    rw [List.length_append, o2]
    rfl
  · rw [List.length_append] at hi
    have hi' : i < L.length + 1 := hi
    by_cases e : i = L.length
    · subst e
      have eg : (L ++ [(k, t, n.toNatClampNeg)]).getD L.length (0, 0, 0) = (k, t, n.toNatClampNeg) := by
        rw [List.getD_eq_getElem?_getD, List.getElem?_append_right (Nat.le_refl _), Nat.sub_self]
        rfl
      rw [eg, ← o2]
      refine ⟨if_pos ⟨rfl, rfl⟩, ?_, ?_, ?_⟩
      · show xKd (wN X (20 + t) n.toNatClampNeg) X.1 = _
        rw [kd_wN, if_pos rfl]
      · show xLn (wN X (20 + t) n.toNatClampNeg) X.1 = _
        rw [ln_wN, if_pos rfl]
      · show xA (wN X (20 + t) n.toNatClampNeg) X.1 = _
        rw [xA_wN, if_pos rfl]
    · have hlt : i < L.length := by omega
      have eg : (L ++ [(k, t, n.toNatClampNeg)]).getD i (0, 0, 0) = L.getD i (0, 0, 0) := by
        rw [List.getD_eq_getElem?_getD, List.getElem?_append_left hlt, ← List.getD_eq_getElem?_getD]
      obtain ⟨p1, p2, p3, p4⟩ := o3 i hlt
      have hmem : L.getD i (0, 0, 0) ∈ L := by
        rw [List.getD_eq_getElem?_getD, List.getElem?_eq_getElem hlt]
        exact List.getElem_mem hlt
      have hne : ¬ a + 1 + i = X.1 := by omega
      rw [eg]
      refine ⟨?_, ?_, ?_, ?_⟩
      · refine (if_neg (fun z => hk _ hmem z.2)).trans ?_
        exact (if_neg ha).trans p1
      · show xKd (wN X (20 + t) n.toNatClampNeg) (a + 1 + i) = _
        rw [kd_wN, if_neg hne]; exact p2
      · show xLn (wN X (20 + t) n.toNatClampNeg) (a + 1 + i) = _
        rw [ln_wN, if_neg hne]; exact p3
      · show xA (wN X (20 + t) n.toNatClampNeg) (a + 1 + i) = _
        rw [xA_wN, if_neg hne]; exact p4
  · show xI (wN X (20 + t) n.toNatClampNeg) a = _
    rw [xI_wN, if_neg ha]
  · exact (xag.wN (by omega)).tr (xag.wR (Nat.le_refl _))
theorem OB.o {X : XW} {ci : Nat} : OB (wN X (ci + 1) 0) X.1 ci [] := ⟨by rw [kd_wN, if_pos rfl], rfl, fun i hi => absurd hi (Nat.not_lt_zero _)⟩
theorem OB.wI {a ci k : Nat} {L : List (Nat × Nat × Nat)} {x : Int32} (O : OB X a ci L) : OB (wI X a k x) a ci L := O
theorem iMx0 {T : Nat} (h : T < 2 ^ 31) : iMx 0 (nI T) = nI T := by
  unfold iMx
  by_cases q : T = 0
  · rw [q]; decide
  · rw [if_pos (show (0 : Int32) < nI T from nI_lt (a := 0) (by omega) h)]
theorem tnc {T : Nat} (h : T < 2 ^ 31) : (nI T).toNatClampNeg = T := nI_clamp h
/-- new Rules -/
theorem n_rules {R T : Nat} (h : xKd X R = 6) (hz : X.1 = R + 1) (hT : T ≤ 1000) : ∃ X1, fX5_init R (nI T) X = some X1 ∧ X1.1 = R + 7 ∧ xag R X X1 ∧ LRu X1 R ∧ xLn X1 (R + 6) = T ∧ xI X1 R 6 = 0 ∧ xI X1 R 7 = 0 ∧ ∀ i, i < 6 → xA X1 (R + 1 + i) = fun _ => 0 := by
  have O0 : OB X R 5 [] := ⟨h, hz, fun i hi => absurd hi (Nat.not_lt_zero _)⟩
  obtain ⟨A1, e1, O1, i1, g1⟩ := O0.new (t := 3) (M := 24) (n := 24) (k := 0) (by decide) (by decide) (by decide)
  obtain ⟨A2, e2, O2, i2, g2⟩ := O1.new (t := 1) (M := 24) (n := 24) (k := 1) (by decide) (by decide) (by decide)
  obtain ⟨A3, e3, O3, i3, g3⟩ := O2.new (t := 1) (M := 24) (n := 24) (k := 2) (by decide) (by decide) (by decide)
  obtain ⟨A4, e4, O4, i4, g4⟩ := O3.new (t := 1) (M := 24) (n := 24) (k := 3) (by decide) (by decide) (by decide)
  obtain ⟨A5, e5, O5, i5, g5⟩ := O4.new (t := 1) (M := 24) (n := 24) (k := 4) (by decide) (by decide) (by decide)
  generalize hA6 : wI A5 R 6 0 = A6
  have O6 := O5.wI (k := 6) (x := 0)
  rw [hA6] at O6
  generalize hA7 : wI A6 R 7 0 = A7
  have O7 := O6.wI (k := 7) (x := 0)
  rw [hA7] at O7
  obtain ⟨A8, e8, O8, i8, g8⟩ := O7.new (t := 1) (M := 1000) (n := nI T) (k := 5) (nI_pos (by omega)) (by rw [tnc (by omega)]; exact hT) (by decide)
  rw [tnc (by omega)] at O8
  have O8 : OB A8 R 5 [(0, 3, 24), (1, 1, 24), (2, 1, 24), (3, 1, 24), (4, 1, 24), (5, 1, T)] := O8
  obtain ⟨q1, q2, q3⟩ := O8
  refine ⟨A8, ?_, q2, ?_, ⟨q1, fun j hj => ?_, ⟨(q3 0 (by decide : 0 < 6)).2.1, (q3 0 (by decide : 0 < 6)).2.2.1⟩, ⟨(q3 1 (by decide : 1 < 6)).2.1, (q3 1 (by decide : 1 < 6)).2.2.1⟩, ⟨(q3 2 (by decide : 2 < 6)).2.1, (q3 2 (by decide : 2 < 6)).2.2.1⟩, ⟨(q3 3 (by decide : 3 < 6)).2.1, (q3 3 (by decide : 3 < 6)).2.2.1⟩, ⟨(q3 4 (by decide : 4 < 6)).2.1, (q3 4 (by decide : 4 < 6)).2.2.1⟩, (q3 5 (by decide : 5 < 6)).2.1, ?_⟩, (q3 5 (by decide : 5 < 6)).2.2.1, ?_, ?_, fun i hi => (q3 i hi).2.2.2⟩
  · unfold fX5_init
    rw [iMx0 (by omega), e1, e2, e3, e4, e5, pI_of (show xKd A5 R = 5 + 1 from O5.1), sb, hA6, pI_of (show xKd A6 R = 5 + 1 from O6.1), sb, hA7, e8]
  · have g6 : xag R A5 A6 := by rw [← hA6]; exact xag.wI (Nat.le_refl _)
    have g7 : xag R A6 A7 := by rw [← hA7]; exact xag.wI (Nat.le_refl _)
    exact ((((((g1.tr g2).tr g3).tr g4).tr g5).tr g6).tr g7).tr g8
  · match j, hj with
    | 0, _ => exact (q3 0 (by decide : 0 < 6)).1
    | 1, _ => exact (q3 1 (by decide : 1 < 6)).1
    | 2, _ => exact (q3 2 (by decide : 2 < 6)).1
    | 3, _ => exact (q3 3 (by decide : 3 < 6)).1
    | 4, _ => exact (q3 4 (by decide : 4 < 6)).1
    | 5, _ => exact (q3 5 (by decide : 5 < 6)).1
  · rw [show xLn A8 (R + 6) = T from (q3 5 (by decide : 5 < 6)).2.2.1]
    exact hT
  · rw [i8, ← hA7, xI_wn (by decide), ← hA6, xI_we]
  · rw [i8, ← hA7, xI_we]
/-- new Tokens -/
theorem n_tokens {q T : Nat} (h : xKd X q = 9) (hz : X.1 = q + 1) (hT : T ≤ 1000) : ∃ X1, fX8_init q (nI T) X = some X1 ∧ X1.1 = q + 3 ∧ xag q X X1 ∧ LTk X1 q (q + 1) (q + 2) T := by
  generalize hA0 : wI X q 2 0 = A0
  have O0 : OB A0 q 8 [] := by rw [← hA0]; exact ⟨h, hz, fun i hi => absurd hi (Nat.not_lt_zero _)⟩
  have hc : (nI (T + 1)).toNatClampNeg = T + 1 := tnc (by omega)
  obtain ⟨A1, e1, O1, i1, g1⟩ := O0.new (t := 1) (M := 1001) (n := nI (T + 1)) (k := 0) (nI_pos (by omega)) (by rw [hc]; omega) (by decide)
  obtain ⟨A2, e2, O2, i2, g2⟩ := O1.new (t := 1) (M := 1001) (n := nI (T + 1)) (k := 1) (nI_pos (by omega)) (by rw [hc]; omega) (fun e he => by
    rcases List.mem_cons.mp he with rfl | q
    · exact (by decide : 0 ≠ 1)
    · exact absurd q (by simp))
  rw [hc] at O2
  have O2 : OB A2 q 8 [(0, 1, T + 1), (1, 1, T + 1)] := O2
  obtain ⟨q1, q2, q3⟩ := O2
  refine ⟨A2, ?_, q2, ((by rw [← hA0]; exact xag.wI (Nat.le_refl _) : xag q X A0).tr g1).tr g2, q1, (q3 0 (by decide : 0 < 2)).1, (q3 1 (by decide : 1 < 2)).1, ⟨(q3 0 (by decide : 0 < 2)).2.1, (q3 0 (by decide : 0 < 2)).2.2.1⟩, ⟨(q3 1 (by decide : 1 < 2)).2.1, (q3 1 (by decide : 1 < 2)).2.2.1⟩⟩
  unfold fX8_init
  rw [iMx0 (by omega), pI_of (show xKd X q = 8 + 1 from h), sb, hA0, nI_1, e1, e2]
/-- new Grammar -/
theorem n_gram {T : Nat} (hT : T ≤ 1000) (Y : XW) : ∃ X1, fX1_init Y.1 (nI T) (wN Y 2 0) = some X1 ∧ X1.1 = Y.1 + 11 ∧ xag Y.1 Y X1 ∧ xKd X1 Y.1 = 2 ∧ xR X1 Y.1 0 = some (Y.1 + 1) ∧ xR X1 Y.1 1 = some (Y.1 + 8) ∧ LTk X1 (Y.1 + 8) (Y.1 + 9) (Y.1 + 10) T ∧ LRu X1 (Y.1 + 1) ∧ xLn X1 (Y.1 + 1 + 6) = T ∧ xI X1 Y.1 2 = 0 ∧ xI X1 Y.1 4 = 0 ∧ xI X1 (Y.1 + 1) 6 = 0 ∧ xI X1 (Y.1 + 1) 7 = 0 := by
  have k0 : xKd (wN Y 2 0) Y.1 = 1 + 1 := by rw [kd_wN, if_pos rfl]
  have hg0 : xag Y.1 Y (wN Y 2 0) := xag.wN (Nat.le_refl _)
  have hz0 : (wN Y 2 0).1 = Y.1 + 1 := rfl
  generalize wN Y 2 0 = A0 at *
  generalize Y.1 = g at *
  generalize hA1 : wI A0 g 2 0 = A1
  generalize hA2 : wI A1 g 3 24 = A2
  generalize hA3 : wI A2 g 4 0 = A3
  have k1 : xKd A1 g = 1 + 1 := by rw [← hA1]; exact k0
  have k2 : xKd A2 g = 1 + 1 := by rw [← hA2]; exact k1
  have k3 : xKd A3 g = 1 + 1 := by rw [← hA3]; exact k2
  have hz3 : A3.1 = g + 1 := by rw [← hA3, ← hA2, ← hA1]; exact hz0
  have hg3 : xag g A0 A3 := by
    rw [← hA3, ← hA2, ← hA1]
    exact ((xag.wI (Nat.le_refl _)).tr (xag.wI (Nat.le_refl _))).tr (xag.wI (Nat.le_refl _))
  have i2 : xI A3 g 2 = 0 := by rw [← hA3, xI_wn (by decide), ← hA2, xI_wn (by decide), ← hA1, xI_we]
  have i4 : xI A3 g 4 = 0 := by rw [← hA3, xI_we]
  obtain ⟨B, b1, b2, b3, b4, b5, b6, b7, -⟩ := n_rules (X := wN A3 6 0) (R := g + 1) (T := T) (by rw [kd_wN, if_pos hz3.symm]) (by show A3.1 + 1 = _; omega) hT
  have gB : xag (g + 1) A3 B := (xag.wN (by omega)).tr b3
  have kB : xKd B g = 1 + 1 := (gB.kd (by omega)).trans k3
  generalize hB1 : wR B g 0 (some (g + 1)) = B1
  have gB1 : xag g B B1 := by rw [← hB1]; exact xag.wR (Nat.le_refl _)
  have kB1 : xKd B1 g = 1 + 1 := by rw [← hB1]; exact kB
  have zB1 : B1.1 = g + 8 := by rw [← hB1]; exact b2
  obtain ⟨D, d1, d2, d3, d4⟩ := n_tokens (X := wN B1 9 0) (q := g + 8) (T := T) (by rw [kd_wN, if_pos zB1.symm]) (by show B1.1 + 1 = _; omega) hT
  have gD : xag (g + 8) B1 D := (xag.wN (by omega)).tr d3
  have kD : xKd D g = 1 + 1 := (gD.kd (by omega)).trans kB1
  have LB1 : LRu B1 (g + 1) := by rw [← hB1]; exact ⟨b4.1, fun j hj => (if_neg (fun e => by omega)).trans (b4.2.1 j hj), b4.2.2⟩
  refine ⟨wR D g 1 (some (g + 8)), ?_, d2, ?_, kD, ?_, if_pos ⟨rfl, rfl⟩, ⟨d4.1, (if_neg (fun e => by omega)).trans d4.2.1, (if_neg (fun e => by omega)).trans d4.2.2.1, d4.2.2.2⟩, ?_, ?_, ?_, ?_, ?_, ?_⟩
  · unfold fX1_init
    rw [pI_of k0, sb, hA1, pI_of k1, sb, hA2, pI_of k2, sb, hA3]
    show (fX5_init A3.1 (nI T) (wN A3 6 0) >>= fun X7 => pR X7 g 1 0 A3.1 >>= fun X9 => fX8_init X9.1 (nI T) (wN X9 9 0) >>= fun X11 => pR X11 g 1 1 X9.1 >>= fun X13 => some X13) = _
    rw [hz3, b1, sb]
    unfold pR
    rw [if_pos kB, sb, hB1, zB1, d1, sb, if_pos kD, sb]
  · exact ((((hg0.tr hg3).tr (gB.le (by omega))).tr gB1).tr (gD.le (by omega))).tr (xag.wR (Nat.le_refl _))
  · refine (if_neg (fun e => by omega)).trans ?_
    show xR D g 0 = some (g + 1)
    rw [show xR D g 0 = xR B1 g 0 from gD.rr (by omega) 0, ← hB1]
    exact if_pos ⟨rfl, rfl⟩
  · have e : ∀ a, a < g + 8 → a ≠ g → xKd (wR D g 1 (some (g + 8))) a = xKd B1 a ∧ xLn (wR D g 1 (some (g + 8))) a = xLn B1 a := fun a ha _ => ⟨gD.kd ha, gD.ln ha⟩
    obtain ⟨l1, l2, l3, l4, l5, l6, l7, l8, l9⟩ := LB1
    refine ⟨(e _ (by omega) (by omega)).1.trans l1, fun j hj => (if_neg (fun z => by omega)).trans ((gD.rr (by omega) j).trans (l2 j hj)), ⟨(e _ (by omega) (by omega)).1.trans l3.1, (e _ (by omega) (by omega)).2.trans l3.2⟩, ⟨(e _ (by omega) (by omega)).1.trans l4.1, (e _ (by omega) (by omega)).2.trans l4.2⟩, ⟨(e _ (by omega) (by omega)).1.trans l5.1, (e _ (by omega) (by omega)).2.trans l5.2⟩, ⟨(e _ (by omega) (by omega)).1.trans l6.1, (e _ (by omega) (by omega)).2.trans l6.2⟩, ⟨(e _ (by omega) (by omega)).1.trans l7.1, (e _ (by omega) (by omega)).2.trans l7.2⟩, (e _ (by omega) (by omega)).1.trans l8, ?_⟩
    rw [(e _ (by omega) (by omega)).2]
    exact l9
  · show xLn D (g + 1 + 6) = T
    rw [gD.ln (by omega), ← hB1]
    exact b5
  · show xI D g 2 = 0
    rw [(gD.2 g (by omega)).2.1, ← hB1]
    show xI B g 2 = 0
    rw [(gB.2 g (by omega)).2.1]
    exact i2
  · show xI D g 4 = 0
    rw [(gD.2 g (by omega)).2.1, ← hB1]
    show xI B g 4 = 0
    rw [(gB.2 g (by omega)).2.1]
    exact i4
  · show xI D (g + 1) 6 = 0
    rw [(gD.2 (g + 1) (by omega)).2.1, ← hB1]
    exact b6
  · show xI D (g + 1) 7 = 0
    rw [(gD.2 (g + 1) (by omega)).2.1, ← hB1]
    exact b7
end NewR
