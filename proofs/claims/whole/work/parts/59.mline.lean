/-! LINES of a text: what they are; the reference reads one -/
noncomputable def tm (kd pl : Nat → Nat) (i : Nat) : AS := Classical.epsilon (fun S => Rch kd pl (S0 i) S ∧ (S.1 = 2 ∨ S.1 = 3))
theorem tm_e {kd pl : Nat → Nat} {i : Nat} {S : AS} (h : Rch kd pl (S0 i) S) (t : S.1 = 2 ∨ S.1 = 3) : tm kd pl i = S := by
  have hs := Classical.epsilon_spec (p := fun S => Rch kd pl (S0 i) S ∧ (S.1 = 2 ∨ S.1 = 3)) ⟨S, h, t⟩
  exact hs.1.un h hs.2 t
def l00 : Ln := (0, 0, E0, E0)
noncomputable def lnW (kd pl : Nat → Nat) (a w : Nat) (E : Ex) (S : AS) : Nat × Nat × Ln := if S.1 = 3 then (S.2.2.1, 0, l00) else if kd S.2.1 = 23 then (0, S.2.1 + 1, (b01 (a = 14), w, E, S.2.2.2.2)) else (1 + 16 * pl S.2.1, 0, l00)
noncomputable def lnE (kd pl : Nat → Nat) (a w : Nat) (S : AS) : Nat × Nat × Ln := if S.1 = 3 then (S.2.2.1, 0, l00) else if kd S.2.1 = 15 then lnW kd pl a w S.2.2.2.2 (tm kd pl (S.2.1 + 1)) else if kd S.2.1 = 23 then (0, S.2.1 + 1, (b01 (a = 14), w, S.2.2.2.2, E0)) else (1 + 16 * pl S.2.1, 0, l00)
/-- a line from token i on, the N-th: fault, next token, what it is -/
noncomputable def lnR (kd pl : Nat → Nat) (i N : Nat) : Nat × Nat × Ln := if ¬ (kd i = 13 ∨ kd i = 14) then (1 + 16 * pl i, 0, l00) else if N = 24 then (5 + 16 * pl i, 0, l00) else if ¬ kd (i + 1) ≤ 2 then (1 + 16 * pl (i + 1), 0, l00) else lnE kd pl (kd i) (kd (i + 1)) (tm kd pl (i + 2))
def KL : List Nat := [7, 8, 14, 15, 16, 17, 18, 19, 20, 21, 22, 23, 24, 25]
theorem KL_o : ∀ k, k ∈ KL → k ∉ [4, 5, 6, 9] := fun k hk q => by
  unfold KL at hk
  simp only [List.mem_cons, List.not_mem_nil, or_false] at hk q
  omega
/-- what a line leaves of the manners -/
def LFr (X X1 : XW) (o : Nat) : Prop := mfm o KL X X1 ∧ Kp X X1 o 0 ∧ (∀ a, a ∈ [15, 16, 17, 18] → ∀ j, j < 96 → xA X1 (mA o a) j = xA X (mA o a) j) ∧ ∀ j, j < 4 → xA X1 (mA o 14) j = xA X (mA o 14) j
theorem LFr.rf (X : XW) (o : Nat) : LFr X X o := ⟨mfm.rf, Kp.rf _ _ _, fun _ _ _ _ => rfl, fun _ _ => rfl⟩
theorem LFr.tr {X X1 X2 : XW} {o : Nat} (h : LFr X X1 o) (h2 : LFr X1 X2 o) : LFr X X2 o := ⟨h.1.tr h2.1, h.2.1.tr h2.2.1, fun a ha j hj => (h2.2.2.1 a ha j hj).trans (h.2.2.1 a ha j hj), fun j hj => (h2.2.2.2 j hj).trans (h.2.2.2 j hj)⟩
theorem Kp.le {X X1 : XW} {o b c : Nat} (h : Kp X X1 o b) (hc : c ≤ b) : Kp X X1 o c := fun j hj => h j (by omega)
theorem LFr.kg {X X1 : XW} {o b : Nat} (F : mfm o KG X X1) (K : Kp X X1 o b) : LFr X X1 o := by
  refine ⟨F.wk (by decide), K.le (Nat.zero_le _), fun a ha j _ => ?_, fun j _ => ?_⟩
  · simp only [List.mem_cons, List.not_mem_nil, or_false] at ha
    rcases ha with rfl | rfl | rfl | rfl <;> rw [F.A (by decide) (by decide) (by decide)]
  · rw [F.A (k := 14) (by decide) (by decide) (by decide)]
theorem LFr.wI {X : XW} {o k : Nat} {x : Int32} (hk : k ∈ [7, 8]) : LFr X (wI X o k x) o := LFr.kg (b := 0) (mfm.wI (by
  simp only [List.mem_cons, List.not_mem_nil, or_false] at hk
  rcases hk with rfl | rfl <;> decide)) (fun _ _ => ⟨rfl, rfl⟩)
theorem LFr.wF {X : XW} {o k i : Nat} {x : Int32} (hk : k ∈ [15, 16, 17, 18] ∧ 96 ≤ i ∨ k = 14 ∧ 4 ≤ i) : LFr X (wF X (mA o k) (va_up (xA X (mA o k)) i x)) o := by
  have h57 : k ∈ KL ∧ k < 57 ∧ tMt.getD k 0 ≠ 0 ∧ k ≠ 19 ∧ k ≠ 20 := by
    rcases hk with ⟨hk, -⟩ | ⟨rfl, -⟩
    · simp only [List.mem_cons, List.not_mem_nil, or_false] at hk
      rcases hk with rfl | rfl | rfl | rfl <;> decide
    · decide
  refine ⟨mfm.wF h57.1 h57.2.1 h57.2.2.1, fun j _ => ⟨by rw [xA_wFm (by decide) h57.2.1 (fun e => h57.2.2.2.1 e.symm)], by rw [xA_wFm (by decide) h57.2.1 (fun e => h57.2.2.2.2 e.symm)]⟩, fun a ha j hj => ?_, fun j hj => ?_⟩
  · have ha57 : a < 57 := by
      simp only [List.mem_cons, List.not_mem_nil, or_false] at ha
      omega
    by_cases e : a = k
    · subst e
      rw [xA_wFe, upN (by
        rcases hk with ⟨-, h⟩ | ⟨rfl, -⟩
        · omega
        · exact absurd ha (by decide))]
    · rw [xA_wFm ha57 h57.2.1 e]
  · by_cases e : 14 = k
    · subst e
      rw [xA_wFe, upN (by
        rcases hk with ⟨h, -⟩ | ⟨-, h⟩
        · exact absurd h (by decide)
        · omega)]
    · rw [xA_wFm (by decide) h57.2.1 e]
/-- a line of the draft -/
def DLn (X : XW) (o cds n : Nat) (l : Ln) : Prop := xA X (mA o 15) (96 + n) = l.1 ∧ xA X (mA o 16) (96 + n) = nI l.2.1 ∧ (∃ b, xA X (mA o 17) (96 + n) = nI b ∧ b + l.2.2.1.1 < cds ∧ MEx X o (4240 + b) l.2.2.1) ∧ (l.2.2.2.1 = 0 → xA X (mA o 18) (96 + n) = -1) ∧ (¬ l.2.2.2.1 = 0 → ∃ c, xA X (mA o 18) (96 + n) = nI c ∧ c + l.2.2.2.1 < cds ∧ MEx X o (4240 + c) l.2.2.2)
theorem MEx.kp {X X1 : XW} {o b c : Nat} {E : Ex} (h : MEx X o (4240 + b) E) (K : Kp X X1 o c) (hb : b + E.1 < c) : MEx X1 o (4240 + b) E := by
  refine ⟨fun j hj => ?_, ?_⟩
  · rw [(K (4240 + b + j) (by omega)).1, (K (4240 + b + j) (by omega)).2]
    exact h.1 j hj
  · rw [(K (4240 + b + E.1) (by omega)).1]
    exact h.2
theorem DLn.kp {X X1 : XW} {o cds cds' n : Nat} {l : Ln} (h : DLn X o cds n l) (K : Kp X X1 o cds) (hc : cds ≤ cds') (hA : ∀ a, a ∈ [15, 16, 17, 18] → xA X1 (mA o a) (96 + n) = xA X (mA o a) (96 + n)) : DLn X1 o cds' n l := by
  obtain ⟨h1, h2, ⟨b, h3, h4, h5⟩, h6, h7⟩ := h
  refine ⟨(hA 15 (by decide)).trans h1, (hA 16 (by decide)).trans h2, ⟨b, (hA 17 (by decide)).trans h3, by omega, h5.kp K h4⟩, fun z => (hA 18 (by decide)).trans (h6 z), fun z => ?_⟩
  obtain ⟨c, g1, g2, g3⟩ := h7 z
  exact ⟨c, (hA 18 (by decide)).trans g1, by omega, g3.kp K g2⟩
section MLn1
variable {X : XW} {o n : Nat} {kd pl : Nat → Nat}
theorem m_hasWord (G : MG X o n kd pl) {i : Nat} (hi : i ≤ n) (h7 : xI X o 7 = nI i) (h8 : xI X o 8 = 0) : fX10_hasWord o 2 X = some (b01 (kd i = 15), wI X o 7 (nI (if kd i = 15 then i + 1 else i))) := by
  have L := G.1
  have hs : fX10_isWord o 2 X = some (b01 (kd i = 15), X) := m_isWord G hi h7 h8 (w := 2) (by decide)
  unfold fX10_hasWord fX10_hasWord_j20
  rw [gK_M L, sb, hs, sb]
  dsimp only
  rw [gI_M L, sb, h7, nI_1, Int32.add_zero, pI_M L, sb, pI_M L, sb, show zG (b01 (kd i = 15)) = some () from if_pos (b01_01 _), sb, sb]
  by_cases q : kd i = 15
  · rw [b01_y q, if_neg (by decide), if_pos q]
  · rw [b01_n q, if_pos rfl, if_neg q]
theorem m_hasWord_f (L : LM X o) {i : Nat} (h7 : xI X o 7 = nI i) (h8 : ¬ xI X o 8 = 0) : fX10_hasWord o 2 X = some (0, X) := by
  unfold fX10_hasWord fX10_hasWord_j20
  rw [gK_M L, sb, m_isWord_f L h8, sb]
  dsimp only
  rw [gI_M L, sb, if_pos rfl, Int32.add_zero, pI_M L, sb, show zG 0 = some () from if_pos (Or.inl rfl), sb, wI_same rfl]
/-- the line's end: ';' -/
theorem m_j157 (G : MG X o n kd pl) {i N : Nat} (hN : N < 24) (hi : i ≤ n) (h7 : xI X o 7 = nI i) (h14 : xA X (mA o 14) 4 = nI N) : ∃ X1, fX10_line_j157 o X = some X1 ∧ LFr X X1 o ∧ xA X1 (mA o 14) 4 = nI (N + 1) ∧ (∀ a, a ∈ [15, 16, 17, 18, 19, 20] → xA X1 (mA o a) = xA X (mA o a)) ∧ xI X1 o 21 = xI X o 21 ∧ (¬ xI X o 8 = 0 → xI X1 o 8 = xI X o 8) ∧ (xI X o 8 = 0 → kd i = 23 → xI X1 o 8 = 0 ∧ xI X1 o 7 = nI (i + 1)) ∧ (xI X o 8 = 0 → ¬ kd i = 23 → xI X1 o 8 = nI (1 + 16 * pl i)) := by
  have L := G.1
  have hts : ∃ Z, fX10_takeSign o 59 X = some Z ∧ LFr X Z o ∧ xA Z = xA X ∧ xI Z o 21 = xI X o 21 ∧ (¬ xI X o 8 = 0 → xI Z o 8 = xI X o 8) ∧ (xI X o 8 = 0 → kd i = 23 → xI Z o 8 = 0 ∧ xI Z o 7 = nI (i + 1)) ∧ (xI X o 8 = 0 → ¬ kd i = 23 → xI Z o 8 = nI (1 + 16 * pl i)) := by
    unfold fX10_takeSign
    rw [gK_M L, sb]
    by_cases h8 : xI X o 8 = 0
    · have hs : fX10_isSign o 59 X = some (b01 (kd i = 23), X) := m_isSign G hi h7 h8 (s := 6) (by decide)
      rw [hs, sb]
      dsimp only
      by_cases c : kd i = 23
      · refine ⟨wI X o 7 (nI (i + 1)), ?_, LFr.wI (by decide), rfl, xI_wn (by decide), fun z => absurd h8 z, fun _ _ => ⟨(xI_wn (by decide)).trans h8, xI_we⟩, fun _ z => absurd c z⟩
        rw [b01_y c, if_neg (by decide), gI_M L, sb, h7, nI_1, pI_M L, sb]
      · have hwr : fX10_wrong o 1 X = some (wI X o 8 (nI (1 + 16 * pl i))) := m_wrong G (x := 1) hi h7 h8
        refine ⟨wI X o 8 (nI (1 + 16 * pl i)), ?_, LFr.wI (by decide), rfl, xI_wn (by decide), fun z => absurd h8 z, fun _ z => absurd z c, fun _ _ => xI_we⟩
        rw [b01_n c, if_pos rfl, gK_M L, sb, hwr, sb]
    · refine ⟨X, ?_, LFr.rf _ _, rfl, rfl, fun _ => rfl, fun z => absurd z h8, fun z => absurd z h8⟩
      rw [m_isSign_f L h8, sb]
      dsimp only
      rw [if_pos rfl, gK_M L, sb, m_wrong_f L h8, sb]
  obtain ⟨Z, z1, z2, zA, z3, z4, z5, z6⟩ := hts
  have LZ := L.mf z2.1
  have c4 : aI Z (mA o 14) 1 4 = some (nI N) := by
    have := aM14 LZ (i := 4) (by decide)
    rw [zA, h14] at this
    exact this
  refine ⟨wF Z (mA o 14) (va_up (xA Z (mA o 14)) 4 (nI (N + 1))), ?_, z2.tr (LFr.wF (Or.inr ⟨rfl, by decide⟩)), by rw [xA_wFe, upE], fun a ha => ?_, z3, z4, z5, z6⟩
  · unfold fX10_line_j157
    rw [gK_M L, sb, z1, sb, rM14 LZ, sb, c4, sb, nI_1, show uI Z (mA o 14) 4 (nI (N + 1)) = _ from uM14 LZ (i := 4) (by decide), sb]
  · rw [xA_wFm (by simp only [List.mem_cons, List.not_mem_nil, or_false] at ha; omega) (by decide) (fun e => by rw [e] at ha; exact absurd ha (by decide)), zA]
theorem lnR_b (G : MG X o n kd pl) (hpl : ∀ j, j ≤ n → pl j ≤ 1000) {x i : Nat} (hi : i ≤ n) (hx : x = 1 ∨ x = 5) : 0 < x + 16 * pl i ∧ x + 16 * pl i ≤ 16005 := by
  have := hpl i hi
  omega
/-- what a line comes to, on the reference's side -/
def LOk (X X1 : XW) (o n N : Nat) (ls : Nat → Ln) (R : Nat × Nat × Ln) (i : Nat) : Prop := (0 < R.1 ∧ R.1 ≤ 16005 ∧ xI X1 o 8 = nI R.1) ∨ (R.1 = 0 ∧ xI X1 o 8 = 0 ∧ xI X1 o 7 = nI R.2.1 ∧ i < R.2.1 ∧ R.2.1 ≤ n ∧ okL R.2.2 ∧ xA X1 (mA o 14) 4 = nI (N + 1) ∧ ∃ cds, xI X1 o 21 = nI cds ∧ cds ≤ R.2.1 + 2 * (N + 1) ∧ ∀ m, m < N + 1 → DLn X1 o cds m (if m = N then R.2.2 else ls m))
theorem m_lineE (G : MG X o n kd pl) (hpl : ∀ j, j ≤ n → pl j ≤ 1000) {i N cds w a : Nat} {ls : Nat → Ln} (hN : N < 24) (hi : i + 2 ≤ n) (hw : w < 3) (h7 : xI X o 7 = nI (i + 2)) (h8 : xI X o 8 = 0) (h21 : xI X o 21 = nI cds) (hc : cds ≤ i + 2 * N) (h14 : xA X (mA o 14) 4 = nI N) (hD : ∀ m, m < N → DLn X o cds m (ls m)) (h15 : xA X (mA o 15) (96 + N) = b01 (a = 14)) (h16 : xA X (mA o 16) (96 + N) = nI w) (h17 : xA X (mA o 17) (96 + N) = nI cds) :
    ∃ Y S1, fX10_expression o X = some Y ∧ LM Y o ∧ tm kd pl (i + 2) = S1 ∧ ∃ X1, (uI Y (mA o 18) (nI (96 + N)) (-1) >>= fun X39 => gK X39 o 10 >>= fun _ => fX10_hasWord o 2 X39 >>= fun r43 => if (r43.1 = 0 : Prop) then (fX10_line_j157 o r43.2) else (gR r43.2 o 10 18 >>= fun q45 => gI r43.2 o 10 21 >>= fun v47 => uI r43.2 q45 (nI (96 + N)) v47 >>= fun X49 => gK X49 o 10 >>= fun _ => fX10_expression o X49 >>= fun X53 => fX10_line_j157 o X53)) = some X1 ∧ LFr X X1 o ∧ LOk X X1 o n N ls (lnE kd pl a w S1) i := by
  have hn := G.2.2.2.1
  have hkd := G.2.2.2.2.1
  have hkn := G.2.2.2.2.2
  obtain ⟨Y, S1, y1, y2, y3, y7, y8, y21, yE, yF, yK, yb⟩ := m_expression G hpl hi (show cds ≤ i + 2 + 48 by omega) h7 h8 h21
  have GY := G.mf yF KG_o
  have LY := GY.1
  have A1 := (AI_0 (kd := kd) hi).rc hkd hkn y2
  have hi1 : S1.2.1 ≤ n := A1.2.1
  have hE1 : S1.2.2.2.2.1 + (i + 2) ≤ S1.2.1 := by have := A1.2.2.1; omega
  have hyA : ∀ k, k ∈ [14, 15, 16, 17, 18] → xA Y (mA o k) = xA X (mA o k) := fun k hk => by
    simp only [List.mem_cons, List.not_mem_nil, or_false] at hk
    rcases hk with rfl | rfl | rfl | rfl | rfl <;> exact yF.A (by decide) (by decide) (by decide)
  refine ⟨Y, S1, y1, LY, tm_e y2 (y3.imp (fun z => z.1) (fun z => z.1)), ?_⟩
  generalize hZ : wF Y (mA o 18) (va_up (xA Y (mA o 18)) (96 + N) (-1)) = Z
  have FZ : LFr Y Z o := by rw [← hZ]; exact LFr.wF (Or.inl ⟨by decide, by omega⟩)
  have KZ : ∀ c, Kp Y Z o c := fun c j _ => by rw [← hZ, xA_wFm (by decide) (by decide) (by decide), xA_wFm (by decide) (by decide) (by decide)]; exact ⟨rfl, rfl⟩
  have LZ := LY.mf FZ.1
  have GZ := GY.mf FZ.1 KL_o
  have iZ : xI Z = xI Y := by rw [← hZ]; rfl
  have aZ : ∀ k, k ∈ [14, 15, 16, 17] → k < 57 → xA Z (mA o k) = xA X (mA o k) := fun k hk h57 => by
    rw [← hZ, xA_wFm h57 (by decide) (fun e => by rw [e] at hk; exact absurd hk (by decide))]
    exact hyA k (by
      simp only [List.mem_cons, List.not_mem_nil, or_false] at hk ⊢
      omega)
  have a18 : ∀ j, j ≠ 96 + N → xA Z (mA o 18) j = xA X (mA o 18) j := fun j hj => by rw [← hZ, xA_wFe, upN hj, hyA 18 (by decide)]
  have z18 : xA Z (mA o 18) (96 + N) = -1 := by rw [← hZ, xA_wFe, upE]
  have FXZ : LFr X Z o := (LFr.kg yF yK).tr FZ
  have hu : uI Y (mA o 18) (nI (96 + N)) (-1) = some Z := by rw [uM18 LY (by omega), hZ]
  rw [hu, sb, gK_M LZ, sb]
  -- the draft's earlier lines, behind the first expression
  have hDZ : ∀ cds', cds ≤ cds' → ∀ m, m < N → DLn Z o cds' m (ls m) := fun cds' hcc m hm => (hD m hm).kp (yK.tr (KZ _)) hcc (fun a ha => by
    simp only [List.mem_cons, List.not_mem_nil, or_false] at ha
    rcases ha with rfl | rfl | rfl | rfl
    · rw [aZ 15 (by decide) (by decide)]
    · rw [aZ 16 (by decide) (by decide)]
    · rw [aZ 17 (by decide) (by decide)]
    · exact a18 _ (by omega))
  have hEZ : MEx Z o (4240 + cds) S1.2.2.2.2 := yE.kp (KZ (cds + S1.2.2.2.2.1 + 1)) (by omega)
  rcases y3 with ⟨t1, t2⟩ | ⟨t1, t2, t3⟩
  rotate_left 1
  · -- a fault in the first expression
    have z8 : ¬ xI Z o 8 = 0 := by rw [iZ, y8]; exact nI_ne0 t2 (by omega)
    have z7 : xI Z o 7 = nI S1.2.1 := by rw [iZ]; exact y7
    rw [m_hasWord_f LZ z7 z8, sb]
    dsimp only
    rw [if_pos rfl]
    obtain ⟨X1, x1, x2, x3, x4, x5, x6, -⟩ := m_j157 GZ hN hi1 z7 (by rw [aZ 14 (by decide) (by decide)]; exact h14)
    refine ⟨X1, x1, FXZ.tr x2, Or.inl ?_⟩
    unfold lnE
    rw [if_pos t1]
    exact ⟨t2, t3, by rw [x6 z8, iZ]; exact y8⟩
  have ok1 : okE S1.2.2.2.2 := by
    obtain ⟨m', i', f', σ', E'⟩ := S1
    have t1 : m' = 2 := t1
    subst t1
    exact (A1.ok hn).1
  have z8 : xI Z o 8 = 0 := by rw [iZ, y8, t2]; rfl
  have z7 : xI Z o 7 = nI S1.2.1 := by rw [iZ]; exact y7
  have z21 : xI Z o 21 = nI (cds + S1.2.2.2.2.1 + 1) := by rw [iZ]; exact y21
  rw [m_hasWord GZ hi1 z7 z8, sb]
  dsimp only
  have n3 : ¬ S1.1 = 3 := by omega
  by_cases c1 : kd S1.2.1 = 15
  rotate_left 1
  · -- no test
    rw [b01_n c1, if_pos rfl, if_neg c1, wI_same z7]
    obtain ⟨X1, x1, x2, x3, x4, x5, x6, x7, x8⟩ := m_j157 GZ hN hi1 z7 (by rw [aZ 14 (by decide) (by decide)]; exact h14)
    refine ⟨X1, x1, FXZ.tr x2, ?_⟩
    unfold LOk lnE
    rw [if_neg n3, if_neg c1]
    by_cases c2 : kd S1.2.1 = 23
    · rw [if_pos c2]
      right
      have hin : S1.2.1 < n := by
        by_cases q : S1.2.1 = n
        · rw [q, hkn] at c2; exact absurd c2 (by decide)
        · omega
      refine ⟨rfl, (x7 z8 c2).1, (x7 z8 c2).2, by show i < S1.2.1 + 1; omega, hin, ⟨b01_01 _, hw, ok1, Or.inl rfl⟩, x3, cds + S1.2.2.2.2.1 + 1, by rw [x5]; exact z21, by show cds + S1.2.2.2.2.1 + 1 ≤ S1.2.1 + 1 + 2 * (N + 1); omega, fun m hm => ?_⟩
      have KX : ∀ c, Kp Z X1 o c := fun c j _ => by rw [x4 19 (by decide), x4 20 (by decide)]; exact ⟨rfl, rfl⟩
      by_cases e : m = N
      · rw [if_pos e, e]
        refine ⟨?_, ?_, ⟨cds, ?_, by show cds + S1.2.2.2.2.1 < cds + S1.2.2.2.2.1 + 1; omega, hEZ.kp (KX (cds + S1.2.2.2.2.1 + 1)) (by omega)⟩, fun _ => ?_, fun z => absurd rfl z⟩
        · rw [x4 15 (by decide), aZ 15 (by decide) (by decide)]; exact h15
        · rw [x4 16 (by decide), aZ 16 (by decide) (by decide)]; exact h16
        · rw [x4 17 (by decide), aZ 17 (by decide) (by decide)]; exact h17
        · rw [x4 18 (by decide)]; exact z18
      · rw [if_neg e]
        exact (hDZ (cds + S1.2.2.2.2.1 + 1) (by omega) m (by omega)).kp (KX _) (Nat.le_refl _) (fun a ha => by
          simp only [List.mem_cons, List.not_mem_nil, or_false] at ha
          rcases ha with rfl | rfl | rfl | rfl
          · rw [x4 15 (by decide)]
          · rw [x4 16 (by decide)]
          · rw [x4 17 (by decide)]
          · rw [x4 18 (by decide)])
    · rw [if_neg c2]
      exact Or.inl ⟨(lnR_b G hpl hi1 (Or.inl rfl)).1, (lnR_b G hpl hi1 (Or.inl rfl)).2, x8 z8 c2⟩
  · -- a test
    have hin : S1.2.1 < n := by
      by_cases q : S1.2.1 = n
      · rw [q, hkn] at c1; exact absurd c1 (by decide)
      · omega
    rw [b01_y c1, if_neg (by decide), if_pos c1]
    generalize hV : wI Z o 7 (nI (S1.2.1 + 1)) = V
    have FV : LFr Z V o := by rw [← hV]; exact LFr.wI (by decide)
    have aV : xA V = xA Z := by rw [← hV]; rfl
    have LV := LZ.mf FV.1
    have v21 : xI V o 21 = nI (cds + S1.2.2.2.2.1 + 1) := by rw [← hV, xI_wn (by decide)]; exact z21
    generalize hU : wF V (mA o 18) (va_up (xA V (mA o 18)) (96 + N) (nI (cds + S1.2.2.2.2.1 + 1))) = U
    have FU' : LFr V U o := by rw [← hU]; exact LFr.wF (Or.inl ⟨by decide, by omega⟩)
    have KU : ∀ c, Kp Z U o c := fun c j _ => by rw [← hU, xA_wFm (by decide) (by decide) (by decide), xA_wFm (by decide) (by decide) (by decide), aV]; exact ⟨rfl, rfl⟩
    have LU := LV.mf FU'.1
    have GU := (GZ.mf FV.1 KL_o).mf FU'.1 KL_o
    have iU : xI U = xI V := by rw [← hU]; rfl
    have aU : ∀ k, k ∈ [14, 15, 16, 17] → k < 57 → xA U (mA o k) = xA X (mA o k) := fun k hk h57 => by
      rw [← hU, xA_wFm h57 (by decide) (fun e => by rw [e] at hk; exact absurd hk (by decide)), aV]
      exact aZ k hk h57
    have u18 : xA U (mA o 18) (96 + N) = nI (cds + S1.2.2.2.2.1 + 1) := by rw [← hU, xA_wFe, upE]
    have u18' : ∀ j, j ≠ 96 + N → xA U (mA o 18) j = xA Z (mA o 18) j := fun j hj => by rw [← hU, xA_wFe, upN hj, aV]
    have u7 : xI U o 7 = nI (S1.2.1 + 1) := by rw [iU, ← hV, xI_we]
    have u8 : xI U o 8 = 0 := by rw [iU, ← hV, xI_wn (by decide)]; exact z8
    have u21 : xI U o 21 = nI (cds + S1.2.2.2.2.1 + 1) := by rw [iU]; exact v21
    obtain ⟨P, S2, p1, p2, p3, p7, p8, p21, pE, pF, pK, pb⟩ := m_expression GU hpl (show S1.2.1 + 1 ≤ n by omega) (show cds + S1.2.2.2.2.1 + 1 ≤ S1.2.1 + 1 + 48 by omega) u7 u8 u21
    have GP := GU.mf pF KG_o
    have A2 := (AI_0 (kd := kd) (show S1.2.1 + 1 ≤ n by omega)).rc hkd hkn p2
    have hi2 : S2.2.1 ≤ n := A2.2.1
    have hE2 : S2.2.2.2.2.1 + (S1.2.1 + 1) ≤ S2.2.1 := by have := A2.2.2.1; omega
    have hPA : ∀ k, k ∈ [14, 15, 16, 17, 18] → xA P (mA o k) = xA U (mA o k) := fun k hk => by
      simp only [List.mem_cons, List.not_mem_nil, or_false] at hk
      rcases hk with rfl | rfl | rfl | rfl | rfl <;> exact pF.A (by decide) (by decide) (by decide)
    have FXP : LFr X P o := (FXZ.tr (FV.tr FU')).tr (LFr.kg pF pK)
    have etm : tm kd pl (S1.2.1 + 1) = S2 := tm_e p2 (p3.imp (fun z => z.1) (fun z => z.1))
    rw [rM18 LV, sb, gI_M LV, sb, v21, uM18 LV (by omega), sb, hU, gK_M LU, sb, p1, sb]
    obtain ⟨X1, x1, x2, x3, x4, x5, x6, x7, x8⟩ := m_j157 GP hN hi2 p7 (by rw [hPA 14 (by decide), aU 14 (by decide) (by decide)]; exact h14)
    refine ⟨X1, x1, FXP.tr x2, ?_⟩
    unfold LOk lnE
    rw [if_neg n3, if_pos c1, etm]
    unfold lnW
    rcases p3 with ⟨t3, t4⟩ | ⟨t3, t4, t5⟩
    rotate_left 1
    · rw [if_pos t3]
      have p8' : ¬ xI P o 8 = 0 := by rw [p8]; exact nI_ne0 t4 (by omega)
      exact Or.inl ⟨t4, t5, by rw [x6 p8']; exact p8⟩
    have n4 : ¬ S2.1 = 3 := by omega
    have p80 : xI P o 8 = 0 := by rw [p8, t4]; rfl
    have ok2 : okE S2.2.2.2.2 := by
      obtain ⟨m', i', f', σ', E'⟩ := S2
      have t3 : m' = 2 := t3
      subst t3
      exact (A2.ok hn).1
    rw [if_neg n4]
    by_cases c2 : kd S2.2.1 = 23
    · rw [if_pos c2]
      right
      have hin2 : S2.2.1 < n := by
        by_cases q : S2.2.1 = n
        · rw [q, hkn] at c2; exact absurd c2 (by decide)
        · omega
      refine ⟨rfl, (x7 p80 c2).1, (x7 p80 c2).2, by show i < S2.2.1 + 1; omega, hin2, ⟨b01_01 _, hw, ok1, Or.inr ok2⟩, x3, cds + S1.2.2.2.2.1 + 1 + S2.2.2.2.2.1 + 1, by rw [x5]; exact p21, by show cds + S1.2.2.2.2.1 + 1 + S2.2.2.2.2.1 + 1 ≤ S2.2.1 + 1 + 2 * (N + 1); omega, fun m hm => ?_⟩
      have KX : ∀ c, Kp P X1 o c := fun c j _ => by rw [x4 19 (by decide), x4 20 (by decide)]; exact ⟨rfl, rfl⟩
      have hX1 : ∀ a, a ∈ [15, 16, 17, 18] → xA X1 (mA o a) = xA U (mA o a) := fun a ha => by
        rw [x4 a (by simp only [List.mem_cons, List.not_mem_nil, or_false] at ha ⊢; omega), hPA a (by simp only [List.mem_cons, List.not_mem_nil, or_false] at ha ⊢; omega)]
      by_cases e : m = N
      · rw [if_pos e, e]
        refine ⟨?_, ?_, ⟨cds, ?_, by show cds + S1.2.2.2.2.1 < cds + S1.2.2.2.2.1 + 1 + S2.2.2.2.2.1 + 1; omega, ((hEZ.kp (KU (cds + S1.2.2.2.2.1 + 1)) (by omega)).kp pK (by omega)).kp (KX (cds + S1.2.2.2.2.1 + 1)) (by omega)⟩, fun z => ?_, fun _ => ⟨cds + S1.2.2.2.2.1 + 1, ?_, by show cds + S1.2.2.2.2.1 + 1 + S2.2.2.2.2.1 < cds + S1.2.2.2.2.1 + 1 + S2.2.2.2.2.1 + 1; omega, pE.kp (KX (cds + S1.2.2.2.2.1 + 1 + S2.2.2.2.2.1 + 1)) (by omega)⟩⟩
        · rw [hX1 15 (by decide), aU 15 (by decide) (by decide)]; exact h15
        · rw [hX1 16 (by decide), aU 16 (by decide) (by decide)]; exact h16
        · rw [hX1 17 (by decide), aU 17 (by decide) (by decide)]; exact h17
        · have : S2.2.2.2.2.1 = 0 := z
          have := ok2.1
          omega
        · rw [hX1 18 (by decide)]; exact u18
      · rw [if_neg e]
        refine (((hDZ (cds + S1.2.2.2.2.1 + 1) (by omega) m (by omega)).kp (KU _) (Nat.le_refl _) (fun a ha => ?_)).kp pK (Nat.le_refl _) (fun a ha => ?_)).kp (KX _) (by omega) (fun a ha => ?_)
        · simp only [List.mem_cons, List.not_mem_nil, or_false] at ha
          rcases ha with rfl | rfl | rfl | rfl
          · rw [aU 15 (by decide) (by decide), aZ 15 (by decide) (by decide)]
          · rw [aU 16 (by decide) (by decide), aZ 16 (by decide) (by decide)]
          · rw [aU 17 (by decide) (by decide), aZ 17 (by decide) (by decide)]
          · exact u18' _ (by omega)
        · rw [hPA a (by simp only [List.mem_cons, List.not_mem_nil, or_false] at ha ⊢; omega)]
        · rw [x4 a (by simp only [List.mem_cons, List.not_mem_nil, or_false] at ha ⊢; omega)]
    · rw [if_neg c2]
      exact Or.inl ⟨(lnR_b G hpl hi2 (Or.inl rfl)).1, (lnR_b G hpl hi2 (Or.inl rfl)).2, x8 p80 c2⟩
end MLn1
