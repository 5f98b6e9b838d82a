/-! the reference: a part, an expression -/
/-- a fault is told only where the machine stands still -/
theorem stp_f {kd pl : Nat → Nat} {S : AS} (h : S.1 ≠ 3 → S.2.2.1 = 0) : (stp kd pl S).1 ≠ 3 → (stp kd pl S).2.2.1 = 0 := by
  obtain ⟨m, i, f, σ, E⟩ := S
  cases σ with
  | nil => exact h
  | cons t τ =>
    obtain ⟨s, g, a⟩ := t
    unfold stp
    dsimp only
    split
    · split
      · intro z; exact absurd rfl z
      · split
        · intro z; exact absurd rfl z
        · split <;> (intro _; rfl)
    · split
      · split
        · intro _; rfl
        · split
          · intro _; rfl
          · split <;> (intro _; rfl)
      · split
        · split
          · intro _; rfl
          · split
            · intro _; rfl
            · split <;> (intro _; rfl)
        · split
          · split
            · intro _; rfl
            · split <;> (intro _; rfl)
          · split
            · split
              · intro _; rfl
              · split
                · intro _; rfl
                · intro z; exact absurd rfl z
            · exact h
theorem Rch_f {kd pl : Nat → Nat} {i : Nat} {S : AS} (h : Rch kd pl (S0 i) S) : S.1 ≠ 3 → S.2.2.1 = 0 := by
  obtain ⟨m, rfl⟩ := h
  have : ∀ m (T : AS), (T.1 ≠ 3 → T.2.2.1 = 0) → (rpt kd pl m T).1 ≠ 3 → (rpt kd pl m T).2.2.1 = 0 := by
    intro m
    induction m with
    | zero => intro T hT; exact hT
    | succ m ih => intro T hT; exact ih _ (stp_f hT)
  exact this m (S0 i) (fun _ => rfl)
section MEx4
variable {X : XW} {o n : Nat} {kd pl : Nat → Nat}
theorem m_hasSign (G : MG X o n kd pl) {i : Nat} (hi : i ≤ n) (h7 : xI X o 7 = nI i) (h8 : xI X o 8 = 0) : fX10_hasSign o 40 X = some (b01 (kd i = 17), wI X o 7 (nI (if kd i = 17 then i + 1 else i))) := by
  have L := G.1
  have hs : fX10_isSign o 40 X = some (b01 (kd i = 17), X) := m_isSign G hi h7 h8 (s := 0) (by decide)
  unfold fX10_hasSign fX10_hasSign_j20
  rw [gK_M L, sb, hs, sb]
  dsimp only
  rw [gI_M L, sb, h7, nI_1, Int32.add_zero, pI_M L, sb, pI_M L, sb, show zG (b01 (kd i = 17)) = some () from if_pos (b01_01 _), sb, sb]
  by_cases q : kd i = 17
  · rw [b01_y q, if_neg (by decide), if_pos q]
  · rw [b01_n q, if_pos rfl, if_neg q]
theorem wI_same {a k : Nat} {x : Int32} (h : xI X a k = x) : wI X a k x = X := by
  unfold wI
  refine Prod.ext rfl (Prod.ext rfl (Prod.ext ?_ rfl))
  funext b j
  show (if b = a ∧ j = k then x else X.2.2.1 b j) = X.2.2.1 b j
  by_cases q : b = a ∧ j = k
  · rw [if_pos q, ← h, q.1, q.2]
    rfl
  · rw [if_neg q]
theorem m_part (G : MG X o n kd pl) (hpl : ∀ j, j ≤ n → pl j ≤ 1000) {b i i0 : Nat} {σ : List Wt} {E : Ex} (hb : b ≤ i0 + 48) (A : AI kd n i0 (0, i, 0, σ, E)) (M : MA X o b (0, i, 0, σ, E)) : ∃ r X1 S1, fX10_part o X = some (r, X1) ∧ Rch kd pl (0, i, 0, σ, E) S1 ∧ MA X1 o b S1 ∧ mfm o KG X X1 ∧ Kp X X1 o b ∧ ((r = 1 ∧ S1.1 = 0 ∧ S1.2.1 = i + 1 ∧ S1.2.2.1 = 0) ∨ (r = 0 ∧ S1.1 = 1 ∧ S1.2.1 = i + 1 ∧ S1.2.2.1 = 0) ∨ (r = 0 ∧ S1.1 = 3 ∧ 0 < S1.2.2.1 ∧ S1.2.2.1 ≤ 16005)) := by
  have L := G.1
  have hn := G.2.2.2.1
  have hkd := G.2.2.2.2.1
  have hkn := G.2.2.2.2.2
  have hbE := ai_b A hb hn
  obtain ⟨A1, A2, A3, A4, A5, A6, A7, A8, A9, A10, A11, A12, A13, A14⟩ := A
  have hi : i ≤ n := A2
  cases σ with
  | nil => exact absurd rfl (A7 (Or.inl rfl))
  | cons t τ =>
    obtain ⟨s, g, a⟩ := t
    have hl : τ.length + 1 ≤ 6 := A4
    obtain ⟨m22, w1, w2, w3, w4⟩ := M.2.2.2 (show 0 ≠ 2 by decide) (show 0 ≠ 3 by decide)
    have d22 : xI X o 22 = nI τ.length := m22
    have m7 : xI X o 7 = nI i := M.1
    have m8 : xI X o 8 = 0 := M.2.1
    have mc : MC X o b E := M.2.2.1
    have htk := (G.2.1 i (by omega)).1
    have hpw := m_partWord G hi m7 m8
    have h40 : fX10_isSign o 40 X = some (b01 (kd i = 17), X) := m_isSign G hi m7 m8 (s := 0) (by decide)
    have hhs := m_hasSign G hi m7 m8
    have s0 : stp kd pl (0, i, 0, (s, g, a) :: τ, E) = (if ¬ isP (kd i) then (3, i, 1 + 16 * pl i, (s, g, a) :: τ, E) else if τ.length = 5 then (3, i, 5 + 16 * pl i, (s, g, a) :: τ, E) else if kd i = 17 then (0, i + 1, 0, (0, 0, 0) :: (s, g, a) :: τ, E) else (1, i + 1, 0, (s, g, a) :: τ, psh E (if 26 ≤ kd i then (1, kd i - 26) else (2, kd i)))) := rfl
    generalize hw : (if kd i ≤ 12 then nI (kd i) else -1 : Int32) = w at *
    have hw0 : (0 ≤ w) = (kd i ≤ 12) := by
      rw [← hw]
      by_cases q : kd i ≤ 12
      · rw [if_pos q]
        exact propext ⟨fun _ => q, fun _ => nI_pos' (by omega)⟩
      · rw [if_neg q]
        exact propext ⟨fun z => absurd z (by decide), fun z => absurd z q⟩
    have hj59f : ∀ x : Nat, x = 1 ∨ x = 5 → fX10_part_j59 o w (wI X o 8 (nI (x + 16 * pl i))) = some (0, wI X o 8 (nI (x + 16 * pl i))) := fun x hx => by
      have L1 : LM (wI X o 8 (nI (x + 16 * pl i))) o := L.mv (tr1 rfl)
      have := hpl i hi
      unfold fX10_part_j59
      rw [gI_M L1, sb, xI_we, if_neg (nI_nle (by omega) (by omega))]
    have fin3 : ∀ x : Nat, x = 1 ∨ x = 5 → stp kd pl (0, i, 0, (s, g, a) :: τ, E) = (3, i, x + 16 * pl i, (s, g, a) :: τ, E) → fX10_part o X = some (0, wI X o 8 (nI (x + 16 * pl i))) → ∃ r X1 S1, fX10_part o X = some (r, X1) ∧ Rch kd pl (0, i, 0, (s, g, a) :: τ, E) S1 ∧ MA X1 o b S1 ∧ mfm o KG X X1 ∧ Kp X X1 o b ∧ ((r = 1 ∧ S1.1 = 0 ∧ S1.2.1 = i + 1 ∧ S1.2.2.1 = 0) ∨ (r = 0 ∧ S1.1 = 1 ∧ S1.2.1 = i + 1 ∧ S1.2.2.1 = 0) ∨ (r = 0 ∧ S1.1 = 3 ∧ 0 < S1.2.2.1 ∧ S1.2.2.1 ≤ 16005)) := fun x hx hs hp =>
      ⟨0, _, _, hp, Rch.st hs, ⟨(xI_wn (by decide)).trans m7, xI_we, mc.mf (K := [8]) (mfm.wI (by decide)) (by decide), fun _ z => absurd rfl z⟩, mfm.wI (by decide), Kp.mf (K := [8]) (mfm.wI (by decide)) (by decide) (by decide), Or.inr (Or.inr ⟨rfl, rfl, by have := hpl i hi; show 0 < x + 16 * pl i ∧ x + 16 * pl i ≤ 16005; omega⟩)⟩
    by_cases c1 : isP (kd i)
    rotate_left 1
    · rw [if_pos c1] at s0
      have hwr : fX10_wrong o 1 X = some (wI X o 8 (nI (1 + 16 * pl i))) := m_wrong G (x := 1) hi m7 m8
      have n26 : ¬ 26 ≤ kd i := fun z => c1 (Or.inl z)
      have n12 : ¬ kd i ≤ 12 := fun z => c1 (Or.inr (Or.inl z))
      have n17 : ¬ kd i = 17 := fun z => c1 (Or.inr (Or.inr z))
      refine fin3 1 (Or.inl rfl) s0 ?_
      unfold fX10_part
      rw [gK_M L, sb, hpw, sb]
      dsimp only
      rw [gI_M L, sb, m8, if_pos rfl, rM4 L, sb, gI_M L, sb, m7, aM4 L (by omega), sb, if_neg (fun z => n26 (htk.2.2.1.mp z)), gK_M L, sb, h40, sb, b01_n n17]
      dsimp only
      rw [if_pos rfl, if_neg (by rw [hw0]; exact n12), gK_M L, sb, hwr, sb, hj59f 1 (Or.inl rfl)]
    rw [if_neg (fun z => z c1)] at s0
    have h46 : fX10_part o X = fX10_part_j46 o w X := by
      unfold fX10_part
      rw [gK_M L, sb, hpw, sb]
      dsimp only
      rw [gI_M L, sb, m8, if_pos rfl, rM4 L, sb, gI_M L, sb, m7, aM4 L (by omega), sb]
      by_cases q : xA X (mA o 4) i = 2
      · rw [if_pos q]
      · rw [if_neg q, gK_M L, sb, h40, sb]
        dsimp only
        by_cases q2 : kd i = 17
        · rw [b01_y q2, if_neg (by decide)]
        · rw [b01_n q2, if_pos rfl, if_pos (by rw [hw0]; exact (c1.resolve_left (fun z => q (htk.2.2.1.mpr z))).resolve_right q2)]
    by_cases c2 : τ.length = 5
    · rw [if_pos c2] at s0
      have hwr : fX10_wrong o 5 X = some (wI X o 8 (nI (5 + 16 * pl i))) := m_wrong G (x := 5) hi m7 m8
      refine fin3 5 (Or.inr rfl) s0 ?_
      rw [h46]
      unfold fX10_part_j46
      rw [gI_M L, sb, d22, c2, if_pos (by decide), gK_M L, sb, hwr, sb, hj59f 5 (Or.inr rfl)]
    rw [if_neg c2] at s0
    have h59 : fX10_part o X = fX10_part_j59 o w X := by
      rw [h46]
      unfold fX10_part_j46
      rw [gI_M L, sb, d22, if_neg (show ¬ nI τ.length = (5 : Int32) from fun z => c2 ((nI_eq (b := 5) (by omega) (by decide)).mp z))]
    by_cases c3 : kd i = 17
    · rw [if_pos c3] at s0
      rw [if_pos c3, b01_y c3] at hhs
      generalize hY : wI X o 7 (nI (i + 1)) = Y at hhs
      have FY : mfm o [7, 22] X Y := by rw [← hY]; exact mfm.wI (by decide)
      have LY := L.mf FY
      have y22 : xI Y o 22 = nI τ.length := by rw [← hY, xI_wn (by decide)]; exact d22
      have FZ : mfm o [7, 22] X (wI Y o 22 (nI (τ.length + 1))) := FY.tr (mfm.wI (by decide))
      obtain ⟨Z1, z1, z2, z23, z24, z25, zk⟩ := m_opens (L.mf FZ) (d := τ.length + 1) (by omega) xI_we
      refine ⟨1, Z1, (0, i + 1, 0, (0, 0, 0) :: (s, g, a) :: τ, E), ?_, Rch.st s0, ⟨?_, ?_, ?_, fun _ _ => ⟨?_, z23, z24, z25, ?_⟩⟩, (FZ.wk (by decide)).tr (z2.wk (by decide)), (Kp.mf FZ (by decide) (by decide)).tr (Kp.mf z2 (by decide) (by decide)), Or.inl ⟨rfl, rfl, rfl, rfl⟩⟩
      · rw [h59]
        unfold fX10_part_j59
        rw [gI_M L, sb, m8, if_pos (by decide), gK_M L, sb, hhs, sb]
        dsimp only
        rw [if_neg (by decide), gI_M LY, sb, y22, nI_1, pI_M LY, sb, gK_M (L.mf FZ), sb, z1, sb]
      · rw [z2.I (by decide), xI_wn (by decide), ← hY, xI_we]
      · rw [z2.I (by decide), xI_wn (by decide), ← hY, xI_wn (by decide)]; exact m8
      · exact (mc.mf FZ (by decide)).mf z2 (by decide)
      · rw [z2.I (by decide), xI_we]
        rfl
      · exact MW.up (X := X) (d := τ.length + 1) (fun k hk => by rw [zk 23 (by decide) (by decide) k hk, FZ.A (k := 23) (by decide) (by decide) (by decide)]) (fun k hk => by rw [zk 24 (by decide) (by decide) k hk, FZ.A (k := 24) (by decide) (by decide) (by decide)]) (fun k hk => by rw [zk 25 (by decide) (by decide) k hk, FZ.A (k := 25) (by decide) (by decide) (by decide)]) (Nat.le_refl _) (show MW X o ((s, g, a) :: τ) from ⟨w1, w2, w3, w4⟩)
    · rw [if_neg c3] at s0
      rw [if_neg c3, b01_n c3, wI_same m7] at hhs
      generalize hp : (if 26 ≤ kd i then (1, kd i - 26) else (2, kd i) : Nat × Nat) = p at s0
      obtain ⟨Z, z1, z2, z3, z4⟩ := m_emit L mc hbE p
      have LZ := L.mf z2
      have i7 : xI Z o 7 = nI i := by rw [z2.I (by decide)]; exact m7
      have hj121 : fX10_part_j121 o (nI p.2) (nI p.1) o X = some (0, wI Z o 7 (nI (i + 1))) := by
        unfold fX10_part_j121
        rw [gK_M L, sb, z1, sb, gI_M LZ, sb, i7, nI_1, pI_M LZ, sb]
      refine ⟨0, wI Z o 7 (nI (i + 1)), (1, i + 1, 0, (s, g, a) :: τ, psh E p), ?_, Rch.st s0, ⟨xI_we, ?_, z3.mf (K := [7]) (mfm.wI (by decide)) (by decide), fun _ _ => ⟨?_, ?_⟩⟩, (z2.wk (by decide)).tr (mfm.wI (by decide)), fun k hk => z4 k hk, Or.inr (Or.inl ⟨rfl, rfl, rfl, rfl⟩)⟩
      · rw [h59]
        unfold fX10_part_j59
        rw [gI_M L, sb, m8, if_pos (by decide), gK_M L, sb, hhs, sb]
        dsimp only
        rw [if_pos rfl]
        unfold fX10_part_j103
        by_cases q : kd i ≤ 12
        · rw [if_pos (by rw [hw0]; exact q), if_pos (by rw [hw0]; exact q), ← hj121, ← hp, if_neg (by omega), ← hw, if_pos q]
          rfl
        · have q26 : 26 ≤ kd i := by
            rcases c1 with z | z | z
            · exact z
            · exact absurd z q
            · exact absurd z c3
          rw [if_neg (by rw [hw0]; exact q), if_neg (by rw [hw0]; exact q), rM6 L, sb, gI_M L, sb, m7, aM6 L (by omega), sb, htk.2.2.2.1 q26, ← hj121, ← hp, if_pos q26]
          rfl
      · rw [xI_wn (by decide), z2.I (by decide)]; exact m8
      · rw [xI_wn (by decide), z2.I (by decide)]; exact d22
      · exact MW.mf (X := X) (fun k => by rw [xA_wI, z2.A (k := 23) (by decide) (by decide) (by decide)]) (fun k => by rw [xA_wI, z2.A (k := 24) (by decide) (by decide) (by decide)]) (fun k => by rw [xA_wI, z2.A (k := 25) (by decide) (by decide) (by decide)]) (show MW X o ((s, g, a) :: τ) from ⟨w1, w2, w3, w4⟩)
theorem m_expression (G : MG X o n kd pl) (hpl : ∀ j, j ≤ n → pl j ≤ 1000) {b i : Nat} (hi : i ≤ n) (hb : b ≤ i + 48) (h7 : xI X o 7 = nI i) (h8 : xI X o 8 = 0) (h21 : xI X o 21 = nI b) : ∃ X1 S1, fX10_expression o X = some X1 ∧ Rch kd pl (S0 i) S1 ∧ (S1.1 = 2 ∧ S1.2.2.1 = 0 ∨ S1.1 = 3 ∧ 0 < S1.2.2.1 ∧ S1.2.2.1 ≤ 16005) ∧ xI X1 o 7 = nI S1.2.1 ∧ xI X1 o 8 = nI S1.2.2.1 ∧ xI X1 o 21 = nI (b + S1.2.2.2.2.1 + 1) ∧ MEx X1 o (4240 + b) S1.2.2.2.2 ∧ mfm o KG X X1 ∧ Kp X X1 o b ∧ b + S1.2.2.2.2.1 < 1060 := by
  have L := G.1
  have hn := G.2.2.2.1
  have hkd := G.2.2.2.2.1
  have hkn := G.2.2.2.2.2
  have F0 : mfm o KG X (wI X o 22 (nI 0)) := mfm.wI (by decide)
  obtain ⟨Y, y1, y2, y23, y24, y25, yk⟩ := m_opens (L.mf F0) (d := 0) (by decide) xI_we
  have FY : mfm o KG X Y := F0.tr (y2.wk (by decide))
  have KY : Kp X Y o b := (Kp.mf (K := [22]) (mfm.wI (by decide)) (by decide) (by decide)).tr (Kp.mf y2 (by decide) (by decide))
  have MY : MA Y o b (S0 i) := ⟨by rw [y2.I (by decide), xI_wn (by decide)]; exact h7, by rw [y2.I (by decide), xI_wn (by decide)]; exact h8, ⟨by rw [y2.I (by decide), xI_wn (by decide)]; exact h21, fun j hj => absurd hj (Nat.not_lt_zero _)⟩, fun _ _ => ⟨by rw [y2.I (by decide), xI_we]; rfl, y23, y24, y25, trivial⟩⟩
  have A0 : AI kd n i (S0 i) := AI_0 hi
  have key := iterP2 (b := fun rec => fX10_expression_l11_b rec o) (z := fun _ _ => none) (fun m a Z => ∃ S, Rch kd pl (S0 i) S ∧ MA Z o b S ∧ mfm o KG X Z ∧ Kp X Z o b ∧ ((S.1 = 0 ∧ S.2.2.1 = 0 ∧ a = 1 ∧ m = n - S.2.1 + 1) ∨ (m = 0 ∧ ((S.1 = 2 ∧ S.2.2.1 = 0 ∧ a = 0) ∨ (S.1 = 3 ∧ 0 < S.2.2.1 ∧ S.2.2.1 ≤ 16005))))) (fun Z => ∃ S, Rch kd pl (S0 i) S ∧ MA Z o b S ∧ mfm o KG X Z ∧ Kp X Z o b ∧ (S.1 = 2 ∧ S.2.2.1 = 0 ∨ S.1 = 3 ∧ 0 < S.2.2.1 ∧ S.2.2.1 ≤ 16005)) ?_ FU (n - i + 1) 1 Y (FUlt (by omega)) ⟨S0 i, Rch.rf _, MY, FY, KY, Or.inl ⟨rfl, rfl, rfl, rfl⟩⟩
  · obtain ⟨Z, g1, S, g2, g3, g4, g5, g6⟩ := key
    have LZ := L.mf g4
    have AS' := A0.rc hkd hkn g2
    have hbS := ai_b AS' hb hn
    obtain ⟨Z1, z1, z2, z3, z4⟩ := m_emit LZ g3.2.2.1 hbS (0, 0)
    refine ⟨Z1, S, ?_, g2, g6, ?_, ?_, z3.1, ⟨fun j hj => ?_, ?_⟩, g4.tr (z2.wk (by decide)), g5.tr z4, hbS⟩
    · unfold fX10_expression
      rw [show (0 : Int32) = nI 0 from rfl, pI_M L, sb, gK_M (L.mf F0), sb, y1, sb, show fX10_expression_l11 o FU 1 Y = some Z from g1, sb, gK_M LZ, sb, show fX10_emit o (nI 0) (nI 0) Z = some Z1 from z1, sb]
    · rw [z2.I (by decide)]; exact g3.1
    · rw [z2.I (by decide)]; exact g3.2.1
    · have h3 := z3.2 j (Nat.lt_succ_of_lt hj)
      rw [psh_lt hj] at h3
      exact ⟨h3.1, fun _ => h3.2⟩
    · have h3 := z3.2 S.2.2.2.2.1 (Nat.lt_succ_self _)
      rw [psh_e] at h3
      exact h3.1
  rintro m a Z ⟨S, hr, MZ, FZ, KZ, hS⟩
  have GZ := G.mf FZ KG_o
  have AS' := A0.rc hkd hkn hr
  rcases hS with ⟨s1, s0, rfl, rfl⟩ | ⟨rfl, hT⟩
  · right
    obtain ⟨m', i', f', σ', E'⟩ := S
    have s1 : m' = 0 := s1
    have s0 : f' = 0 := s0
    subst s1 s0
    have hi' : i' ≤ n := AS'.2.1
    have m8 : xI Z o 8 = 0 := MZ.2.1
    obtain ⟨r, X1, S1, p1, p2, p3, p4, p5, p6⟩ := m_part GZ hpl hb AS' MZ
    have G1 := GZ.mf p4 KG_o
    have L1 := G1.1
    have r1 := hr.tr p2
    have A1 := A0.rc hkd hkn r1
    have hi1 := A1.2.1
    have hd : ∀ rec : Int32 → XW → Option XW, fX10_expression_l11_b rec o 1 Z = (if (r = 0 : Prop) then (fX10_goesOnBehind o X1 >>= fun r9 => if (r9.1 = 0 : Prop) then (fX10_expression_j41 rec o 0 r9.2) else (fX10_expression_j36 rec o r9.2)) else (fX10_expression_j36 rec o X1)) := fun rec => by
      unfold fX10_expression_l11_b
      rw [if_neg (by decide), gI_M GZ.1, sb, m8, if_pos rfl, gK_M GZ.1, sb, p1, sb]
      dsimp only
      rw [gK_M L1, sb]
    rcases p6 with ⟨rfl, q1, q2, q3⟩ | ⟨rfl, q1, q2, q3⟩ | ⟨rfl, q1, q2, q3⟩
    · refine ⟨n - S1.2.1 + 1, 1, X1, by show n - S1.2.1 + 1 < n - i' + 1; omega, ⟨S1, r1, p3, FZ.tr p4, KZ.tr p5, Or.inl ⟨q1, q3, rfl, rfl⟩⟩, fun rec => ?_⟩
      show fX10_expression_l11_b rec o 1 Z = _
      rw [hd, if_neg (by decide)]
      rfl
    · obtain ⟨m1, i1, f1, σ1, E1⟩ := S1
      have q1 : m1 = 1 := q1
      have q3 : f1 = 0 := q3
      have q2 : i1 = i' + 1 := q2
      subst q1 q3 q2
      obtain ⟨r', X2, S2, b1, b2, b3, b4, b5, b6⟩ := m_behind G1 hpl hb A1 p3
      have r2 := r1.tr b2
      have A2 := A0.rc hkd hkn r2
      have hi2 := A2.2.1
      rcases b6 with ⟨rfl, c1, c2⟩ | ⟨rfl, c1⟩ | ⟨rfl, c1, c2⟩
      · -- a further part is due: its fault is 0
        have hf : S2.2.2.1 = 0 := Rch_f r2 (by omega)
        refine ⟨n - S2.2.1 + 1, 1, X2, by show n - S2.2.1 + 1 < n - i' + 1; omega, ⟨S2, r2, b3, (FZ.tr p4).tr b4, (KZ.tr p5).tr b5, Or.inl ⟨c1, hf, rfl, rfl⟩⟩, fun rec => ?_⟩
        show fX10_expression_l11_b rec o 1 Z = _
        rw [hd, if_pos rfl, b1, sb]
        dsimp only
        rw [if_neg (by decide)]
        rfl
      · refine ⟨0, 0, X2, Nat.succ_pos _, ⟨S2, r2, b3, (FZ.tr p4).tr b4, (KZ.tr p5).tr b5, Or.inr ⟨rfl, Or.inl ⟨c1, Rch_f r2 (by omega), rfl⟩⟩⟩, fun rec => ?_⟩
        show fX10_expression_l11_b rec o 1 Z = _
        rw [hd, if_pos rfl, b1, sb]
        dsimp only
        rw [if_pos rfl]
        rfl
      · refine ⟨0, 0, X2, Nat.succ_pos _, ⟨S2, r2, b3, (FZ.tr p4).tr b4, (KZ.tr p5).tr b5, Or.inr ⟨rfl, Or.inr ⟨c1, c2⟩⟩⟩, fun rec => ?_⟩
        show fX10_expression_l11_b rec o 1 Z = _
        rw [hd, if_pos rfl, b1, sb]
        dsimp only
        rw [if_pos rfl]
        rfl
    · have f8 := p3.2.1
      have hbh : fX10_goesOnBehind o X1 = some (0, X1) := by
        refine iter1 (b := fun rec => fX10_goesOnBehind_l0_b rec o) (z := fun _ => none) (sX := fun _ => X1) (N := 0) (res := (0, X1)) (fun k hk => absurd hk (Nat.not_lt_zero _)) (fun rec => ?_) (n := FU) (FUlt (by decide))
        unfold fX10_goesOnBehind_l0_b
        rw [gI_M L1, sb, f8, if_neg (nI_ne0 q2 (by omega))]
      refine ⟨0, 0, X1, Nat.succ_pos _, ⟨S1, r1, p3, FZ.tr p4, KZ.tr p5, Or.inr ⟨rfl, Or.inr ⟨q1, q2, q3⟩⟩⟩, fun rec => ?_⟩
      show fX10_expression_l11_b rec o 1 Z = _
      rw [hd, if_pos rfl, hbh, sb]
      dsimp only
      rw [if_pos rfl]
      rfl
  · left
    have m8 := MZ.2.1
    rcases hT with ⟨t1, t2, t3⟩ | ⟨t1, t2, t3⟩
    · refine ⟨Z, fun rec => ?_, S, hr, MZ, FZ, KZ, Or.inl ⟨t1, t2⟩⟩
      show fX10_expression_l11_b rec o a Z = _
      unfold fX10_expression_l11_b
      rw [if_pos t3]
    · refine ⟨Z, fun rec => ?_, S, hr, MZ, FZ, KZ, Or.inr ⟨t1, t2, t3⟩⟩
      show fX10_expression_l11_b rec o a Z = _
      unfold fX10_expression_l11_b
      by_cases q : a = 0
      · rw [if_pos q]
      · rw [if_neg q, gI_M GZ.1, sb, m8, if_neg (nI_ne0 t2 (by omega))]
end MEx4
