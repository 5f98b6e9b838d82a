/-! sums, tests, all -/
section CGr3
variable {X : XW} {g T n i0 cs w : Nat} {kd pl : Nat → Nat} {rA : Nat → Int32 → XW → Option (Int32 × XW)}
/-- a sign behind a fault -/
theorem g_aft (C : CG X g T n kd pl) {z : Nat} (h : xI X (g + 1) 7 = nI z) (hz : z ≤ T) (x : Int32) {y : Int32} (h4 : xI X g 4 = y) : ∃ X1, fX5_addSign (g + 1) x X = some X1 ∧ xfm (SG3 g) X X1 ∧ xI X1 g 4 = y ∧ ∃ z', z' ≤ T ∧ xI X1 (g + 1) 7 = nI z' := by
  obtain ⟨Y, y1, y2⟩ := g_addS C h hz x
  exact ⟨Y, y1, (y2.fr (Nat.zero_le _)).1, by rw [(y2.1.2 g (by omega)).1]; exact h4, y2.2.2.1⟩
theorem CG.m3 {X1 : XW} (C : CG X g T n kd pl) (F : xfm (SG3 g) X X1) : CG X1 g T n kd pl := C.mv F (fun a q1 q2 q3 => by unfold SG3 at q3; omega)
theorem c_sum (hA : GAll rA kd pl g T n i0 cs (w + 1)) (hc : cs ≤ i0) {i : Nat} {E : Ex} {b a : Nat} {τ : List Wt} (hw : τ.length = w) (C : CG X g T n kd pl) (I : AI kd n i0 (0, i, 0, (0, b, a) :: τ, E)) (A : CA X g kd cs i E) : GRes kd pl g T cs X (0, i, 0, (0, b, a) :: τ, E) 4 ((0, b, a) :: τ) (fX1_readSum rA g (nI w) X) := by
  have hnT := C.2.2.2.2.2.2.2.1
  have hT := C.2.2.2.2.2.2.2.2.1
  have hkd := C.2.2.2.2.2.2.2.2.2.1
  have hkn := C.2.2.2.2.2.2.2.2.2.2.1
  have hP := c_part hA hc hw C I A
  obtain ⟨Z, ⟨z1, z2, i1, E1, z3, z4, z5⟩ | ⟨z1, z2, S', z3, z4, z5, z6, z7, z8⟩⟩ := hP
  rotate_left 1
  · refine ⟨Z, Or.inr ⟨?_, z2, S', z3, z4, z5, z6, z7, z8⟩⟩
    unfold fX1_readSum
    rw [gK_of' C.1, sb, z1, sb]
    dsimp only
    have : fX1_readSum_l8 rA g (nI w) FU 0 0 Z = some (0, Z) := by
      obtain ⟨m, hm⟩ : ∃ m, FU = m + 1 := ⟨FU - 1, by have := FUlt (n := 0) (by decide); omega⟩
      rw [hm]
      show fX1_readSum_l8_b rA (fX1_readSum_l8 rA g (nI w) m) g (nI w) 0 0 Z = _
      unfold fX1_readSum_l8_b
      rw [if_neg (by decide), if_pos rfl]
    rw [this, sb]
    dsimp only
    rw [zG_0, sb]
  have key := iterP3 (b := fun rec => fX1_readSum_l8_b rA rec g (nI w)) (z := fun _ _ _ => none) (fun m x y Y => ∃ k, m = 1002 - k ∧ y = nI k ∧ k ≤ 1001 ∧ ((x = 1 ∧ GFr X Y g cs ∧ ∃ i' E', k < i' ∧ Rch kd pl (0, i, 0, (0, b, a) :: τ, E) (1, i', 0, (0, b, a) :: τ, E') ∧ i < i' ∧ CA Y g kd cs i' E') ∨ (x = 0 ∧ xfm (SG3 g) X Y ∧ ∃ S', Rch kd pl (0, i, 0, (0, b, a) :: τ, E) S' ∧ S'.1 = 3 ∧ 0 < S'.2.2.1 ∧ S'.2.2.1 ≤ 16005 ∧ xI Y g 4 = nI S'.2.2.1 ∧ ∃ z, z ≤ T ∧ xI Y (g + 1) 7 = nI z))) (fun r => GRes kd pl g T cs X (0, i, 0, (0, b, a) :: τ, E) 4 ((0, b, a) :: τ) (some r) ∧ (r.1 = 0 ∨ r.1 = 1)) ?_ FU 1002 1 0 Z (FUlt (by decide)) ⟨0, rfl, rfl, by decide, Or.inl ⟨rfl, z2, i1, E1, by have : i < i1 := z4; omega, z3, z4, z5⟩⟩
  · obtain ⟨r, r1, r2, r3⟩ := key
    have e : fX1_readSum rA g (nI w) X = some r := by
      unfold fX1_readSum
      rw [gK_of' C.1, sb, z1, sb]
      dsimp only
      rw [show fX1_readSum_l8 rA g (nI w) FU 1 0 Z = some r from r1, sb]
      rcases r3 with h | h
      · rw [h, zG_0, sb, ← h]
      · rw [h, zG_1, sb, ← h]
    rw [e]
    exact r2
  rintro m x y Y ⟨k, rfl, rfl, hk, ⟨rfl, F, i', E', h1, h2, h3, h4⟩ | ⟨rfl, F, S', h1, h2, h3, h4, h5, h6⟩⟩
  rotate_left 1
  · left
    refine ⟨(0, Y), fun rec => ?_, ⟨Y, Or.inr ⟨rfl, F, S', h1, h2, h3, h4, h5, h6⟩⟩, Or.inl rfl⟩
    unfold fX1_readSum_l8_b
    by_cases q : 1000 ≤ k
    · rw [if_pos (show (1000 : Int32) ≤ nI k from nI_le (a := 1000) q (by omega))]
    · rw [if_neg (show ¬ (1000 : Int32) ≤ nI k from nI_ge (b := 1000) (by omega) (by decide)), if_pos rfl]
  have CY := C.m3 F.1
  have IY := I.rc hkd hkn h2
  have hi' : i' ≤ n := IY.2.1
  have hE' : E'.1 + pd ((0, b, a) :: τ) + i0 ≤ i' := IY.2.2.1
  have hkb := CY.kb hi'
  have k3 : xI Y g 3 = nI (kd i') := h4.1.2.1
  have hk1 : k < 1000 := by omega
  have s1 : stp kd pl (1, i', 0, (0, b, a) :: τ, E') = if kd i' = 21 then (0, i' + 1, 0, (3, b, a) :: τ, E') else if kd i' = 22 then (0, i' + 1, 0, (4, b, a) :: τ, E') else (4, i', 0, (0, b, a) :: τ, E') := rfl
  have more : ∀ x : Nat, (x = 3 ∨ x = 4) → kd i' = tk x → stp kd pl (1, i', 0, (0, b, a) :: τ, E') = (0, i' + 1, 0, (x, b, a) :: τ, E') → ∃ j a1 c1 X1, j < 1002 - k ∧ (∃ k', j = 1002 - k' ∧ c1 = nI k' ∧ k' ≤ 1001 ∧ ((a1 = 1 ∧ GFr X X1 g cs ∧ ∃ i' E', k' < i' ∧ Rch kd pl (0, i, 0, (0, b, a) :: τ, E) (1, i', 0, (0, b, a) :: τ, E') ∧ i < i' ∧ CA X1 g kd cs i' E') ∨ (a1 = 0 ∧ xfm (SG3 g) X X1 ∧ ∃ S', Rch kd pl (0, i, 0, (0, b, a) :: τ, E) S' ∧ S'.1 = 3 ∧ 0 < S'.2.2.1 ∧ S'.2.2.1 ≤ 16005 ∧ xI X1 g 4 = nI S'.2.2.1 ∧ ∃ z, z ≤ T ∧ xI X1 (g + 1) 7 = nI z))) ∧ ∀ rec, fX1_readSum_j37 rA rec g (nI w) (nI k) Y = rec a1 c1 X1 := fun x hx hkx hs => by
    have hin : i' < n := CY.lt hi' (by rw [hkx]; rcases hx with rfl | rfl <;> decide)
    obtain ⟨V, v1, v2, v3⟩ := g_goOn CY h4.1 hin
    have CV := CY.mv v3 (fun a q1 q2 => by omega)
    have AV := h4.g v3 v2
    have hr1 := h2.tr (Rch.st hs)
    have IV := I.rc hkd hkn hr1
    have hP := c_part hA hc hw CV IV AV
    obtain ⟨U, ⟨u1, u2, i2, E2, u3, u4, u5⟩ | ⟨u1, u2, S', u3, u4, u5, u6, u7, z, u8, u9⟩⟩ := hP
    · have CU := CV.m3 u2.1
      have IU := IV.rc hkd hkn u3
      have hi2 : i2 ≤ n := IU.2.1
      have hE2 : E2.1 + (nz x + nz b + nz a + pd τ) + i0 ≤ i2 := IU.2.2.1
      have hx0 : ¬ x = 0 := by omega
      rw [nz_1 hx0] at hE2
      have hlt : i' + 1 < i2 := u4
      obtain ⟨W, w1, w2⟩ := g_addS CU u5.2.1 (by omega) (nI (kd i'))
      have w2 : GAd U W g T (cs + E2.1) (cen (x, 0)) := by
        have : cen (x, 0) = (-1) - nI (kd i') := by
          rw [hkx]
          rcases hx with rfl | rfl <;> rfl
        rw [this]
        exact w2
      have s1' : stp kd pl (1, i2, 0, (x, b, a) :: τ, E2) = (1, i2, 0, (0, b, a) :: τ, psh E2 (x, 0)) := (show stp kd pl (1, i2, 0, (x, b, a) :: τ, E2) = (if ¬ x = 0 then (1, i2, 0, (0, b, a) :: τ, psh E2 (x, 0)) else if kd i2 = 21 then (0, i2 + 1, 0, (3, b, a) :: τ, E2) else if kd i2 = 22 then (0, i2 + 1, 0, (4, b, a) :: τ, E2) else (4, i2, 0, (x, b, a) :: τ, E2)) from rfl).trans (if_pos hx0)
      refine ⟨1002 - (k + 1), 1, nI (k + 1), W, by omega, ⟨k + 1, rfl, rfl, by omega, Or.inl ⟨rfl, ((F.tr (GFr.g v3)).tr u2).tr (w2.fr (by omega)), i2, psh E2 (x, 0), by omega, (hr1.tr u3).tr (Rch.st s1'), by omega, u5.psh w2 (by omega)⟩⟩, fun rec => ?_⟩
      unfold fX1_readSum_j37
      rw [gI_of CY.1, sb, k3, gK_of' CY.1, sb, v1, sb, gK_of' CV.1, sb, u1, sb]
      dsimp only
      rw [gR_of CU.1 CU.2.1, sb, gK_of' CU.2.2.2.2.2.1.1, sb, w1, sb, nI_1]
    · have CU := CV.m3 u2
      obtain ⟨W, w1, w2, w3, w4⟩ := g_aft CU u9 u8 (nI (kd i')) u7
      refine ⟨1002 - (k + 1), 0, nI (k + 1), W, by omega, ⟨k + 1, rfl, rfl, by omega, Or.inr ⟨rfl, ((F.tr (GFr.g v3)).1.tr u2).tr w2, S', hr1.tr u3, u4, u5, u6, w3, w4⟩⟩, fun rec => ?_⟩
      unfold fX1_readSum_j37
      rw [gI_of CY.1, sb, k3, gK_of' CY.1, sb, v1, sb, gK_of' CV.1, sb, u1, sb]
      dsimp only
      rw [gR_of CU.1 CU.2.1, sb, gK_of' CU.2.2.2.2.2.1.1, sb, w1, sb, nI_1]
  have hb : ∀ rec, fX1_readSum_l8_b rA rec g (nI w) 1 (nI k) Y = if kd i' = 21 then fX1_readSum_j37 rA rec g (nI w) (nI k) Y else if kd i' = 22 then fX1_readSum_j37 rA rec g (nI w) (nI k) Y else some (1, Y) := fun rec => by
    unfold fX1_readSum_l8_b
    rw [if_neg (show ¬ (1000 : Int32) ≤ nI k from nI_ge (b := 1000) hk1 (by decide)), if_neg (by decide), gI_of CY.1, sb, k3, sb]
    by_cases q : kd i' = 21
    · rw [if_pos q, if_pos (show nI (kd i') = (21 : Int32) from (nI_eq (b := 21) (by omega) (by decide)).mpr q)]
    · rw [if_neg q, if_neg (show ¬ nI (kd i') = (21 : Int32) from fun z => q ((nI_eq (b := 21) (by omega) (by decide)).mp z))]
      by_cases q2 : kd i' = 22
      · rw [if_pos q2, if_pos (show nI (kd i') = (22 : Int32) from (nI_eq (b := 22) (by omega) (by decide)).mpr q2)]
      · rw [if_neg q2, if_neg (show ¬ nI (kd i') = (22 : Int32) from fun z => q2 ((nI_eq (b := 22) (by omega) (by decide)).mp z))]
  by_cases c1 : kd i' = 21
  · right
    rw [if_pos c1] at s1
    obtain ⟨j, a1, c2, X1, g1, g2, g3⟩ := more 3 (Or.inl rfl) c1 s1
    exact ⟨j, a1, c2, X1, g1, g2, fun rec => by rw [hb, if_pos c1, g3]⟩
  rw [if_neg c1] at s1
  by_cases c2 : kd i' = 22
  · right
    rw [if_pos c2] at s1
    obtain ⟨j, a1, c2', X1, g1, g2, g3⟩ := more 4 (Or.inr rfl) c2 s1
    exact ⟨j, a1, c2', X1, g1, g2, fun rec => by rw [hb, if_neg c1, if_pos c2, g3]⟩
  left
  rw [if_neg c2] at s1
  exact ⟨(1, Y), fun rec => by rw [hb, if_neg c1, if_neg c2], ⟨Y, Or.inl ⟨rfl, F, i', E', h2.tr (Rch.st s1), h3, h4⟩⟩, Or.inr rfl⟩
theorem c_test (hA : GAll rA kd pl g T n i0 cs (w + 1)) (hc : cs ≤ i0) {i : Nat} {E : Ex} {a : Nat} {τ : List Wt} (hw : τ.length = w) (C : CG X g T n kd pl) (I : AI kd n i0 (0, i, 0, (0, 0, a) :: τ, E)) (A : CA X g kd cs i E) : GRes kd pl g T cs X (0, i, 0, (0, 0, a) :: τ, E) 5 ((0, 0, a) :: τ) (fX1_readTest rA g (nI w) X) := by
  have hnT := C.2.2.2.2.2.2.2.1
  have hT := C.2.2.2.2.2.2.2.2.1
  have hkd := C.2.2.2.2.2.2.2.2.2.1
  have hkn := C.2.2.2.2.2.2.2.2.2.2.1
  have hP := c_sum hA hc hw C I A
  obtain ⟨Y, ⟨z1, F, i', E', h2, h3, h4⟩ | ⟨z1, z2, S', z3, z4, z5, z6, z7, z8⟩⟩ := hP
  rotate_left 1
  · refine ⟨Y, Or.inr ⟨?_, z2, S', z3, z4, z5, z6, z7, z8⟩⟩
    unfold fX1_readTest
    rw [gK_of' C.1, sb, z1, sb]
    dsimp only
    rw [if_pos rfl, zG_0, sb]
  have CY := C.m3 F.1
  have IY := I.rc hkd hkn h2
  have hi' : i' ≤ n := IY.2.1
  have hkb := CY.kb hi'
  have k3 : xI Y g 3 = nI (kd i') := h4.1.2.1
  have h3 : i < i' := h3
  have s4 : stp kd pl (4, i', 0, (0, 0, a) :: τ, E') = if kd i' = 19 then (0, i' + 1, 0, (0, 5, a) :: τ, E') else if kd i' = 20 then (0, i' + 1, 0, (0, 6, a) :: τ, E') else (5, i', 0, (0, 0, a) :: τ, E') := rfl
  have hb : fX1_readTest rA g (nI w) X = if kd i' = 19 then fX1_readTest_j28 rA g (nI w) Y else if kd i' = 20 then fX1_readTest_j28 rA g (nI w) Y else some (1, Y) := by
    unfold fX1_readTest
    rw [gK_of' C.1, sb, z1, sb]
    dsimp only
    rw [if_neg (by decide), gI_of CY.1, sb, k3, sb]
    by_cases q : kd i' = 19
    · rw [if_pos q, if_pos (show nI (kd i') = (19 : Int32) from (nI_eq (b := 19) (by omega) (by decide)).mpr q)]
    · rw [if_neg q, if_neg (show ¬ nI (kd i') = (19 : Int32) from fun z => q ((nI_eq (b := 19) (by omega) (by decide)).mp z))]
      by_cases q2 : kd i' = 20
      · rw [if_pos q2, if_pos (show nI (kd i') = (20 : Int32) from (nI_eq (b := 20) (by omega) (by decide)).mpr q2)]
      · rw [if_neg q2, if_neg (show ¬ nI (kd i') = (20 : Int32) from fun z => q2 ((nI_eq (b := 20) (by omega) (by decide)).mp z)), zG_1, sb]
  have more : ∀ x : Nat, (x = 5 ∨ x = 6) → kd i' = tk x → stp kd pl (4, i', 0, (0, 0, a) :: τ, E') = (0, i' + 1, 0, (0, x, a) :: τ, E') → GRes kd pl g T cs X (0, i, 0, (0, 0, a) :: τ, E) 5 ((0, 0, a) :: τ) (fX1_readTest_j28 rA g (nI w) Y) := fun x hx hkx hs => by
    have hin : i' < n := CY.lt hi' (by rw [hkx]; rcases hx with rfl | rfl <;> decide)
    obtain ⟨V, v1, v2, v3⟩ := g_goOn CY h4.1 hin
    have CV := CY.mv v3 (fun a q1 q2 => by omega)
    have AV := h4.g v3 v2
    have hr1 := h2.tr (Rch.st hs)
    have IV := I.rc hkd hkn hr1
    have hP := c_sum hA hc hw CV IV AV
    obtain ⟨U, ⟨u1, u2, i2, E2, u3, u4, u5⟩ | ⟨u1, u2, S', u3, u4, u5, u6, u7, z, u8, u9⟩⟩ := hP
    · have CU := CV.m3 u2.1
      have IU := IV.rc hkd hkn u3
      have hi2 : i2 ≤ n := IU.2.1
      have hE2 : E2.1 + (nz 0 + nz x + nz a + pd τ) + i0 ≤ i2 := IU.2.2.1
      have hx0 : ¬ x = 0 := by omega
      rw [nz_1 hx0] at hE2
      have hlt : i' + 1 < i2 := u4
      obtain ⟨W, w1, w2⟩ := g_addS CU u5.2.1 (by omega) (nI (kd i'))
      have w2 : GAd U W g T (cs + E2.1) (cen (x, 0)) := by
        have : cen (x, 0) = (-1) - nI (kd i') := by
          rw [hkx]
          rcases hx with rfl | rfl <;> rfl
        rw [this]
        exact w2
      have s1' : stp kd pl (4, i2, 0, (0, x, a) :: τ, E2) = (5, i2, 0, (0, 0, a) :: τ, psh E2 (x, 0)) := (show stp kd pl (4, i2, 0, (0, x, a) :: τ, E2) = (if ¬ x = 0 then (5, i2, 0, (0, 0, a) :: τ, psh E2 (x, 0)) else if kd i2 = 19 then (0, i2 + 1, 0, (0, 5, a) :: τ, E2) else if kd i2 = 20 then (0, i2 + 1, 0, (0, 6, a) :: τ, E2) else (5, i2, 0, (0, x, a) :: τ, E2)) from rfl).trans (if_pos hx0)
      refine ⟨W, Or.inl ⟨?_, ((F.tr (GFr.g v3)).tr u2).tr (w2.fr (by omega)), i2, psh E2 (x, 0), (hr1.tr u3).tr (Rch.st s1'), by show i < i2; omega, u5.psh w2 (by omega)⟩⟩
      unfold fX1_readTest_j28
      rw [gI_of CY.1, sb, k3, gK_of' CY.1, sb, v1, sb, gK_of' CV.1, sb, u1, sb]
      dsimp only
      rw [gR_of CU.1 CU.2.1, sb, gK_of' CU.2.2.2.2.2.1.1, sb, w1, sb, zG_1, sb]
    · have CU := CV.m3 u2
      obtain ⟨W, w1, w2, w3, w4⟩ := g_aft CU u9 u8 (nI (kd i')) u7
      refine ⟨W, Or.inr ⟨?_, ((F.tr (GFr.g v3)).1.tr u2).tr w2, S', hr1.tr u3, u4, u5, u6, w3, w4⟩⟩
      unfold fX1_readTest_j28
      rw [gI_of CY.1, sb, k3, gK_of' CY.1, sb, v1, sb, gK_of' CV.1, sb, u1, sb]
      dsimp only
      rw [gR_of CU.1 CU.2.1, sb, gK_of' CU.2.2.2.2.2.1.1, sb, w1, sb, zG_0, sb]
  rw [hb]
  by_cases c1 : kd i' = 19
  · rw [if_pos c1] at s4 ⊢
    exact more 5 (Or.inl rfl) c1 s4
  rw [if_neg c1] at s4 ⊢
  by_cases c2 : kd i' = 20
  · rw [if_pos c2] at s4 ⊢
    exact more 6 (Or.inr rfl) c2 s4
  rw [if_neg c2] at s4 ⊢
  exact ⟨Y, Or.inl ⟨rfl, F, i', E', h2.tr (Rch.st s4), h3, h4⟩⟩
theorem c_all (hA : GAll rA kd pl g T n i0 cs (w + 1)) (hc : cs ≤ i0) : GAll (fX1_readAll rA) kd pl g T n i0 cs w := by
  intro X i E τ hw C I A
  have hnT := C.2.2.2.2.2.2.2.1
  have hT := C.2.2.2.2.2.2.2.2.1
  have hkd := C.2.2.2.2.2.2.2.2.2.1
  have hkn := C.2.2.2.2.2.2.2.2.2.2.1
  have hP := c_test hA hc hw C I A
  obtain ⟨Z, ⟨z1, z2, i1, E1, z3, z4, z5⟩ | ⟨z1, z2, S', z3, z4, z5, z6, z7, z8⟩⟩ := hP
  rotate_left 1
  · refine ⟨Z, Or.inr ⟨?_, z2, S', z3, z4, z5, z6, z7, z8⟩⟩
    unfold fX1_readAll
    rw [gK_of' C.1, sb, z1, sb]
    dsimp only
    have : fX1_readAll_l8 rA g (nI w) FU 0 0 Z = some (0, Z) := by
      obtain ⟨m, hm⟩ : ∃ m, FU = m + 1 := ⟨FU - 1, by have := FUlt (n := 0) (by decide); omega⟩
      rw [hm]
      show fX1_readAll_l8_b rA (fX1_readAll_l8 rA g (nI w) m) g (nI w) 0 0 Z = _
      unfold fX1_readAll_l8_b
      rw [if_neg (by decide), if_pos rfl]
    rw [this, sb]
    dsimp only
    rw [zG_0, sb]
  have key := iterP3 (b := fun rec => fX1_readAll_l8_b rA rec g (nI w)) (z := fun _ _ _ => none) (fun m x y Y => ∃ k, m = 1002 - k ∧ y = nI k ∧ k ≤ 1001 ∧ ((x = 1 ∧ GFr X Y g cs ∧ ∃ i' E', k < i' ∧ Rch kd pl (0, i, 0, (0, 0, 0) :: τ, E) (5, i', 0, (0, 0, 0) :: τ, E') ∧ i < i' ∧ CA Y g kd cs i' E') ∨ (x = 0 ∧ xfm (SG3 g) X Y ∧ ∃ S', Rch kd pl (0, i, 0, (0, 0, 0) :: τ, E) S' ∧ S'.1 = 3 ∧ 0 < S'.2.2.1 ∧ S'.2.2.1 ≤ 16005 ∧ xI Y g 4 = nI S'.2.2.1 ∧ ∃ z, z ≤ T ∧ xI Y (g + 1) 7 = nI z))) (fun r => GRes kd pl g T cs X (0, i, 0, (0, 0, 0) :: τ, E) 6 ((0, 0, 0) :: τ) (some r) ∧ (r.1 = 0 ∨ r.1 = 1)) ?_ FU 1002 1 0 Z (FUlt (by decide)) ⟨0, rfl, rfl, by decide, Or.inl ⟨rfl, z2, i1, E1, by have : i < i1 := z4; omega, z3, z4, z5⟩⟩
  · obtain ⟨r, r1, r2, r3⟩ := key
    have e : fX1_readAll rA g (nI w) X = some r := by
      unfold fX1_readAll
      rw [gK_of' C.1, sb, z1, sb]
      dsimp only
      rw [show fX1_readAll_l8 rA g (nI w) FU 1 0 Z = some r from r1, sb]
      rcases r3 with h | h
      · rw [h, zG_0, sb, ← h]
      · rw [h, zG_1, sb, ← h]
    rw [e]
    exact r2
  rintro m x y Y ⟨k, rfl, rfl, hk, ⟨rfl, F, i', E', h1, h2, h3, h4⟩ | ⟨rfl, F, S', h1, h2, h3, h4, h5, h6⟩⟩
  rotate_left 1
  · left
    refine ⟨(0, Y), fun rec => ?_, ⟨Y, Or.inr ⟨rfl, F, S', h1, h2, h3, h4, h5, h6⟩⟩, Or.inl rfl⟩
    unfold fX1_readAll_l8_b
    by_cases q : 1000 ≤ k
    · rw [if_pos (show (1000 : Int32) ≤ nI k from nI_le (a := 1000) q (by omega))]
    · rw [if_neg (show ¬ (1000 : Int32) ≤ nI k from nI_ge (b := 1000) (by omega) (by decide)), if_pos rfl]
  have CY := C.m3 F.1
  have IY := I.rc hkd hkn h2
  have hi' : i' ≤ n := IY.2.1
  have hkb := CY.kb hi'
  have k3 : xI Y g 3 = nI (kd i') := h4.1.2.1
  have hk1 : k < 1000 := by omega
  have s5 : stp kd pl (5, i', 0, (0, 0, 0) :: τ, E') = if kd i' = 16 then (0, i' + 1, 0, (0, 0, 7) :: τ, E') else (6, i', 0, (0, 0, 0) :: τ, E') := rfl
  by_cases c1 : kd i' = 16
  rotate_left 1
  · left
    rw [if_neg c1] at s5
    refine ⟨(1, Y), fun rec => ?_, ⟨Y, Or.inl ⟨rfl, F, i', E', h2.tr (Rch.st s5), h3, h4⟩⟩, Or.inr rfl⟩
    unfold fX1_readAll_l8_b
    rw [if_neg (show ¬ (1000 : Int32) ≤ nI k from nI_ge (b := 1000) hk1 (by decide)), if_neg (by decide), gI_of CY.1, sb, k3, if_neg (show ¬ nI (kd i') = (16 : Int32) from fun z => c1 ((nI_eq (b := 16) (by omega) (by decide)).mp z))]
  right
  rw [if_pos c1] at s5
  have hin : i' < n := CY.lt hi' (by omega)
  obtain ⟨V, v1, v2, v3⟩ := g_goOn CY h4.1 hin
  have CV := CY.mv v3 (fun a q1 q2 => by omega)
  have AV := h4.g v3 v2
  have hr1 := h2.tr (Rch.st s5)
  have IV := I.rc hkd hkn hr1
  have hP := c_test hA hc hw CV IV AV
  have hb : ∀ rec, fX1_readAll_l8_b rA rec g (nI w) 1 (nI k) Y = (fX1_readTest rA g (nI w) V >>= fun r9 => gR r9.2 g 1 0 >>= fun q11 => gK r9.2 q11 5 >>= fun u13 => fX5_addSign q11 16 r9.2 >>= fun X15 => rec r9.1 (nI (k + 1)) X15) := fun rec => by
    unfold fX1_readAll_l8_b
    rw [if_neg (show ¬ (1000 : Int32) ≤ nI k from nI_ge (b := 1000) hk1 (by decide)), if_neg (by decide), gI_of CY.1, sb, k3, c1, if_pos (by decide), gK_of' CY.1, sb, v1, sb, gK_of' CV.1, sb, nI_1]
  obtain ⟨U, ⟨u1, u2, i2, E2, u3, u4, u5⟩ | ⟨u1, u2, S', u3, u4, u5, u6, u7, z, u8, u9⟩⟩ := hP
  · have CU := CV.m3 u2.1
    have IU := IV.rc hkd hkn u3
    have hi2 : i2 ≤ n := IU.2.1
    have hE2 : E2.1 + (nz 0 + nz 0 + 1 + pd τ) + i0 ≤ i2 := IU.2.2.1
    have hlt : i' + 1 < i2 := u4
    obtain ⟨W, w1, w2⟩ := g_addS CU u5.2.1 (by omega) 16
    have w2 : GAd U W g T (cs + E2.1) (cen (7, 0)) := w2
    have s1' : stp kd pl (5, i2, 0, (0, 0, 7) :: τ, E2) = (5, i2, 0, (0, 0, 0) :: τ, psh E2 (7, 0)) := rfl
    refine ⟨1002 - (k + 1), 1, nI (k + 1), W, by omega, ⟨k + 1, rfl, rfl, by omega, Or.inl ⟨rfl, ((F.tr (GFr.g v3)).tr u2).tr (w2.fr (by omega)), i2, psh E2 (7, 0), by omega, (hr1.tr u3).tr (Rch.st s1'), by omega, u5.psh w2 (by omega)⟩⟩, fun rec => ?_⟩
    rw [hb, u1, sb]
    dsimp only
    rw [gR_of CU.1 CU.2.1, sb, gK_of' CU.2.2.2.2.2.1.1, sb, w1, sb]
  · have CU := CV.m3 u2
    obtain ⟨W, w1, w2, w3, w4⟩ := g_aft CU u9 u8 16 u7
    refine ⟨1002 - (k + 1), 0, nI (k + 1), W, by omega, ⟨k + 1, rfl, rfl, by omega, Or.inr ⟨rfl, ((F.tr (GFr.g v3)).1.tr u2).tr w2, S', hr1.tr u3, u4, u5, u6, w3, w4⟩⟩, fun rec => ?_⟩
    rw [hb, u1, sb]
    dsimp only
    rw [gR_of CU.1 CU.2.1, sb, gK_of' CU.2.2.2.2.2.1.1, sb, w1, sb]
theorem c_allR (hc : cs ≤ i0) : ∀ d w, 6 ≤ w + d → GAll (fX1_readAllR d) kd pl g T n i0 cs w
  | 0, w, hd => fun X i E τ hw C I A => by
    have h4 : τ.length + 1 ≤ 6 := I.2.2.2.1
    omega
  | d + 1, w, hd => c_all (rA := fX1_readAllR d) (c_allR hc d (w + 1) (by omega)) hc
/-- an expression, from its first token on -/
theorem c_expr (C : CG X g T n kd pl) {i : Nat} (hi : i ≤ n) (hc : cs ≤ i) (P : GP X g kd i) (h7 : xI X (g + 1) 7 = nI cs) : (∃ X1, fX1_readAllR 6 g 0 X = some (1, X1) ∧ GFr X X1 g cs ∧ ∃ i' E', tm kd pl i = (2, i', 0, [], E') ∧ i < i' ∧ i' ≤ n ∧ CA X1 g kd cs i' E' ∧ okE E' ∧ E'.1 + i ≤ i') ∨ ∃ X1, fX1_readAllR 6 g 0 X = some (0, X1) ∧ xfm (SG3 g) X X1 ∧ (tm kd pl i).1 = 3 ∧ 0 < (tm kd pl i).2.2.1 ∧ (tm kd pl i).2.2.1 ≤ 16005 ∧ xI X1 g 4 = nI (tm kd pl i).2.2.1 ∧ ∃ z, z ≤ T ∧ xI X1 (g + 1) 7 = nI z := by
  have hT := C.2.2.2.2.2.2.2.2.1
  have hnT := C.2.2.2.2.2.2.2.1
  have hkd := C.2.2.2.2.2.2.2.2.2.1
  have hkn := C.2.2.2.2.2.2.2.2.2.2.1
  have I0 : AI kd n i (S0 i) := AI_0 hi
  obtain ⟨Z, ⟨z1, z2, i1, E1, z3, z4, z5⟩ | ⟨z1, z2, S', z3, z4, z5, z6, z7, z8⟩⟩ := c_allR (kd := kd) (pl := pl) (g := g) (T := T) (n := n) (i0 := i) hc 6 0 (by decide) X i E0 [] rfl C I0 ⟨P, h7, fun j hj => absurd hj (Nat.not_lt_zero _)⟩
  · left
    have s6 : stp kd pl (6, i1, 0, [(0, 0, 0)], E1) = (2, i1, 0, [], E1) := rfl
    have hr : Rch kd pl (S0 i) (2, i1, 0, [], E1) := z3.tr (Rch.st s6)
    have IZ := I0.rc hkd hkn hr
    have ok := IZ.ok (by omega)
    exact ⟨Z, z1, z2, i1, E1, tm_e hr (Or.inl rfl), z4, IZ.2.1, z5, ok.1, ok.2⟩
  · right
    have e := tm_e (S := S') z3 (Or.inr z4)
    rw [e]
    exact ⟨Z, z1, z2, z4, z5, z6, z7, z8⟩
end CGr3
