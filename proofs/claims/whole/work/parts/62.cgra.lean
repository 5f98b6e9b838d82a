/-! the class's grammar runs the machine -/
def SG3 (g a : Nat) : Prop := a = g ∨ a = g + 1 ∨ a = g + 1 + 6
def CG (X : XW) (g T n : Nat) (kd pl : Nat → Nat) : Prop := xKd X g = 2 ∧ xR X g 0 = some (g + 1) ∧ xR X g 1 = some (g + 8) ∧ LTk X (g + 8) (g + 9) (g + 10) T ∧ CTo X (g + 8) (g + 9) (g + 10) (n + 1) kd pl ∧ LRu X (g + 1) ∧ xLn X (g + 1 + 6) = T ∧ n ≤ T ∧ T ≤ 1000 ∧ (∀ j, j < n → kd j ≠ 24 ∧ kd j ≤ 10025) ∧ kd n = 24 ∧ ∀ j, j ≤ n → pl j ≤ 1000
theorem CG.mv {X X1 : XW} {g T n : Nat} {kd pl : Nat → Nat} {S : Nat → Prop} (h : CG X g T n kd pl) (F : xfm S X X1) (hS : ∀ a, g + 8 ≤ a → a ≤ g + 10 → ¬ S a) : CG X1 g T n kd pl := by
  obtain ⟨h1, h2, h3, h4, h5, h6, h7, h8⟩ := h
  refine ⟨(F.kd _).trans h1, (F.rr _ _).trans h2, (F.rr _ _).trans h3, h4.mv F, ?_, h6.mv F, (F.ln _).trans h7, h8⟩
  unfold CTo
  rw [(F.2 (g + 8) (hS _ (by omega) (by omega))).1, (F.2 (g + 9) (hS _ (by omega) (by omega))).2.1, (F.2 (g + 10) (hS _ (by omega) (by omega))).2.1]
  exact h5
def GP (X : XW) (g : Nat) (kd : Nat → Nat) (i : Nat) : Prop := xI X g 2 = nI i ∧ xI X g 3 = nI (kd i) ∧ xI X g 4 = 0
def CA (X : XW) (g : Nat) (kd : Nat → Nat) (cs i : Nat) (E : Ex) : Prop := GP X g kd i ∧ xI X (g + 1) 7 = nI (cs + E.1) ∧ ∀ j, j < E.1 → xA X (g + 1 + 6) (cs + j) = cen (E.2 j)
def GFr (X X1 : XW) (g cs : Nat) : Prop := xfm (SG3 g) X X1 ∧ (∀ j, j < cs → xA X1 (g + 1 + 6) j = xA X (g + 1 + 6) j) ∧ xI X1 (g + 1) 6 = xI X (g + 1) 6
theorem GFr.rf (X : XW) (g cs : Nat) : GFr X X g cs := ⟨xfm.rf _ _, fun _ _ => rfl, rfl⟩
theorem GFr.tr {X X1 X2 : XW} {g cs : Nat} (h : GFr X X1 g cs) (h2 : GFr X1 X2 g cs) : GFr X X2 g cs := ⟨h.1.tr h2.1, fun j hj => (h2.2.1 j hj).trans (h.2.1 j hj), h2.2.2.trans h.2.2⟩
theorem GFr.g {X X1 : XW} {g cs : Nat} (F : xfm (fun a => a = g) X X1) : GFr X X1 g cs := ⟨F.wk (fun _ h => Or.inl h), fun j _ => by rw [(F.2 (g + 1 + 6) (by omega)).2.1], by rw [(F.2 (g + 1) (by omega)).1]⟩
theorem CA.g {X X1 : XW} {g cs i i' : Nat} {kd : Nat → Nat} {E : Ex} (h : CA X g kd cs i E) (F : xfm (fun a => a = g) X X1) (hp : GP X1 g kd i') : CA X1 g kd cs i' E := ⟨hp, by rw [(F.2 (g + 1) (by omega)).1]; exact h.2.1, fun j hj => by rw [(F.2 (g + 1 + 6) (by omega)).2.1]; exact h.2.2 j hj⟩
section CGr
variable {X : XW} {g T n : Nat} {kd pl : Nat → Nat}
theorem CG.kb (C : CG X g T n kd pl) {i : Nat} (hi : i ≤ n) : kd i ≤ 10025 := by
  obtain ⟨-, -, -, -, -, -, -, -, -, h1, h2, -⟩ := C
  by_cases e : i = n
  · rw [e, h2]; decide
  · exact (h1 i (by omega)).2
theorem CG.lt (C : CG X g T n kd pl) {i : Nat} (hi : i ≤ n) (h : kd i ≠ 24) : i < n := by
  obtain ⟨-, -, -, -, -, -, -, -, -, h1, h2, -⟩ := C
  by_cases e : i = n
  · rw [e, h2] at h; exact absurd rfl h
  · omega
theorem g_goOn (C : CG X g T n kd pl) {i : Nat} (h : GP X g kd i) (hi : i < n) : ∃ X1, fX1_goOn g X = some X1 ∧ GP X1 g kd (i + 1) ∧ xfm (fun a => a = g) X X1 := by
  have hkb := C.kb (i := i) (by omega)
  obtain ⟨c1, c2, c3, c4, c5, c6, c7, c8, c9, c10, c11, c12⟩ := C
  obtain ⟨h1, h2, h3⟩ := h
  have hE : aE X (g + 9) 1 = some (nI (T + 1)) := by
    unfold aE
    rw [if_pos c4.2.2.2.1.1, c4.2.2.2.1.2]
    rfl
  generalize hX1 : wI X g 2 (nI (i + 1)) = X1
  have F1 : xfm (fun a => a = g) X X1 := by rw [← hX1]; exact xfm.wI rfl
  have k1 : xKd X1 g = 2 := (F1.kd _).trans c1
  have T1 := c4.mv F1
  have i1 : xI X1 g 2 = nI (i + 1) := by rw [← hX1, xI_we]
  have r1 : xR X1 g 1 = some (g + 8) := (F1.rr _ _).trans c3
  have a1 : xA X1 (g + 9) (i + 1) = nI (kd (i + 1)) := by rw [← hX1, xA_wI]; exact (c5.2 (i + 1) (by omega)).1
  refine ⟨wI X1 g 3 (nI (kd (i + 1))), ?_, ⟨by rw [xI_wn (by decide)]; exact i1, xI_we, by rw [xI_wn (by decide), ← hX1, xI_wn (by decide)]; exact h3⟩, F1.tr (xfm.wI rfl)⟩
  unfold fX1_goOn
  rw [gI_of c1, sb, h2, if_neg (show ¬ nI (kd i) = (24 : Int32) from fun z => (c10 i hi).1 ((nI_eq (b := 24) (by omega) (by decide)).mp z)), gI_of c1, sb, gR_of c1 c3, sb, gR_of c4.1 c4.2.1, sb, hE, sb, h1, nI_1, if_neg (nI_ge (by omega) (by omega)), sb, nI_1, pI_of c1, sb, hX1, gR_of k1 r1, sb, gR_of T1.1 T1.2.1, sb, gI_of k1, sb, i1, aI_of T1.2.2.2.1.1 T1.2.2.2.1.2 (show i + 1 < T + 1 by omega) (by omega), sb, a1, pI_of k1, sb]
theorem g_refuse (C : CG X g T n kd pl) {i : Nat} (h : GP X g kd i) (hi : i ≤ n) (x : Nat) : fX1_refuse g (nI x) X = some (0, wI X g 4 (nI (x + 16 * pl i))) := by
  obtain ⟨c1, c2, c3, c4, c5, c6, c7, c8, c9, c10, c11, c12⟩ := C
  obtain ⟨h1, h2, h3⟩ := h
  unfold fX1_refuse
  rw [gR_of c1 c3, sb, gR_of c4.1 c4.2.2.1, sb, gI_of c1, sb, h1, aI_of c4.2.2.2.2.1 c4.2.2.2.2.2 (show i < T + 1 by omega) (by omega), sb, (c5.2 i (by omega)).2, Lt16, nI_mul, nI_add, pI_of c1, sb]
/-- what addSign and addNumber leave -/
def GAd (X X1 : XW) (g T z : Nat) (x : Int32) : Prop := xfm (fun a => a = g + 1 ∨ a = g + 1 + 6) X X1 ∧ xI X1 (g + 1) 6 = xI X (g + 1) 6 ∧ (∃ z', z' ≤ T ∧ xI X1 (g + 1) 7 = nI z') ∧ (∀ j, j < z → xA X1 (g + 1 + 6) j = xA X (g + 1 + 6) j) ∧ (z < T → xI X1 (g + 1) 7 = nI (z + 1) ∧ xA X1 (g + 1 + 6) z = x)
theorem g_addA (C : CG X g T n kd pl) {z : Nat} (h : xI X (g + 1) 7 = nI z) (hz : z ≤ T) (x : Int32) : ∃ X1, (if (nI T ≤ nI z : Prop) then some X else (uI X (g + 1 + 6) (nI z) x >>= fun X11 => gI X11 (g + 1) 5 7 >>= fun v13 => pI X11 (g + 1) 5 7 (v13 + 1) >>= fun X15 => some X15)) = some X1 ∧ GAd X X1 g T z x := by
  obtain ⟨c1, c2, c3, c4, c5, c6, c7, c8, c9, c10, c11, c12⟩ := C
  obtain ⟨l1, l2, l3, l4, l5, l6, l7, l8, l9⟩ := c6
  by_cases q : z < T
  · generalize hX1 : wF X (g + 1 + 6) (va_up (xA X (g + 1 + 6)) z x) = X1
    have F1 : xfm (fun a => a = g + 1 ∨ a = g + 1 + 6) X X1 := by rw [← hX1]; exact xfm.wF (Or.inr rfl)
    have k1 : xKd X1 (g + 1) = 6 := (F1.kd _).trans l1
    refine ⟨wI X1 (g + 1) 7 (nI (z + 1)), ?_, F1.tr (xfm.wI (Or.inl rfl)), by rw [xI_wn (by decide), ← hX1, xI_wF], ⟨z + 1, q, xI_we⟩, fun j hj => by rw [xA_wI, ← hX1, xA_wFe, upN (by omega)], fun _ => ⟨xI_we, by rw [xA_wI, ← hX1, xA_wFe, upE]⟩⟩
    rw [if_neg (nI_ge q (by omega)), uI_of l8 c7 q (by omega), sb, hX1, gI_of k1, sb, pI_of k1, sb, ← hX1, xI_wF, h, nI_1]
  · refine ⟨X, if_pos (nI_le (by omega) (by omega)), xfm.rf _ _, rfl, ⟨z, hz, h⟩, fun _ _ => rfl, fun w => absurd w q⟩
theorem g_addS (C : CG X g T n kd pl) {z : Nat} (h : xI X (g + 1) 7 = nI z) (hz : z ≤ T) (x : Int32) : ∃ X1, fX5_addSign (g + 1) x X = some X1 ∧ GAd X X1 g T z ((-1) - x) := by
  obtain ⟨X1, h1, h2⟩ := g_addA C h hz ((-1) - x)
  refine ⟨X1, ?_, h2⟩
  obtain ⟨c1, c2, c3, c4, c5, c6, c7, c8, c9, c10, c11, c12⟩ := C
  have hE : aE X (g + 1 + 6) 1 = some (nI T) := by
    unfold aE
    rw [if_pos c6.2.2.2.2.2.2.2.1, c7]
    rfl
  have l5 : xR X (g + 1) 5 = some (g + 1 + 6) := c6.2.1 5 (by decide)
  unfold fX5_addSign
  rw [gI_of c6.1, sb, h, gR_of c6.1 l5, sb, hE, sb, sb, sb]
  exact h1
theorem g_addN (C : CG X g T n kd pl) {z : Nat} (h : xI X (g + 1) 7 = nI z) (hz : z ≤ T) (x : Int32) : ∃ X1, fX5_addNumber (g + 1) x X = some X1 ∧ GAd X X1 g T z x := by
  obtain ⟨X1, h1, h2⟩ := g_addA C h hz x
  refine ⟨X1, ?_, h2⟩
  obtain ⟨c1, c2, c3, c4, c5, c6, c7, c8, c9, c10, c11, c12⟩ := C
  have hE : aE X (g + 1 + 6) 1 = some (nI T) := by
    unfold aE
    rw [if_pos c6.2.2.2.2.2.2.2.1, c7]
    rfl
  have l5 : xR X (g + 1) 5 = some (g + 1 + 6) := c6.2.1 5 (by decide)
  unfold fX5_addNumber
  rw [gI_of c6.1, sb, h, gR_of c6.1 l5, sb, hE, sb, sb, sb]
  exact h1
theorem GAd.fr {X1 : XW} {z cs : Nat} {x : Int32} (h : GAd X X1 g T z x) (hc : cs ≤ z) : GFr X X1 g cs := ⟨h.1.wk (fun a q => q.elim (fun e => Or.inr (Or.inl e)) (fun e => Or.inr (Or.inr e))), fun j hj => h.2.2.2.1 j (by omega), h.2.1⟩
/-- a code's element more -/
theorem CA.psh {X1 : XW} {cs i : Nat} {E : Ex} {p : Nat × Nat} (A : CA X g kd cs i E) (h : GAd X X1 g T (cs + E.1) (cen p)) (hz : cs + E.1 < T) : CA X1 g kd cs i (psh E p) := by
  obtain ⟨a1, a2, a3⟩ := A
  obtain ⟨h1, h2, h3, h4, h5⟩ := h
  have e : xI X1 g = xI X g := (h1.2 g (by omega)).1
  refine ⟨by unfold GP; rw [e]; exact a1, (h5 hz).1, fun j hj => ?_⟩
  have hj' : j < E.1 + 1 := hj
  by_cases q : j = E.1
  · rw [q, psh_e]
    exact (h5 hz).2
  · rw [psh_lt (by omega), h4 _ (by omega)]
    exact a3 j (by omega)
end CGr
/-- what a reading function of the grammar gives -/
def GRes (kd pl : Nat → Nat) (g T cs : Nat) (X : XW) (S : AS) (m : Nat) (σ : List Wt) (r : Option (Int32 × XW)) : Prop :=
  ∃ X1, (r = some (1, X1) ∧ GFr X X1 g cs ∧ ∃ i' E', Rch kd pl S (m, i', 0, σ, E') ∧ S.2.1 < i' ∧ CA X1 g kd cs i' E') ∨ (r = some (0, X1) ∧ xfm (SG3 g) X X1 ∧ ∃ S', Rch kd pl S S' ∧ S'.1 = 3 ∧ 0 < S'.2.2.1 ∧ S'.2.2.1 ≤ 16005 ∧ xI X1 g 4 = nI S'.2.2.1 ∧ ∃ z, z ≤ T ∧ xI X1 (g + 1) 7 = nI z)
def GAll (rA : Nat → Int32 → XW → Option (Int32 × XW)) (kd pl : Nat → Nat) (g T n i0 cs w : Nat) : Prop := ∀ X i E τ, τ.length = w → CG X g T n kd pl → AI kd n i0 (0, i, 0, (0, 0, 0) :: τ, E) → CA X g kd cs i E → GRes kd pl g T cs X (0, i, 0, (0, 0, 0) :: τ, E) 6 ((0, 0, 0) :: τ) (rA g (nI w) X)
theorem zG_0 : zG 0 = some () := if_pos (Or.inl rfl)
theorem zG_1 : zG 1 = some () := if_pos (Or.inr rfl)
section CGr2
variable {X : XW} {g T n i0 cs w : Nat} {kd pl : Nat → Nat} {rA : Nat → Int32 → XW → Option (Int32 × XW)}
theorem GRes.flt {S : AS} {m i x : Nat} {σ : List Wt} (C : CG X g T n kd pl) {E : Ex} (A : CA X g kd cs i E) (hi : i ≤ n) (hz : cs + E.1 ≤ T) (hx : x = 1 ∨ x = 5) (hr : ∃ σ' E', Rch kd pl S (3, i, x + 16 * pl i, σ', E')) {r : Option (Int32 × XW)} (h : r = (fX1_refuse g (nI x) X >>= fun r5 => zG r5.1 >>= fun _ => some (r5.1, r5.2))) : GRes kd pl g T cs X S m σ r := by
  have hp := C.2.2.2.2.2.2.2.2.2.2.2 i hi
  obtain ⟨σ', E', hr⟩ := hr
  refine ⟨wI X g 4 (nI (x + 16 * pl i)), Or.inr ⟨?_, xfm.wI (Or.inl rfl), _, hr, rfl, ?_, ?_, xI_we, cs + E.1, hz, by rw [xI_wa (by omega)]; exact A.2.1⟩⟩
  · rw [h, g_refuse C A.1 hi x, sb]
    rfl
  · show 0 < x + 16 * pl i
    omega
  · show x + 16 * pl i ≤ 16005
    omega
theorem c_part (hA : GAll rA kd pl g T n i0 cs (w + 1)) (hc : cs ≤ i0) {i : Nat} {E : Ex} {t : Wt} {τ : List Wt} (hw : τ.length = w) (C : CG X g T n kd pl) (I : AI kd n i0 (0, i, 0, t :: τ, E)) (A : CA X g kd cs i E) : GRes kd pl g T cs X (0, i, 0, t :: τ, E) 1 (t :: τ) (fX1_readPart rA g (nI w) X) := by
  obtain ⟨s, gg, a⟩ := t
  have hI := I
  obtain ⟨I1, I2, I3, I4, -⟩ := I
  have I1 : i0 ≤ i := I1
  have I2 : i ≤ n := I2
  have I3 : E.1 + pd ((s, gg, a) :: τ) + i0 ≤ i := I3
  have I4 : τ.length + 1 ≤ 6 := I4
  have hkb := C.kb I2
  have hnT := C.2.2.2.2.2.2.2.1
  have hT := C.2.2.2.2.2.2.2.2.1
  have hkd := C.2.2.2.2.2.2.2.2.2.1
  have hkn := C.2.2.2.2.2.2.2.2.2.2.1
  have k3 : xI X g 3 = nI (kd i) := A.1.2.1
  have s0 : stp kd pl (0, i, 0, (s, gg, a) :: τ, E) = (if ¬ isP (kd i) then (3, i, 1 + 16 * pl i, (s, gg, a) :: τ, E) else if τ.length = 5 then (3, i, 5 + 16 * pl i, (s, gg, a) :: τ, E) else if kd i = 17 then (0, i + 1, 0, (0, 0, 0) :: (s, gg, a) :: τ, E) else (1, i + 1, 0, (s, gg, a) :: τ, psh E (if 26 ≤ kd i then (1, kd i - 26) else (2, kd i)))) := rfl
  have e1 : fX1_readPart rA g (nI w) X = fX1_readPart_j29 rA g (nI w) (b01 (26 ≤ kd i)) (b01 (kd i ≤ 12)) X := by
    have e2 : ∀ x, fX1_readPart_j14 rA g (nI w) x X = fX1_readPart_j29 rA g (nI w) x (b01 (kd i ≤ 12)) X := fun x => by
      unfold fX1_readPart_j14
      rw [gI_of C.1, sb, k3]
      by_cases q : kd i ≤ 12
      · rw [if_neg (show ¬ (12 : Int32) < nI (kd i) from nI_nlt (a := 12) q (by decide)), b01_y q]
      · rw [if_pos (show (12 : Int32) < nI (kd i) from nI_lt (a := 12) (by omega) (by omega)), b01_n q]
    unfold fX1_readPart
    rw [gI_of C.1, sb, k3, e2, e2]
    by_cases q : 26 ≤ kd i
    · rw [if_neg (show ¬ nI (kd i) < (26 : Int32) from nI_nlt (b := 26) q (by omega)), b01_y q]
    · rw [if_pos (show nI (kd i) < (26 : Int32) from nI_lt (b := 26) (by omega) (by decide)), b01_n q]
  by_cases c1 : isP (kd i)
  rotate_left 1
  · rw [if_pos c1] at s0
    have c26 : ¬ 26 ≤ kd i := fun z => c1 (Or.inl z)
    have c12 : ¬ kd i ≤ 12 := fun z => c1 (Or.inr (Or.inl z))
    have c17 : ¬ kd i = 17 := fun z => c1 (Or.inr (Or.inr z))
    refine GRes.flt C A I2 (by omega) (Or.inl rfl) ⟨_, _, Rch.st s0⟩ ?_
    rw [e1, b01_n c26, b01_n c12]
    unfold fX1_readPart_j29
    rw [if_pos rfl, if_pos rfl, gI_of C.1, sb, k3, if_neg (show ¬ nI (kd i) = (17 : Int32) from fun z => c17 ((nI_eq (b := 17) (by omega) (by decide)).mp z)), gK_of' C.1, sb]
    rfl
  rw [if_neg (fun z => z c1)] at s0
  have e3 : fX1_readPart rA g (nI w) X = fX1_readPart_j53 rA g (nI w) (b01 (26 ≤ kd i)) (b01 (kd i ≤ 12)) X := by
    rw [e1]
    unfold fX1_readPart_j29
    by_cases q : 26 ≤ kd i
    · rw [b01_y q, if_neg (by decide)]
    · rw [b01_n q, if_pos rfl]
      by_cases q2 : kd i ≤ 12
      · rw [b01_y q2, if_neg (by decide)]
      · have c17 : kd i = 17 := by
          have c1' : 26 ≤ kd i ∨ kd i ≤ 12 ∨ kd i = 17 := c1
          omega
        rw [b01_n q2, if_pos rfl, gI_of C.1, sb, k3, c17, if_pos (by decide)]
  by_cases c2 : τ.length = 5
  · rw [if_pos c2] at s0
    refine GRes.flt C A I2 (by omega) (Or.inr rfl) ⟨_, _, Rch.st s0⟩ ?_
    rw [e3]
    unfold fX1_readPart_j53
    rw [if_neg (show ¬ nI w < (5 : Int32) from nI_nlt (b := 5) (by omega) (by omega)), gK_of' C.1, sb]
    rfl
  rw [if_neg c2] at s0
  have w5 : w < 5 := by omega
  have c1' : 26 ≤ kd i ∨ kd i ≤ 12 ∨ kd i = 17 := c1
  have hin : i < n := C.lt I2 (by omega)
  have hz : cs + E.1 < T := by omega
  have r0 : xR X g 0 = some (g + 1) := C.2.1
  have k6 : xKd X (g + 1) = 6 := C.2.2.2.2.2.1.1
  have tail : ∀ {Y : XW} {i1 : Nat} {E1 : Ex}, CG Y g T n kd pl → GFr X Y g cs → i1 < n → CA Y g kd cs i1 E1 → Rch kd pl (0, i, 0, (s, gg, a) :: τ, E) (1, i1 + 1, 0, (s, gg, a) :: τ, E1) → i ≤ i1 → fX1_readPart rA g (nI w) X = fX1_readPart_j134 rA g Y → GRes kd pl g T cs X (0, i, 0, (s, gg, a) :: τ, E) 1 ((s, gg, a) :: τ) (fX1_readPart rA g (nI w) X) := fun {Y i1 E1} CY FY hi1 AY hr hle he => by
    obtain ⟨Z, z1, z2, z3⟩ := g_goOn CY AY.1 hi1
    refine ⟨Z, Or.inl ⟨?_, FY.tr (GFr.g z3), i1 + 1, E1, hr, by show i < i1 + 1; omega, AY.g z3 z2⟩⟩
    rw [he]
    unfold fX1_readPart_j134
    rw [gK_of' CY.1, sb, z1, sb]
  by_cases c3 : kd i = 17
  · rw [if_pos c3] at s0
    obtain ⟨Y, y1, y2, y3⟩ := g_goOn C A.1 hin
    have CY := C.mv y3 (fun a q1 q2 => by omega)
    have AY := A.g y3 y2
    have IY := hI.st (pl := pl) hkd hkn
    rw [s0] at IY
    have hG := hA Y (i + 1) E ((s, gg, a) :: τ) (by show τ.length + 1 = w + 1; omega) CY IY AY
    have e4 : fX1_readPart rA g (nI w) X = (rA g (nI (w + 1)) Y >>= fun r7 => if (r7.1 = 0 : Prop) then (some (0, r7.2)) else (gI r7.2 g 1 3 >>= fun v9 => if (v9 = 18 : Prop) then (fX1_readPart_j134 rA g r7.2) else (gK r7.2 g 1 >>= fun u11 => fX1_refuse g 1 r7.2 >>= fun r13 => zG r13.1 >>= fun u15 => some (r13.1, r13.2)))) := by
      rw [e3]
      unfold fX1_readPart_j53
      rw [if_pos (show nI w < (5 : Int32) from nI_lt (b := 5) w5 (by decide)), b01_n (show ¬ 26 ≤ kd i by omega), if_pos rfl, b01_n (show ¬ kd i ≤ 12 by omega), if_pos rfl, gK_of' C.1, sb, y1, sb, gK_of' CY.1, sb, nI_1]
    obtain ⟨Z, ⟨z1, z2, i', E', z3, z4, z5⟩ | ⟨z1, z2, S', z3, z4⟩⟩ := hG
    · have CZ := CY.mv z2.1 (fun a q1 q2 q3 => by unfold SG3 at q3; omega)
      have IZ := IY.rc hkd hkn z3
      have hi' : i' ≤ n := IZ.2.1
      have hE' : E'.1 + pd ((0, 0, 0) :: (s, gg, a) :: τ) + i0 ≤ i' := IZ.2.2.1
      have hlt : i + 1 < i' := z4
      have s6 : stp kd pl (6, i', 0, (0, 0, 0) :: (s, gg, a) :: τ, E') = (if kd i' = 18 then (1, i' + 1, 0, (s, gg, a) :: τ, E') else (3, i', 1 + 16 * pl i', (0, 0, 0) :: (s, gg, a) :: τ, E')) := rfl
      have k3' : xI Z g 3 = nI (kd i') := z5.1.2.1
      have hkb' := CZ.kb hi'
      have hrc : Rch kd pl (0, i, 0, (s, gg, a) :: τ, E) (6, i', 0, (0, 0, 0) :: (s, gg, a) :: τ, E') := (Rch.st s0).tr z3
      by_cases c4 : kd i' = 18
      · rw [if_pos c4] at s6
        refine tail CZ ((GFr.g y3).tr z2) (CZ.lt hi' (by omega)) z5 (hrc.tr (Rch.st s6)) (by omega) ?_
        rw [e4, z1, sb]
        dsimp only
        rw [if_neg (by decide), gI_of CZ.1, sb, k3', c4, if_pos (by decide)]
      · rw [if_neg c4] at s6
        obtain ⟨V, ⟨v1, v2⟩ | ⟨v1, v2, v3⟩⟩ := GRes.flt (S := (0, i, 0, (s, gg, a) :: τ, E)) (m := 1) (σ := (s, gg, a) :: τ) CZ z5 hi' (by omega) (Or.inl rfl) ⟨_, _, hrc.tr (Rch.st s6)⟩ rfl
        · rw [g_refuse CZ z5.1 hi' 1, sb] at v1
          dsimp only at v1
          rw [zG_0, sb] at v1
          have v0 : (0 : Int32) = 1 := congrArg Prod.fst (Option.some.inj v1)
          exact absurd v0 (by decide)
        · refine ⟨V, Or.inr ⟨?_, ((GFr.g (cs := cs) y3).tr z2).1.tr v2, v3⟩⟩
          rw [e4, z1, sb]
          dsimp only
          rw [if_neg (by decide), gI_of CZ.1, sb, k3', if_neg (show ¬ nI (kd i') = (18 : Int32) from fun z => c4 ((nI_eq (b := 18) (by omega) (by decide)).mp z)), gK_of' CZ.1, sb]
          exact v1
    · refine ⟨Z, Or.inr ⟨?_, (GFr.g (cs := cs) y3).1.tr z2, S', (Rch.st s0).tr z3, z4⟩⟩
      rw [e4, z1, sb]
      dsimp only
      rw [if_pos rfl]
  rw [if_neg c3] at s0
  by_cases c4 : 26 ≤ kd i
  · rw [if_pos c4] at s0
    obtain ⟨Y, y1, y2⟩ := g_addN C A.2.1 (by omega) (cen (1, kd i - 26))
    have ec : cen (1, kd i - 26) = nI (kd i) - 26 := by
      show nI (kd i - 26) = _
      rw [← nI_subI c4]
      rfl
    refine tail (C.mv y2.1 (fun a q1 q2 => by omega)) (y2.fr (by omega)) hin (A.psh y2 hz) (Rch.st s0) (Nat.le_refl _) ?_
    rw [e3]
    unfold fX1_readPart_j53
    rw [if_pos (show nI w < (5 : Int32) from nI_lt (b := 5) w5 (by decide)), b01_y c4, if_neg (by decide), gR_of C.1 r0, sb, gI_of C.1, sb, k3, gK_of' k6, sb, ← ec, y1, sb]
  · rw [if_neg c4] at s0
    obtain ⟨Y, y1, y2⟩ := g_addS C A.2.1 (by omega) (nI (kd i))
    have y2 : GAd X Y g T (cs + E.1) (cen (2, kd i)) := y2
    refine tail (C.mv y2.1 (fun a q1 q2 => by omega)) (y2.fr (by omega)) hin (A.psh y2 hz) (Rch.st s0) (Nat.le_refl _) ?_
    rw [e3]
    unfold fX1_readPart_j53
    rw [if_pos (show nI w < (5 : Int32) from nI_lt (b := 5) w5 (by decide)), b01_n c4, if_pos rfl, b01_y (show kd i ≤ 12 by omega), if_neg (by decide), gR_of C.1 r0, sb, gI_of C.1, sb, k3, gK_of' k6, sb, y1, sb]
end CGr2
