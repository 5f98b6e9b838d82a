/-! the reference's expressions run the machine -/
def MG (X : XW) (o n : Nat) (kd pl : Nat → Nat) : Prop := LM X o ∧ MTo X o (n + 1) kd pl ∧ (∀ k, k < 17 → xL X (mA o 9) k = wds k) ∧ n ≤ 1000 ∧ (∀ j, j < n → kd j ≠ 24 ∧ kd j ≤ 10025) ∧ kd n = 24
def KG : List Nat := [7, 8, 19, 20, 21, 22, 23, 24, 25]
theorem MG.mf {X X1 : XW} {o n : Nat} {kd pl : Nat → Nat} {K : List Nat} (h : MG X o n kd pl) (F : mfm o K X X1) (hK : ∀ k, k ∈ K → k ∉ [4, 5, 6, 9]) : MG X1 o n kd pl := by
  obtain ⟨a1, a2, a3, a4⟩ := h
  refine ⟨a1.mf F, a2.mf F (fun k hk q => hK k hk ?_), fun k hk => ?_, a4⟩
  · simp only [List.mem_cons, List.not_mem_nil, or_false] at q ⊢
    omega
  · rw [(F.2.2.2 9 (by decide) (by decide) (fun q => hK 9 q (by decide))).2]
    exact a3 k hk
def MW (X : XW) (o : Nat) : List Wt → Prop
  | [] => True
  | (s, g, a) :: τ => xA X (mA o 23) τ.length = nI s ∧ xA X (mA o 24) τ.length = nI g ∧ xA X (mA o 25) τ.length = nI a ∧ MW X o τ
def MC (X : XW) (o b : Nat) (E : Ex) : Prop := xI X o 21 = nI (b + E.1) ∧ ∀ j, j < E.1 → xA X (mA o 19) (4240 + b + j) = nI (E.2 j).1 ∧ xA X (mA o 20) (4240 + b + j) = nI (E.2 j).2
/-- the reference's cells hold the machine's state -/
def MA (X : XW) (o b : Nat) (S : AS) : Prop := xI X o 7 = nI S.2.1 ∧ xI X o 8 = nI S.2.2.1 ∧ MC X o b S.2.2.2.2 ∧ (S.1 ≠ 2 → S.1 ≠ 3 → xI X o 22 = nI (S.2.2.2.1.length - 1) ∧ MW X o S.2.2.2.1)
theorem MW.mf {X X1 : XW} {o : Nat} (h23 : ∀ k, xA X1 (mA o 23) k = xA X (mA o 23) k) (h24 : ∀ k, xA X1 (mA o 24) k = xA X (mA o 24) k) (h25 : ∀ k, xA X1 (mA o 25) k = xA X (mA o 25) k) : ∀ {σ : List Wt}, MW X o σ → MW X1 o σ
  | [], _ => trivial
  | (s, g, a) :: τ, h => ⟨(h23 _).trans h.1, (h24 _).trans h.2.1, (h25 _).trans h.2.2.1, MW.mf h23 h24 h25 h.2.2.2⟩
theorem MW.up {X X1 : XW} {o d : Nat} (h23 : ∀ k, k ≠ d → xA X1 (mA o 23) k = xA X (mA o 23) k) (h24 : ∀ k, k ≠ d → xA X1 (mA o 24) k = xA X (mA o 24) k) (h25 : ∀ k, k ≠ d → xA X1 (mA o 25) k = xA X (mA o 25) k) : ∀ {τ : List Wt}, τ.length ≤ d → MW X o τ → MW X1 o τ
  | [], _, _ => trivial
  | (s, g, a) :: τ, hl, h => by
    have hl' : τ.length + 1 ≤ d := hl
    exact ⟨(h23 _ (by omega)).trans h.1, (h24 _ (by omega)).trans h.2.1, (h25 _ (by omega)).trans h.2.2.1, MW.up h23 h24 h25 (by omega) h.2.2.2⟩
section MEx2
variable {X : XW} {o n : Nat} {kd pl : Nat → Nat}
theorem m_isSign (G : MG X o n kd pl) {i s : Nat} (hi : i ≤ n) (h7 : xI X o 7 = nI i) (h8 : xI X o 8 = 0) (hs : s < 7) : fX10_isSign o (nI (SG s)) X = some (b01 (kd i = 17 + s), X) := by
  obtain ⟨L, hT, hw, hn, -⟩ := G
  have ht := (hT i (by omega)).1.2.1 s hs
  have hb := SG_b s hs
  unfold fX10_isSign
  rw [gI_M L, sb, h8, if_pos rfl, rM4 L, sb, gI_M L, sb, h7, aM4 L (by omega), sb]
  by_cases q : xA X (mA o 4) i = 3
  · rw [if_pos q, rM6 L, sb, sb, aM6 L (by omega), sb, nI_l (by omega)]
    by_cases z : xL X (mA o 6) i = lN (SG s)
    · rw [if_pos ((lg_cmp_eq _ _).mpr z), b01_y (ht.mp ⟨q, z⟩)]
    · rw [if_neg (fun y => z ((lg_cmp_eq _ _).mp y)), b01_n (fun y => z (ht.mpr y).2)]
  · rw [if_neg q, b01_n (fun y => q (ht.mpr y).1)]
theorem m_isSign_f (L : LM X o) (h8 : ¬ xI X o 8 = 0) (x : Int32) : fX10_isSign o x X = some (0, X) := by
  unfold fX10_isSign
  rw [gI_M L, sb, if_neg h8]
theorem m_isWord (G : MG X o n kd pl) {i w : Nat} (hi : i ≤ n) (h7 : xI X o 7 = nI i) (h8 : xI X o 8 = 0) (hw : w < 17) : fX10_isWord o (nI w) X = some (b01 (kd i = kw w), X) := by
  obtain ⟨L, hT, hwd, hn, -⟩ := G
  have ht := (hT i (by omega)).1.1 w hw
  unfold fX10_isWord
  rw [gI_M L, sb, h8, if_pos rfl, rM4 L, sb, gI_M L, sb, h7, aM4 L (by omega), sb]
  by_cases q : xA X (mA o 4) i = 1
  · rw [if_pos q, rM6 L, sb, sb, aM6 L (by omega), sb, rM9 L, sb, aM9 L hw, sb, hwd w hw]
    by_cases z : xL X (mA o 6) i = wds w
    · rw [if_pos ((lg_cmp_eq _ _).mpr z), b01_y (ht.mp ⟨q, z⟩)]
    · rw [if_neg (fun y => z ((lg_cmp_eq _ _).mp y)), b01_n (fun y => z (ht.mpr y).2)]
  · rw [if_neg q, b01_n (fun y => q (ht.mpr y).1)]
theorem m_isWord_f (L : LM X o) (h8 : ¬ xI X o 8 = 0) (x : Int32) : fX10_isWord o x X = some (0, X) := by
  unfold fX10_isWord
  rw [gI_M L, sb, if_neg h8]
theorem m_wrong (G : MG X o n kd pl) {i x : Nat} (hi : i ≤ n) (h7 : xI X o 7 = nI i) (h8 : xI X o 8 = 0) : fX10_wrong o (nI x) X = some (wI X o 8 (nI (x + 16 * pl i))) := by
  obtain ⟨L, hT, hwd, hn, -⟩ := G
  unfold fX10_wrong
  rw [gI_M L, sb, h8, if_pos rfl, rM5 L, sb, gI_M L, sb, h7, aM5 L (by omega), sb, (hT i (by omega)).2, Lt16, nI_mul, nI_add, pI_M L, sb]
theorem m_wrong_f (L : LM X o) (h8 : ¬ xI X o 8 = 0) (x : Int32) : fX10_wrong o x X = some X := by
  unfold fX10_wrong
  rw [gI_M L, sb, if_neg h8]
theorem m_partWord (G : MG X o n kd pl) {i : Nat} (hi : i ≤ n) (h7 : xI X o 7 = nI i) (h8 : xI X o 8 = 0) : fX10_partWord o X = some (if kd i ≤ 12 then nI (kd i) else -1, X) := by
  have key := iterP2 (b := fun rec => fX10_partWord_l2_b rec o) (z := fun _ _ => none) (fun m a Z => ∃ k, k ≤ 13 ∧ m = 13 - k ∧ a = nI k ∧ Z = X ∧ ∀ j, j < k → kd i ≠ j) (fun y => y = (if kd i ≤ 12 then nI (kd i) else -1, X)) ?_ FU 13 (nI 0) X (FUlt (by decide)) ⟨0, by decide, rfl, rfl, rfl, fun j hj => absurd hj (Nat.not_lt_zero _)⟩
  · obtain ⟨y, g1, rfl⟩ := key
    exact g1
  rintro m a Z ⟨k, hk, rfl, rfl, rfl, hne⟩
  by_cases q : k = 13
  · left
    subst q
    have : ¬ kd i ≤ 12 := fun z => hne (kd i) (by omega) rfl
    refine ⟨_, fun rec => ?_, by rw [if_neg this]⟩
    unfold fX10_partWord_l2_b
    rw [if_pos (by decide)]
  · have hk' : k < 13 := by omega
    have hw := m_isWord G hi h7 h8 (w := 4 + k) (by omega)
    have ek : kw (4 + k) = k := by unfold kw; rw [if_neg (by omega)]; omega
    rw [ek] at hw
    by_cases z : kd i = k
    · left
      refine ⟨(nI k, Z), fun rec => ?_, by rw [if_pos (by omega), z]⟩
      unfold fX10_partWord_l2_b
      rw [if_neg (show ¬ (13 : Int32) ≤ nI k from nI_ge (b := 13) hk' (by decide)), gK_M G.1, sb, Lt4, nI_add, hw, sb, b01_y z]
      dsimp only
      rw [if_neg (by decide)]
    · right
      refine ⟨13 - (k + 1), nI (k + 1), Z, by omega, ⟨k + 1, by omega, rfl, rfl, rfl, fun j hj => ?_⟩, fun rec => ?_⟩
      · by_cases y : j = k
        · rw [y]; exact z
        · exact hne j (by omega)
      · unfold fX10_partWord_l2_b
        rw [if_neg (show ¬ (13 : Int32) ≤ nI k from nI_ge (b := 13) hk' (by decide)), gK_M G.1, sb, Lt4, nI_add, hw, sb, b01_n z]
        dsimp only
        rw [if_pos rfl, nI_1]
theorem m_emit (L : LM X o) {b : Nat} {E : Ex} (C : MC X o b E) (hb : b + E.1 < 1060) (p : Nat × Nat) : ∃ X1, fX10_emit o (nI p.1) (nI p.2) X = some X1 ∧ mfm o [19, 20, 21] X X1 ∧ MC X1 o b (psh E p) ∧ (∀ j, j < 4240 + b → xA X1 (mA o 19) j = xA X (mA o 19) j ∧ xA X1 (mA o 20) j = xA X (mA o 20) j) := by
  generalize hX1 : wF X (mA o 19) (va_up (xA X (mA o 19)) (4240 + (b + E.1)) (nI p.1)) = X1
  have F1 : mfm o [19, 20, 21] X X1 := by rw [← hX1]; exact mfm.wF (by decide) (by decide) (by decide)
  have L1 := L.mf F1
  have i1 : xI X1 o 21 = nI (b + E.1) := by rw [← hX1]; exact C.1
  generalize hX2 : wF X1 (mA o 20) (va_up (xA X1 (mA o 20)) (4240 + (b + E.1)) (nI p.2)) = X2
  have F2 : mfm o [19, 20, 21] X1 X2 := by rw [← hX2]; exact mfm.wF (by decide) (by decide) (by decide)
  have L2 := L1.mf F2
  have i2 : xI X2 o 21 = nI (b + E.1) := by rw [← hX2]; exact i1
  have a19 : xA X2 (mA o 19) = va_up (xA X (mA o 19)) (4240 + (b + E.1)) (nI p.1) := by rw [← hX2, xA_wFm (by decide) (by decide) (by decide), ← hX1, xA_wFe]
  have a20 : xA X2 (mA o 20) = va_up (xA X (mA o 20)) (4240 + (b + E.1)) (nI p.2) := by rw [← hX2, xA_wFe, ← hX1, xA_wFm (by decide) (by decide) (by decide)]
  refine ⟨wI X2 o 21 (nI (b + E.1 + 1)), ?_, (F1.tr F2).tr (mfm.wI (by decide)), ⟨xI_we, fun j hj => ?_⟩, fun j hj => ?_⟩
  · unfold fX10_emit
    rw [rM19 L, sb, gI_M L, sb, C.1, show (4240 : Int32) = nI 4240 from rfl, nI_add, uM19 L (by omega), sb, hX1, rM20 L1, sb, gI_M L1, sb, i1, nI_add, uM20 L1 (by omega), sb, hX2, gI_M L2, sb, i2, nI_1, pI_M L2, sb]
  · rw [xA_wI, a19, a20]
    have hj' : j < E.1 + 1 := hj
    by_cases e : j = E.1
    · subst e
      rw [psh_e, show 4240 + b + E.1 = 4240 + (b + E.1) by omega, upE, upE]
      exact ⟨rfl, rfl⟩
    · rw [psh_lt (by omega), upN (by omega), upN (by omega)]
      exact C.2 j (by omega)
  · rw [xA_wI, a19, a20, upN (by omega), upN (by omega)]
    exact ⟨rfl, rfl⟩
/-- what an expression leaves as it was: the code ahead of b -/
def Kp (X X1 : XW) (o b : Nat) : Prop := ∀ j, j < 4240 + b → xA X1 (mA o 19) j = xA X (mA o 19) j ∧ xA X1 (mA o 20) j = xA X (mA o 20) j
theorem Kp.rf (X : XW) (o b : Nat) : Kp X X o b := fun _ _ => ⟨rfl, rfl⟩
theorem Kp.tr {X X1 X2 : XW} {o b : Nat} (h : Kp X X1 o b) (h2 : Kp X1 X2 o b) : Kp X X2 o b := fun j hj => ⟨(h2 j hj).1.trans (h j hj).1, (h2 j hj).2.trans (h j hj).2⟩
theorem Kp.mf {X X1 : XW} {o b : Nat} {K : List Nat} (F : mfm o K X X1) (h1 : 19 ∉ K) (h2 : 20 ∉ K) : Kp X X1 o b := fun j _ => ⟨by rw [F.A (k := 19) h1 (by decide) (by decide)], by rw [F.A (k := 20) h2 (by decide) (by decide)]⟩
theorem MC.mf {X1 : XW} {b : Nat} {E : Ex} {K : List Nat} (C : MC X o b E) (F : mfm o K X X1) (hK : ∀ k, k ∈ K → k ∉ [19, 20, 21]) : MC X1 o b E := by
  unfold MC
  rw [F.I (k := 21) (fun q => hK 21 q (by decide)), F.A (k := 19) (fun q => hK 19 q (by decide)) (by decide) (by decide), F.A (k := 20) (fun q => hK 20 q (by decide)) (by decide) (by decide)]
  exact C
abbrev RG : Type := XW → Option (Int32 × XW)
/-- how one turn behind a part goes on -/
def OUT (B : XW) (o b len : Nat) (kd pl : Nat → Nat) (S : AS) (F : RG → Option (Int32 × XW)) : Prop :=
  (∃ X1 S1, (∀ rec, F rec = some (1, X1)) ∧ Rch kd pl S S1 ∧ S1.1 = 0 ∧ S1.2.1 = S.2.1 + 1 ∧ MA X1 o b S1 ∧ mfm o KG B X1 ∧ Kp B X1 o b) ∨ (∃ X1 S1, (∀ rec, F rec = some (0, X1)) ∧ Rch kd pl S S1 ∧ S1.1 = 2 ∧ MA X1 o b S1 ∧ mfm o KG B X1 ∧ Kp B X1 o b) ∨ (∃ X1 S1, (∀ rec, F rec = rec X1) ∧ Rch kd pl S S1 ∧ ((S1.1 = 1 ∧ S1.2.1 = S.2.1 + 1 ∧ S1.2.2.1 = 0 ∧ S1.2.2.2.1.length < len) ∨ (S1.1 = 3 ∧ 0 < S1.2.2.1 ∧ S1.2.2.1 ≤ 16005)) ∧ MA X1 o b S1 ∧ mfm o KG B X1 ∧ Kp B X1 o b)
theorem OUT.pre {B : XW} {b len : Nat} {S S' : AS} {F F' : RG → Option (Int32 × XW)} (h : OUT B o b len kd pl S' F') (hr : Rch kd pl S S') (hi : S'.2.1 = S.2.1) (hF : ∀ rec, F rec = F' rec) : OUT B o b len kd pl S F := by
  rcases h with ⟨X1, S1, a1, a2, a3, a4, a5⟩ | ⟨X1, S1, a1, a2, a3⟩ | ⟨X1, S1, a1, a2, a3, a4⟩
  · exact Or.inl ⟨X1, S1, fun rec => (hF rec).trans (a1 rec), hr.tr a2, a3, by rw [a4, hi], a5⟩
  · exact Or.inr (Or.inl ⟨X1, S1, fun rec => (hF rec).trans (a1 rec), hr.tr a2, a3⟩)
  · refine Or.inr (Or.inr ⟨X1, S1, fun rec => (hF rec).trans (a1 rec), hr.tr a2, ?_, a4⟩)
    rw [hi] at a3
    exact a3
theorem OUT.base {B B' : XW} {b len : Nat} {S : AS} {F : RG → Option (Int32 × XW)} (h : OUT B' o b len kd pl S F) (hB : mfm o KG B B') (hK : Kp B B' o b) : OUT B o b len kd pl S F := by
  rcases h with ⟨X1, S1, a1, a2, a3, a4, a5, a6, a7⟩ | ⟨X1, S1, a1, a2, a3, a5, a6, a7⟩ | ⟨X1, S1, a1, a2, a3, a5, a6, a7⟩
  · exact Or.inl ⟨X1, S1, a1, a2, a3, a4, a5, hB.tr a6, hK.tr a7⟩
  · exact Or.inr (Or.inl ⟨X1, S1, a1, a2, a3, a5, hB.tr a6, hK.tr a7⟩)
  · exact Or.inr (Or.inr ⟨X1, S1, a1, a2, a3, a5, hB.tr a6, hK.tr a7⟩)
theorem m_put23 {X1 : XW} {i : Nat} {w : Nat} {j : Nat} (hj : j ∈ [23, 24, 25]) (h57 : j < 57) (h0 : tMt.getD j 0 ≠ 0) (hX : X1 = wF X (mA o j) (va_up (xA X (mA o j)) i (nI w))) : mfm o KG X X1 ∧ xA X1 (mA o j) i = nI w ∧ (∀ k, k ∈ [23, 24, 25] → k ≠ j → k < 57 → xA X1 (mA o k) = xA X (mA o k)) ∧ ∀ k, k ∈ [23, 24, 25] → k < 57 → ∀ l, l ≠ i → xA X1 (mA o k) l = xA X (mA o k) l := by
  subst hX
  refine ⟨mfm.wF (by
    simp only [List.mem_cons, List.not_mem_nil, or_false] at hj
    rcases hj with rfl | rfl | rfl <;> decide) h57 h0, by rw [xA_wFe, upE], fun k hk hne hk57 => xA_wFm hk57 h57 hne, fun k hk hk57 l hl => ?_⟩
  by_cases e : k = j
  · subst e
    rw [xA_wFe, upN hl]
  · rw [xA_wFm hk57 h57 e]
theorem mem_KG {K : List Nat} (h : ∀ k, k ∈ K → k ∈ KG) : ∀ k, k ∈ K → k ∉ [4, 5, 6, 9] := fun k hk q => by
  have := h k hk
  unfold KG at this
  simp only [List.mem_cons, List.not_mem_nil, or_false] at this q
  omega
theorem KG_o : ∀ k, k ∈ KG → k ∉ [4, 5, 6, 9] := mem_KG (fun _ h => h)
theorem pl_b (G : MG X o n kd pl) (hpl : ∀ j, j ≤ n → pl j ≤ 1000) {i x : Nat} (hi : i ≤ n) (hx : x ≤ 5) (hx0 : 0 < x) : 0 < x + 16 * pl i ∧ x + 16 * pl i ≤ 16005 := by
  have := hpl i hi
  omega
/-- from 'behind a test' on, nothing waits on this level -/
theorem m_j218 (G : MG X o n kd pl) (hpl : ∀ j, j ≤ n → pl j ≤ 1000) {b i : Nat} {τ : List Wt} {E : Ex} (M : MA X o b (5, i, 0, (0, 0, 0) :: τ, E)) (hi : i ≤ n) (hl : τ.length ≤ 4) : OUT X o b (τ.length + 1) kd pl (5, i, 0, (0, 0, 0) :: τ, E) (fun rec => fX10_goesOnBehind_j218 rec o X) := by
  have L := G.1
  have hn := G.2.2.2.1
  obtain ⟨m7, m8, mc, mw⟩ := M
  obtain ⟨m22, w1, w2, w3, w4⟩ := mw (show 5 ≠ 2 by decide) (show 5 ≠ 3 by decide)
  have m7 : xI X o 7 = nI i := m7
  have m8 : xI X o 8 = 0 := m8
  have mc : MC X o b E := mc
  have m22 : xI X o 22 = nI τ.length := m22
  have hw : fX10_isWord o 3 X = some (b01 (kd i = 16), X) := m_isWord G hi m7 m8 (w := 3) (by decide)
  have s5 : stp kd pl (5, i, 0, (0, 0, 0) :: τ, E) = if kd i = 16 then (0, i + 1, 0, (0, 0, 7) :: τ, E) else (6, i, 0, (0, 0, 0) :: τ, E) := rfl
  by_cases c1 : kd i = 16
  · rw [if_pos c1] at s5
    left
    generalize hX1 : wF X (mA o 25) (va_up (xA X (mA o 25)) τ.length (nI 7)) = X1
    obtain ⟨p1, p2, p3, p4⟩ := m_put23 (o := o) (i := τ.length) (w := 7) (j := 25) (by decide) (by decide) (by decide) hX1.symm
    have L1 := L.mf p1
    have i1 : xI X1 o 7 = nI i := by rw [← hX1]; exact m7
    have i8 : xI X1 o 8 = 0 := by rw [← hX1]; exact m8
    have i22 : xI X1 o 22 = nI τ.length := by rw [← hX1]; exact m22
    have mc1 : MC X1 o b E := mc.mf (K := [25]) (by rw [← hX1]; exact mfm.wF (by decide) (by decide) (by decide)) (by decide)
    refine ⟨wI X1 o 7 (nI (i + 1)), (0, i + 1, 0, (0, 0, 7) :: τ, E), fun rec => ?_, Rch.st s5, rfl, rfl, ⟨xI_we, (xI_wn (by decide)).trans i8, mc1.mf (K := [7]) (mfm.wI (by decide)) (by decide), fun _ _ => ⟨(xI_wn (by decide)).trans i22, ?_, ?_, p2, ?_⟩⟩, p1.tr (mfm.wI (by decide)), (Kp.mf (K := [25]) (by rw [← hX1]; exact mfm.wF (by decide) (by decide) (by decide)) (by decide) (by decide)).tr (Kp.mf (K := [7]) (mfm.wI (by decide)) (by decide) (by decide))⟩
    · show fX10_goesOnBehind_j218 rec o X = some (1, wI X1 o 7 (nI (i + 1)))
      unfold fX10_goesOnBehind_j218
      rw [gK_M L, sb, hw, sb, b01_y c1]
      dsimp only
      rw [if_neg (by decide), rM25 L, sb, gI_M L, sb, m22, show (7 : Int32) = nI 7 from rfl, uM25 L (by omega), sb, hX1, gI_M L1, sb, i1, nI_1, pI_M L1, sb]
    · rw [xA_wI, p3 23 (by decide) (by decide) (by decide)]; exact w1
    · rw [xA_wI, p3 24 (by decide) (by decide) (by decide)]; exact w2
    · exact MW.up (d := τ.length) (fun k hk => by rw [xA_wI]; exact p4 23 (by decide) (by decide) k hk) (fun k hk => by rw [xA_wI]; exact p4 24 (by decide) (by decide) k hk) (fun k hk => by rw [xA_wI]; exact p4 25 (by decide) (by decide) k hk) (Nat.le_refl _) w4
  · rw [if_neg c1] at s5
    have s6 : stp kd pl (6, i, 0, (0, 0, 0) :: τ, E) = if τ = [] then (2, i, 0, [], E) else if kd i = 18 then (1, i + 1, 0, τ, E) else (3, i, 1 + 16 * pl i, (0, 0, 0) :: τ, E) := rfl
    by_cases c2 : τ = []
    · rw [if_pos c2] at s6
      right; left
      refine ⟨X, (2, i, 0, [], E), fun rec => ?_, (Rch.st s5).tr (Rch.st s6), rfl, ⟨m7, m8, mc, fun z => absurd rfl z⟩, mfm.rf, Kp.rf _ _ _⟩
      show fX10_goesOnBehind_j218 rec o X = some (0, X)
      unfold fX10_goesOnBehind_j218
      rw [gK_M L, sb, hw, sb, b01_n c1]
      dsimp only
      rw [if_pos rfl, gI_M L, sb, m22, c2, if_pos (by decide)]
    · rw [if_neg c2] at s6
      have ht0 : 0 < τ.length := by
        cases τ with
        | nil => exact absurd rfl c2
        | cons x y => exact Nat.succ_pos _
      have hsg : fX10_isSign o 41 X = some (b01 (kd i = 18), X) := m_isSign G hi m7 m8 (s := 1) (by decide)
      right; right
      by_cases c3 : kd i = 18
      · rw [if_pos c3] at s6
        have L1 : LM (wI X o 7 (nI (i + 1))) o := L.mv (tr1 rfl)
        have i22 : xI (wI X o 7 (nI (i + 1))) o 22 = nI τ.length := (xI_wn (by decide)).trans m22
        refine ⟨wI (wI X o 7 (nI (i + 1))) o 22 (nI (τ.length - 1)), (1, i + 1, 0, τ, E), fun rec => ?_, (Rch.st s5).tr (Rch.st s6), Or.inl ⟨rfl, rfl, rfl, Nat.lt_succ_self _⟩, ⟨(xI_wn (by decide)).trans xI_we, (xI_wn (by decide)).trans ((xI_wn (by decide)).trans m8), mc.mf (K := [7, 22]) ((mfm.wI (by decide)).tr (mfm.wI (by decide))) (by decide), fun _ _ => ⟨xI_we, MW.mf (X := X) (X1 := wI (wI X o 7 (nI (i + 1))) o 22 (nI (τ.length - 1))) (fun _ => rfl) (fun _ => rfl) (fun _ => rfl) w4⟩⟩, (mfm.wI (by decide)).tr (mfm.wI (by decide)), Kp.mf (K := [7, 22]) ((mfm.wI (by decide)).tr (mfm.wI (by decide))) (by decide) (by decide)⟩
        show fX10_goesOnBehind_j218 rec o X = rec (wI (wI X o 7 (nI (i + 1))) o 22 (nI (τ.length - 1)))
        unfold fX10_goesOnBehind_j218 fX10_takeSign
        rw [gK_M L, sb, hw, sb, b01_n c1]
        dsimp only
        rw [if_pos rfl, gI_M L, sb, m22, if_neg (nI_ne0 ht0 (by omega)), gK_M L, sb, sb, hsg, sb, b01_y c3]
        dsimp only
        rw [if_neg (by decide), gI_M L, sb, m7, nI_1, pI_M L, sb, sb, gI_M L1, sb, i22, nI_p1 ht0, pI_M L1, sb]
      · rw [if_neg c3] at s6
        have hwr : fX10_wrong o 1 X = some (wI X o 8 (nI (1 + 16 * pl i))) := m_wrong G (x := 1) hi m7 m8
        have L1 : LM (wI X o 8 (nI (1 + 16 * pl i))) o := L.mv (tr1 rfl)
        have i22 : xI (wI X o 8 (nI (1 + 16 * pl i))) o 22 = nI τ.length := (xI_wn (by decide)).trans m22
        refine ⟨wI (wI X o 8 (nI (1 + 16 * pl i))) o 22 (nI (τ.length - 1)), (3, i, 1 + 16 * pl i, (0, 0, 0) :: τ, E), fun rec => ?_, (Rch.st s5).tr (Rch.st s6), Or.inr ⟨rfl, pl_b G hpl hi (by decide) (by decide)⟩, ⟨(xI_wn (by decide)).trans ((xI_wn (by decide)).trans m7), (xI_wn (by decide)).trans xI_we, mc.mf (K := [8, 22]) ((mfm.wI (by decide)).tr (mfm.wI (by decide))) (by decide), fun _ z => absurd rfl z⟩, (mfm.wI (by decide)).tr (mfm.wI (by decide)), Kp.mf (K := [8, 22]) ((mfm.wI (by decide)).tr (mfm.wI (by decide))) (by decide) (by decide)⟩
        show fX10_goesOnBehind_j218 rec o X = rec (wI (wI X o 8 (nI (1 + 16 * pl i))) o 22 (nI (τ.length - 1)))
        unfold fX10_goesOnBehind_j218 fX10_takeSign
        rw [gK_M L, sb, hw, sb, b01_n c1]
        dsimp only
        rw [if_pos rfl, gI_M L, sb, m22, if_neg (nI_ne0 ht0 (by omega)), gK_M L, sb, sb, hsg, sb, b01_n c3]
        dsimp only
        rw [if_pos rfl, gK_M L, sb, hwr, sb, sb, gI_M L1, sb, i22, nI_p1 ht0, pI_M L1, sb]
/-- a wait is laid down: emitted, then nothing waits there -/
theorem m_flush (L : LM X o) {b i m m' : Nat} {s g a x : Nat} {τ : List Wt} {E : Ex} (M : MA X o b (m, i, 0, (s, g, a) :: τ, E)) (hm : m ≠ 2 ∧ m ≠ 3) (hm' : m' ≠ 2 ∧ m' ≠ 3) (hb : b + E.1 < 1060) (hl : τ.length ≤ 4) {j : Nat} (hj : j = 23 ∧ x = s ∨ j = 24 ∧ x = g ∨ j = 25 ∧ x = a) (y : Wt) (hy : y = (if j = 23 then (0, g, a) else if j = 24 then (s, 0, a) else (s, g, 0))) : ∃ Z Z1, fX10_emit o (nI x) 0 X = some Z ∧ LM Z o ∧ xI Z o 22 = nI τ.length ∧ Z1 = wF Z (mA o j) (va_up (xA Z (mA o j)) τ.length (nI 0)) ∧ MA Z1 o b (m', i, 0, y :: τ, psh E (x, 0)) ∧ mfm o KG X Z1 ∧ Kp X Z1 o b := by
  obtain ⟨m7, m8, mc, mw⟩ := M
  obtain ⟨m22, w1, w2, w3, w4⟩ := mw hm.1 hm.2
  have m22 : xI X o 22 = nI τ.length := m22
  obtain ⟨Z, z1, z2, z3, z4⟩ := m_emit L mc hb (x, 0)
  have hj' : j ∈ [23, 24, 25] ∧ j < 57 ∧ tMt.getD j 0 ≠ 0 := by
    rcases hj with ⟨rfl, -⟩ | ⟨rfl, -⟩ | ⟨rfl, -⟩ <;> decide
  generalize hZ1 : wF Z (mA o j) (va_up (xA Z (mA o j)) τ.length (nI 0)) = Z1
  obtain ⟨p1, p2, p3, p4⟩ := m_put23 (X := Z) (o := o) (i := τ.length) (w := 0) (j := j) hj'.1 hj'.2.1 hj'.2.2 hZ1.symm
  have zA : ∀ k, k ∈ [23, 24, 25] → xA Z (mA o k) = xA X (mA o k) := fun k hk => by
    simp only [List.mem_cons, List.not_mem_nil, or_false] at hk
    rcases hk with rfl | rfl | rfl
    · exact z2.A (by decide) (by decide) (by decide)
    · exact z2.A (by decide) (by decide) (by decide)
    · exact z2.A (by decide) (by decide) (by decide)
  have pI' : xI Z1 o = xI Z o := by rw [← hZ1]; rfl
  have pA : xA Z1 (mA o 19) = xA Z (mA o 19) ∧ xA Z1 (mA o 20) = xA Z (mA o 20) := by
    rw [← hZ1]
    rcases hj with ⟨rfl, -⟩ | ⟨rfl, -⟩ | ⟨rfl, -⟩ <;> exact ⟨xA_wFm (by decide) (by decide) (by decide), xA_wFm (by decide) (by decide) (by decide)⟩
  refine ⟨Z, Z1, z1, L.mf z2, by rw [z2.I (by decide)]; exact m22, hZ1.symm, ⟨?_, ?_, ?_, fun _ _ => ⟨?_, ?_⟩⟩, (z2.wk (by decide)).tr p1, fun k hk => ?_⟩
  · rw [pI', z2.I (by decide)]; exact m7
  · rw [pI', z2.I (by decide)]; exact m8
  · unfold MC
    rw [pI', pA.1, pA.2]
    exact z3
  · rw [pI', z2.I (by decide)]; exact m22
  · have ht : MW Z1 o τ := MW.up (d := τ.length) (fun k hk => by rw [p4 23 (by decide) (by decide) k hk, zA 23 (by decide)]) (fun k hk => by rw [p4 24 (by decide) (by decide) k hk, zA 24 (by decide)]) (fun k hk => by rw [p4 25 (by decide) (by decide) k hk, zA 25 (by decide)]) (Nat.le_refl _) w4
    subst hy
    rcases hj with ⟨rfl, -⟩ | ⟨rfl, -⟩ | ⟨rfl, -⟩
    · refine ⟨p2, ?_, ?_, ht⟩
      · rw [p3 24 (by decide) (by decide) (by decide), zA 24 (by decide)]; exact w2
      · rw [p3 25 (by decide) (by decide) (by decide), zA 25 (by decide)]; exact w3
    · refine ⟨?_, p2, ?_, ht⟩
      · rw [p3 23 (by decide) (by decide) (by decide), zA 23 (by decide)]; exact w1
      · rw [p3 25 (by decide) (by decide) (by decide), zA 25 (by decide)]; exact w3
    · refine ⟨?_, ?_, p2, ht⟩
      · rw [p3 23 (by decide) (by decide) (by decide), zA 23 (by decide)]; exact w1
      · rw [p3 24 (by decide) (by decide) (by decide), zA 24 (by decide)]; exact w2
  · have h4 := z4 k hk
    rw [pA.1, pA.2]
    exact h4
end MEx2
