/-! LINES OF RULES -/
abbrev Ln : Type := Int32 × Nat × Ex × Ex
def okL (l : Ln) : Prop := (l.1 = 0 ∨ l.1 = 1) ∧ l.2.1 < 3 ∧ okE l.2.2.1 ∧ (l.2.2.2.1 = 0 ∨ okE l.2.2.2)
def wi (n lo hi : Int32) : Int32 := if lo ≤ n then (if n ≤ hi then n else hi) else lo
theorem bW_wi {n lo hi : Int32} (h : lo ≤ hi) : iMx lo (iMn hi n) = wi n lo hi := by
  unfold iMx iMn wi
  have h := Int32.le_iff_toInt_le.mp h
  by_cases h1 : n < hi
  · have h1' := Int32.lt_iff_toInt_lt.mp h1
    rw [if_pos h1]
    have h3 : n ≤ hi := Int32.le_iff_toInt_le.mpr (by omega)
    rw [if_pos h3]
    by_cases h2 : lo < n
    · have h2' := Int32.lt_iff_toInt_lt.mp h2
      rw [if_pos h2, if_pos (Int32.le_iff_toInt_le.mpr (by omega))]
    · rw [if_neg h2]
      by_cases h4 : lo ≤ n
      · rw [if_pos h4]
        have h4' := Int32.le_iff_toInt_le.mp h4
        have h2' : ¬ lo.toInt < n.toInt := fun q => h2 (Int32.lt_iff_toInt_lt.mpr q)
        exact Int32.toInt_inj.mp (by omega)
      · rw [if_neg h4]
  · have h1' : ¬ n.toInt < hi.toInt := fun q => h1 (Int32.lt_iff_toInt_lt.mpr q)
    rw [if_neg h1]
    have h5 : lo ≤ n := Int32.le_iff_toInt_le.mpr (by omega)
    rw [if_pos h5]
    have e : (if n ≤ hi then n else hi) = hi := by
      by_cases h6 : n ≤ hi
      · rw [if_pos h6]
        have h6' := Int32.le_iff_toInt_le.mp h6
        exact Int32.toInt_inj.mp (by omega)
      · rw [if_neg h6]
    rw [e]
    by_cases h2 : lo < hi
    · rw [if_pos h2]
    · rw [if_neg h2]
      have h2' : ¬ lo.toInt < hi.toInt := fun q => h2 (Int32.lt_iff_toInt_lt.mpr q)
      exact Int32.toInt_inj.mp (by omega)
theorem lim_le : ∀ w, w < 3 → xsv 3 w ≤ xsv 4 w := by decide
def lv (l : Ln) (kn : Nat → Int32) : Int32 := wi (wth kn l.2.2.1 + (if l.1 = 0 then 0 else kn l.2.1)) (xsv 3 l.2.1) (xsv 4 l.2.1)
abbrev lsk (l : Ln) (kn : Nat → Int32) : Prop := ¬ l.2.2.2.1 = 0 ∧ wth kn l.2.2.2 = 0
def sv (d : Rd) (id : Nat) (ls : Nat → Ln) : Nat → Nat → Nat → Int32
  | 0 => fun _ w => xsv 2 w
  | n + 1 => fun i w => if w = (ls n).2.1 ∧ ¬ lsk (ls n) (k13 (sv d id ls n) d id i) then lv (ls n) (k13 (sv d id ls n) d id i) else sv d id ls n i w
def CLn (X : XW) (R n : Nat) (l : Ln) : Prop := xA X (R + 1) n = l.1 ∧ xA X (R + 2) n = nI l.2.1 ∧ ∃ b, xA X (R + 3) n = nI b ∧ xA X (R + 4) n = nI (b + l.2.2.1.1) ∧ xA X (R + 5) n = nI (b + l.2.2.1.1 + l.2.2.2.1) ∧ CEx X R b l.2.2.1 ∧ CEx X R (b + l.2.2.1.1) l.2.2.2
def CRu (X : XW) (R N : Nat) (ls : Nat → Ln) : Prop := LRu X R ∧ xI X R 6 = nI N ∧ N ≤ 24 ∧ ∀ n, n < N → CLn X R n (ls n)
def MLn (X : XW) (o m n : Nat) (l : Ln) : Prop := xA X (mA o 15) (24 * m + n) = l.1 ∧ xA X (mA o 16) (24 * m + n) = nI l.2.1 ∧ (∃ b, xA X (mA o 17) (24 * m + n) = nI b ∧ b + l.2.2.1.1 < 1060 ∧ MEx X o (1060 * m + b) l.2.2.1) ∧ (l.2.2.2.1 = 0 → xA X (mA o 18) (24 * m + n) = -1) ∧ (¬ l.2.2.2.1 = 0 → ∃ c, xA X (mA o 18) (24 * m + n) = nI c ∧ c + l.2.2.2.1 < 1060 ∧ MEx X o (1060 * m + c) l.2.2.2)
def MRu (X : XW) (o m N : Nat) (ls : Nat → Ln) : Prop := xA X (mA o 14) m = nI N ∧ N ≤ 24 ∧ ∀ n, n < N → MLn X o m n (ls n)
theorem CLn.mf {X X1 : XW} {R n : Nat} {l : Ln} {S : Nat → Prop} (h : CLn X R n l) (F : xfm S X X1) (hS : ∀ a, R ≤ a → a ≤ R + 6 → ¬ S a) : CLn X1 R n l := by
  unfold CLn CEx
  rw [F.ln, (F.2 (R + 1) (hS _ (by omega) (by omega))).2.1, (F.2 (R + 2) (hS _ (by omega) (by omega))).2.1, (F.2 (R + 3) (hS _ (by omega) (by omega))).2.1, (F.2 (R + 4) (hS _ (by omega) (by omega))).2.1, (F.2 (R + 5) (hS _ (by omega) (by omega))).2.1, (F.2 (R + 6) (hS _ (by omega) (by omega))).2.1]
  exact h
theorem CRu.mf {X X1 : XW} {R N : Nat} {ls : Nat → Ln} {S : Nat → Prop} (h : CRu X R N ls) (F : xfm S X X1) (hS : ∀ a, R ≤ a → a ≤ R + 6 → ¬ S a) : CRu X1 R N ls := ⟨h.1.mv F, by rw [(F.2 R (hS _ (by omega) (by omega))).1]; exact h.2.1, h.2.2.1, fun n hn => (h.2.2.2 n hn).mf F hS⟩
theorem MLn.mf {X X1 : XW} {o m n : Nat} {l : Ln} {K : List Nat} (h : MLn X o m n l) (F : mfm o K X X1) (hK : ∀ k, k ∈ K → k ∉ [14, 15, 16, 17, 18, 19, 20]) : MLn X1 o m n l := by
  have e : ∀ k, k ∈ [14, 15, 16, 17, 18, 19, 20] → k ∉ K := fun k hk q => hK k q hk
  unfold MLn MEx
  rw [F.A (k := 15) (e 15 (by decide)) (by decide) (by decide), F.A (k := 16) (e 16 (by decide)) (by decide) (by decide), F.A (k := 17) (e 17 (by decide)) (by decide) (by decide), F.A (k := 18) (e 18 (by decide)) (by decide) (by decide), F.A (k := 19) (e 19 (by decide)) (by decide) (by decide), F.A (k := 20) (e 20 (by decide)) (by decide) (by decide)]
  exact h
theorem MRu.mf {X X1 : XW} {o m N : Nat} {ls : Nat → Ln} {K : List Nat} (h : MRu X o m N ls) (F : mfm o K X X1) (hK : ∀ k, k ∈ K → k ∉ [14, 15, 16, 17, 18, 19, 20]) : MRu X1 o m N ls := ⟨by rw [F.A (k := 14) (fun q => hK 14 q (by decide)) (by decide) (by decide)]; exact h.1, h.2.1, fun n hn => (h.2.2 n hn).mf F hK⟩
def SA (s c : Nat) (a : Nat) : Prop := a = c ∨ a = c + 1 ∨ s + 10 ≤ a ∧ a ≤ s + 12
section CLi
variable {X : XW} {s c R id : Nat} {d : Rd}
theorem f_aL120 (S : LSh X s) {i w : Nat} (hw : w < 3) (hi : i < 80) (x : Int32) : fX6_applyLine_j120 s (nI i) (nI w) x X = some (wF X (s + 10 + w) (va_up (xA X (s + 10 + w)) i (wi x (xsv 3 w) (xsv 4 w)))) := by
  unfold fX6_applyLine_j120 fX9_bringWithin
  rw [sR1 S, sb, rwQ S (by omega), sb, sA_of hw, sb, sA_of hw, sb, sb]
  dsimp only
  rw [rwU S (by omega) hi, sb, bW_wi (lim_le w hw)]
theorem f_applyLine (C : LCa X c) (S : LSh X s) (hc : c + 1 < s) (hR : R + 6 < c ∨ s + 23 < R) {N n i : Nat} {ls : Nat → Ln} (U : CRu X R N ls) (hn : n < N) (hl : okL (ls n)) {kn : Nat → Int32} (hi : i < 80) (hk : ∀ w, w < 13 → xA X (s + 10 + w) i = kn w) :
    ∃ X1, fX6_applyLine s R (nI n) c (nI i) X = some X1 ∧ xfm (SA s c) X X1 ∧ ∀ w, w < 3 → xA X1 (s + 10 + w) = if w = (ls n).2.1 ∧ ¬ lsk (ls n) kn then va_up (xA X (s + 10 + w)) i (lv (ls n) kn) else xA X (s + 10 + w) := by
  obtain ⟨U1, U2, U3, U4⟩ := U
  have hCL := U4 n hn
  obtain ⟨u1, u2, b, u3, u4, u5, x1, x2⟩ := U4 n hn
  obtain ⟨l1, l2, l3, l4⟩ := hl
  have x1b := x1.1
  have x2b := x2.1
  have l1000 := U1.2.2.2.2.2.2.2.2
  -- the value worked out and written
  have h65 : ∀ Y, xfm (SK c) X Y → ¬ lsk (ls n) kn → ∃ X1, fX6_applyLine_j65 s R (nI n) c (nI i) (nI (ls n).2.1) Y = some X1 ∧ xfm (SA s c) X X1 ∧ ∀ w, w < 3 → xA X1 (s + 10 + w) = if w = (ls n).2.1 ∧ ¬ lsk (ls n) kn then va_up (xA X (s + 10 + w)) i (lv (ls n) kn) else xA X (s + 10 + w) := by
    intro Y F hs
    have U1' := U1.mv F
    have C' := C.mv F
    have S' := S.mv F
    obtain ⟨v1, v2, b', v3, v4, v5, y1, y2⟩ := hCL.mf F (by unfold SK; omega)
    have ar : ∀ w, w < 13 → xA Y (s + 10 + w) = xA X (s + 10 + w) := fun w hw => (F.2 (s + 10 + w) (by unfold SK; omega)).2.1
    obtain ⟨Z, g1, g2⟩ := f_workOut (kn := kn) C' S' U1' hc (by omega) l3 y1 hi (fun w hw => by rw [ar w hw]; exact hk w hw)
    have F2 := F.tr g2
    have ar2 : ∀ w, w < 13 → xA Z (s + 10 + w) = xA X (s + 10 + w) := fun w hw => (F2.2 (s + 10 + w) (by unfold SK; omega)).2.1
    have z1 : xA Z (R + 1) n = (ls n).1 := by rw [(F2.2 (R + 1) (by unfold SK; omega)).2.1]; exact u1
    have S2 := S.mv F2
    have U2' := U1.mv F2
    have fin : ∀ x, x = wth kn (ls n).2.2.1 + (if (ls n).1 = 0 then 0 else kn (ls n).2.1) → ∃ X1, fX6_applyLine_j120 s (nI i) (nI (ls n).2.1) x Z = some X1 ∧ xfm (SA s c) X X1 ∧ ∀ w, w < 3 → xA X1 (s + 10 + w) = if w = (ls n).2.1 ∧ ¬ lsk (ls n) kn then va_up (xA X (s + 10 + w)) i (lv (ls n) kn) else xA X (s + 10 + w) := by
      rintro x rfl
      refine ⟨_, f_aL120 S2 l2 hi _, (F2.wk (fun a ha => by unfold SK at ha; unfold SA; omega)).tr (xfm.wF (by unfold SA; omega)), fun w hw => ?_⟩
      by_cases e : w = (ls n).2.1
      · rw [if_pos (show w = (ls n).2.1 ∧ ¬ lsk (ls n) kn from ⟨e, hs⟩), e, xA_wFe, ar2 _ (by omega)]
        rfl
      · rw [if_neg (show ¬ (w = (ls n).2.1 ∧ ¬ lsk (ls n) kn) from fun q => e q.1), xA_wFn (by omega), ar2 w (by omega)]
    unfold fX6_applyLine_j65
    rw [uR5 U1', sb, uR2 U1', sb, uA2 U1' (by omega), sb, v3, uR3 U1', sb, uA3 U1' (by omega), sb, v4, sR1 S', sb, gK_of' C'.1, sb, g1, sb]
    dsimp only
    rw [uR0 U2', sb, uA0 U2' (by omega), sb, z1]
    by_cases hz : (ls n).1 = 0
    · rw [if_pos hz]
      exact fin _ (by rw [if_pos hz, Int32.add_zero])
    · rw [if_neg hz, sR1 S2, sb, rwQ S2 (by omega), sb, rwA S2 (by omega) hi, sb, ar2 _ (by omega), hk _ (by omega)]
      exact fin _ (by rw [if_neg hz, Int32.add_comm])
  unfold fX6_applyLine
  rw [uR1 U1, sb, uA1 U1 (by omega), sb, u2, uR3 U1, sb, uA3 U1 (by omega), sb, u4, uR4 U1, sb, uA4 U1 (by omega), sb, u5]
  by_cases h0 : (ls n).2.2.2.1 = 0
  · rw [if_pos (nI_le (by omega) (by omega))]
    unfold fX6_applyLine_j28
    rw [if_pos rfl]
    exact h65 X (xfm.rf _ _) (fun q => q.1 h0)
  · rw [if_neg (nI_ge (by omega) (by omega))]
    unfold fX6_applyLine_j28
    obtain ⟨Z, g1, g2⟩ := f_workOut C S U1 hc (by omega) (l4.resolve_left h0) x2 hi hk
    rw [if_neg (by decide), uR5 U1, sb, uR3 U1, sb, uA3 U1 (by omega), sb, u4, uR4 U1, sb, uA4 U1 (by omega), sb, u5, sR1 S, sb, gK_of' C.1, sb, g1, sb]
    dsimp only
    by_cases hz : wth kn (ls n).2.2.2 = 0
    · rw [if_pos hz]
      refine ⟨Z, rfl, g2.wk (fun a ha => by unfold SK at ha; unfold SA; omega), fun w hw => ?_⟩
      rw [if_neg (show ¬ (w = (ls n).2.1 ∧ ¬ lsk (ls n) kn) from fun q => q.2 ⟨h0, hz⟩), (g2.2 (s + 10 + w) (by unfold SK; omega)).2.1]
    · rw [if_neg hz]
      exact h65 Z g2 (fun q => hz q.2)
/-- the class's rows hold g and what is known -/
def CVal (X : XW) (s : Nat) (d : Rd) (id : Nat) (g : Nat → Nat → Int32) : Prop := ∀ i w, i < dZ d → w < 13 → xA X (s + 10 + w) i = k13 g d id i w
theorem f_aLs13 (C : LCa X c) (S : LSh X s) (hc : c + 1 < s) (hR : R + 6 < c ∨ s + 23 < R) (W : WRd d) {N n : Nat} {ls : Nat → Ln} (U : CRu X R N ls) (hn : n < N) (hl : okL (ls n)) (hz : xI X s 3 = nI (dZ d)) (V : CVal X s d id (sv d id ls n)) :
    ∃ X1, fX6_applyLines_l13 s R c (nI n) FU 0 X = some X1 ∧ xfm (SA s c) X X1 ∧ CVal X1 s d id (sv d id ls (n + 1)) := by
  have W80 := W.z
  have key := iterP2 (b := fun rec => fX6_applyLines_l13_b rec s R c (nI n)) (z := fun _ _ => none) (fun m a Z => ∃ i, i ≤ dZ d ∧ m = dZ d - i ∧ a = nI i ∧ xfm (SA s c) X Z ∧ ∀ j w, j < dZ d → w < 13 → xA Z (s + 10 + w) j = k13 (if j < i then sv d id ls (n + 1) else sv d id ls n) d id j w) (fun X1 => xfm (SA s c) X X1 ∧ CVal X1 s d id (sv d id ls (n + 1))) ?_ FU (dZ d) (nI 0) X (FUlt (by omega)) ⟨0, Nat.zero_le _, rfl, rfl, xfm.rf _ _, fun j w hj hw => by rw [if_neg (by omega)]; exact V j w hj hw⟩
  · exact key
  rintro m a Z ⟨i, hi, rfl, rfl, F, hv⟩
  have hz1 : xI Z s 3 = nI (dZ d) := by rw [(F.2 s (by unfold SA; omega)).1]; exact hz
  have S1 := S.mv F
  by_cases hii : i = dZ d
  · left
    subst hii
    refine ⟨Z, fun rec => ?_, F, fun j w hj hw => by rw [hv j w hj hw, if_pos hj]⟩
    unfold fX6_applyLines_l13_b
    rw [sI S1, sb, hz1, if_pos (nI_le (Nat.le_refl _) (by omega))]
  · right
    obtain ⟨Z1, g1, g2, g3⟩ := f_applyLine (C.mv F) S1 hc hR (U.mf F (by unfold SA; omega)) hn hl (kn := k13 (sv d id ls n) d id i) (i := i) (by omega) (fun w hw => by rw [hv i w (by omega) hw, if_neg (by omega)])
    refine ⟨dZ d - (i + 1), nI (i + 1), Z1, by omega, ⟨i + 1, by omega, rfl, rfl, F.tr g2, fun j w hj hw => ?_⟩, fun rec => ?_⟩
    · by_cases hw3 : w < 3
      · rw [g3 w hw3]
        by_cases hji : j = i
        · subst hji
          rw [if_pos (show j < j + 1 by omega)]
          have e : k13 (sv d id ls (n + 1)) d id j w = sv d id ls (n + 1) j w := if_pos hw3
          have e2 : sv d id ls (n + 1) j w = if w = (ls n).2.1 ∧ ¬ lsk (ls n) (k13 (sv d id ls n) d id j) then lv (ls n) (k13 (sv d id ls n) d id j) else sv d id ls n j w := rfl
          rw [e, e2]
          by_cases hq : w = (ls n).2.1 ∧ ¬ lsk (ls n) (k13 (sv d id ls n) d id j)
          · rw [if_pos hq, if_pos hq, upE]
          · rw [if_neg hq, if_neg hq, hv j w hj hw, if_neg (by omega)]
            exact if_pos hw3
        · have e : (if j < i + 1 then sv d id ls (n + 1) else sv d id ls n) = (if j < i then sv d id ls (n + 1) else sv d id ls n) := by
            by_cases q : j < i
            · rw [if_pos q, if_pos (by omega)]
            · rw [if_neg q, if_neg (by omega)]
          rw [e, ← hv j w hj hw]
          split
          · exact upN hji
          · rfl
      · rw [(g2.2 (s + 10 + w) (by unfold SA; omega)).2.1, hv j w hj hw]
        unfold k13
        rw [if_neg hw3, if_neg hw3]
    · unfold fX6_applyLines_l13_b
      rw [sI S1, sb, hz1, if_neg (nI_ge (by omega) (by omega)), sK S1, sb, g1, sb, nI_1]
theorem f_applyLines (C : LCa X c) (S : LSh X s) (hc : c + 1 < s) (hR : R + 6 < c ∨ s + 23 < R) (W : WRd d) {N : Nat} {ls : Nat → Ln} (U : CRu X R N ls) (hl : ∀ n, n < N → okL (ls n)) (hz : xI X s 3 = nI (dZ d)) (V : CVal X s d id (sv d id ls 0)) :
    ∃ X1, fX6_applyLines s R c X = some X1 ∧ xfm (SA s c) X X1 ∧ CVal X1 s d id (sv d id ls N) := by
  have N24 := U.2.2.1
  have key := iterP2 (b := fun rec => fX6_applyLines_l2_b rec s R c) (z := fun _ _ => none) (fun m a Z => ∃ n, n ≤ N ∧ m = N - n ∧ a = nI n ∧ xfm (SA s c) X Z ∧ CVal Z s d id (sv d id ls n)) (fun X1 => xfm (SA s c) X X1 ∧ CVal X1 s d id (sv d id ls N)) ?_ FU N (nI 0) X (FUlt (by omega)) ⟨0, Nat.zero_le _, rfl, rfl, xfm.rf _ _, V⟩
  · obtain ⟨X1, h1, h2⟩ := key
    refine ⟨X1, ?_, h2⟩
    unfold fX6_applyLines
    rw [show fX6_applyLines_l2 s R c FU 0 X = some X1 from h1, sb]
  rintro m a Z ⟨n, hn, rfl, rfl, F, hv⟩
  have U1 := U.mf F (by unfold SA; omega)
  by_cases hnn : n = N
  · left
    subst hnn
    refine ⟨Z, fun rec => ?_, F, hv⟩
    unfold fX6_applyLines_l2_b
    rw [uI_ U1.1, sb, U1.2.1, if_pos (nI_le (Nat.le_refl _) (by omega))]
  · right
    obtain ⟨Z1, g1, g2, g3⟩ := f_aLs13 (C.mv F) (S.mv F) hc hR W U1 (show n < N by omega) (hl n (by omega)) (by rw [(F.2 s (by unfold SA; omega)).1]; exact hz) hv
    refine ⟨N - (n + 1), nI (n + 1), Z1, by omega, ⟨n + 1, by omega, rfl, rfl, F.tr g2, g3⟩, fun rec => ?_⟩
    unfold fX6_applyLines_l2_b
    rw [uI_ U1.1, sb, U1.2.1, if_neg (nI_ge (by omega) (by omega)), g1, sb, nI_1]
end CLi
