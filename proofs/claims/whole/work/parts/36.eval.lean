/-! EXPRESSIONS: (how many, the i-th (kind, argument)): kinds 1 a number, 2 a value, 3 + 4 - 5 < 6 = 7 and -/
abbrev Ex : Type := Nat × (Nat → Nat × Nat)
def dn (e : Nat → Nat × Nat) : Nat → Nat
  | 0 => 0
  | j + 1 => if (e j).1 ≤ 2 then dn e j + 1 else dn e j - 1
def okE (E : Ex) : Prop := 0 < E.1 ∧ E.1 ≤ 1000 ∧ dn E.2 E.1 = 1 ∧ ∀ j, j < E.1 → ((E.2 j).1 = 1 ∧ (E.2 j).2 ≤ 9999 ∧ dn E.2 j < 16) ∨ ((E.2 j).1 = 2 ∧ (E.2 j).2 < 13 ∧ dn E.2 j < 16) ∨ (3 ≤ (E.2 j).1 ∧ (E.2 j).1 ≤ 7 ∧ 2 ≤ dn E.2 j ∧ dn E.2 j ≤ 16)
def jn (c : Nat) (a b : Int32) : Int32 := if c = 3 then a + b else if c = 4 then a - b else if c = 5 then b01 (a < b) else if c = 6 then b01 (a = b) else b01 (¬ a = 0 ∧ ¬ b = 0)
def ev (kn : Nat → Int32) (e : Nat → Nat × Nat) : Nat → Nat → Int32
  | 0 => fun _ => 0
  | j + 1 => if (e j).1 = 1 then va_up (ev kn e j) (dn e j) (nI (e j).2) else if (e j).1 = 2 then va_up (ev kn e j) (dn e j) (kn (e j).2) else va_up (ev kn e j) (dn e j - 2) (jn (e j).1 (ev kn e j (dn e j - 2)) (ev kn e j (dn e j - 1)))
def wth (kn : Nat → Int32) (E : Ex) : Int32 := ev kn E.2 E.1 0
theorem ev_congr {kn kn' : Nat → Int32} {E : Ex} (hE : okE E) (h : ∀ w, w < 13 → kn w = kn' w) : ∀ j, j ≤ E.1 → ev kn E.2 j = ev kn' E.2 j
  | 0, _ => rfl
  | j + 1, hj => by
    have ih := ev_congr hE h j (by omega)
    show (if (E.2 j).1 = 1 then va_up (ev kn E.2 j) (dn E.2 j) (nI (E.2 j).2) else if (E.2 j).1 = 2 then va_up (ev kn E.2 j) (dn E.2 j) (kn (E.2 j).2) else va_up (ev kn E.2 j) (dn E.2 j - 2) (jn (E.2 j).1 (ev kn E.2 j (dn E.2 j - 2)) (ev kn E.2 j (dn E.2 j - 1)))) = (if (E.2 j).1 = 1 then va_up (ev kn' E.2 j) (dn E.2 j) (nI (E.2 j).2) else if (E.2 j).1 = 2 then va_up (ev kn' E.2 j) (dn E.2 j) (kn' (E.2 j).2) else va_up (ev kn' E.2 j) (dn E.2 j - 2) (jn (E.2 j).1 (ev kn' E.2 j (dn E.2 j - 2)) (ev kn' E.2 j (dn E.2 j - 1))))
    rw [ih]
    rcases hE.2.2.2 j (by omega) with h1 | h1 | h1
    · rw [if_pos h1.1, if_pos h1.1]
    · rw [h _ h1.2.1]
    · rw [if_neg (by omega), if_neg (by omega), if_neg (by omega), if_neg (by omega)]
theorem wth_congr {kn kn' : Nat → Int32} {E : Ex} (hE : okE E) (h : ∀ w, w < 13 → kn w = kn' w) : wth kn E = wth kn' E := by
  unfold wth
  rw [ev_congr hE h _ (Nat.le_refl _)]
theorem ev_1 {kn : Nat → Int32} {e : Nat → Nat × Nat} {j : Nat} (h : (e j).1 = 1) : ev kn e (j + 1) = va_up (ev kn e j) (dn e j) (nI (e j).2) := if_pos h
theorem ev_2 {kn : Nat → Int32} {e : Nat → Nat × Nat} {j : Nat} (h : (e j).1 = 2) : ev kn e (j + 1) = va_up (ev kn e j) (dn e j) (kn (e j).2) := (if_neg (by omega)).trans (if_pos h)
theorem ev_3 {kn : Nat → Int32} {e : Nat → Nat × Nat} {j : Nat} (h : 3 ≤ (e j).1) : ev kn e (j + 1) = va_up (ev kn e j) (dn e j - 2) (jn (e j).1 (ev kn e j (dn e j - 2)) (ev kn e j (dn e j - 1))) := (if_neg (by omega)).trans (if_neg (by omega))
theorem dn_p {e : Nat → Nat × Nat} {j : Nat} (h : (e j).1 ≤ 2) : dn e (j + 1) = dn e j + 1 := if_pos h
theorem dn_m {e : Nat → Nat × Nat} {j : Nat} (h : 3 ≤ (e j).1) : dn e (j + 1) = dn e j - 1 := if_neg (by omega)
theorem dn_16 {E : Ex} (hE : okE E) {j : Nat} (hj : j ≤ E.1) : dn E.2 j ≤ 16 := by
  cases j with
  | zero => exact Nat.zero_le _
  | succ j =>
    rcases hE.2.2.2 j (by omega) with h | h | h
    · rw [dn_p (by omega)]; omega
    · rw [dn_p (by omega)]; omega
    · rw [dn_m h.1]; omega
/-! the reference works it out -/
def MEx (X : XW) (o b : Nat) (E : Ex) : Prop := (∀ j, j < E.1 → xA X (mA o 19) (b + j) = nI (E.2 j).1 ∧ ((E.2 j).1 ≤ 2 → xA X (mA o 20) (b + j) = nI (E.2 j).2)) ∧ xA X (mA o 19) (b + E.1) = 0
theorem lt_le1 {a b : Int32} : b ≤ a ↔ ¬ a < b := Int32.not_lt.symm
theorem va_ag {f g : Nat → Int32} {n m : Nat} {x : Int32} (h : ∀ i, i < n → f i = g i) : ∀ i, i < n ∨ i = m → va_up f m x i = va_up g m x i := by
  intro i hi
  by_cases e : i = m
  · rw [e, upE, upE]
  · rw [upN e, upN e]
    exact h i (by omega)
section MEv
variable {X : XW} {o : Nat}
theorem m_w1 (L : LM X o) {b j : Nat} {E : Ex} {kn : Nat → Int32} (hE : okE E) (M : MEx X o b E) (hb : b + E.1 < 5300) (hk : ∀ w, w < 13 → xA X (mA o 26) w = kn w) (hj : j < E.1) (hp : ∀ i, i < dn E.2 j → xA X (mA o 27) i = ev kn E.2 j i) :
    ∃ f, (∀ i, i < dn E.2 (j + 1) → f i = ev kn E.2 (j + 1) i) ∧ ∀ rec, fX10_worth_l4_b rec o (nI (b + j)) (nI (dn E.2 j)) X = rec (nI (b + (j + 1))) (nI (dn E.2 (j + 1))) (wF X (mA o 27) f) := by
  obtain ⟨m1, m2⟩ := M.1 j hj
  have d16 := dn_16 hE (j := j) (by omega)
  rcases hE.2.2.2 j hj with ⟨h1, h2, h3⟩ | ⟨h1, h2, h3⟩ | ⟨h1, h2, h3, -⟩
  · have m2 := m2 (by omega)
    refine ⟨va_up (xA X (mA o 27)) (dn E.2 j) (nI (E.2 j).2), ?_, fun rec => ?_⟩
    · rw [dn_p (by omega), ev_1 h1]
      intro i hi
      exact va_ag hp i (by omega)
    · unfold fX10_worth_l4_b fX10_worth_j33 fX10_worth_j64 fX10_worth_j186
      rw [h1] at m1
      rw [rM19 L, sb, aM19 L (by omega), sb, m1, if_neg (by decide), sb, aM19 L (by omega), sb, m1, if_pos (by decide), rM27 L, sb, if_pos (by decide), rM20 L, sb, aM20 L (by omega), sb, m2, uM27 L (by omega), sb, dn_p (by omega), nI_1, nI_1]
      rfl
  · have m2 := m2 (by omega)
    refine ⟨va_up (xA X (mA o 27)) (dn E.2 j) (kn (E.2 j).2), ?_, fun rec => ?_⟩
    · rw [dn_p (by omega), ev_2 h1]
      intro i hi
      exact va_ag hp i (by omega)
    · unfold fX10_worth_l4_b fX10_worth_j33 fX10_worth_j64 fX10_worth_j186
      rw [h1] at m1
      rw [rM19 L, sb, aM19 L (by omega), sb, m1, if_neg (by decide), sb, aM19 L (by omega), sb, m1, if_neg (by decide), if_pos (by decide), rM27 L, sb, if_neg (by decide), rM26 L, sb, rM20 L, sb, aM20 L (by omega), sb, m2, aM26 L h2, sb, hk _ h2, uM27 L (by omega), sb, dn_p (by omega), nI_1, nI_1]
      rfl
  · refine ⟨va_up (xA X (mA o 27)) (dn E.2 j - 2) (jn (E.2 j).1 (xA X (mA o 27) (dn E.2 j - 2)) (xA X (mA o 27) (dn E.2 j - 1))), ?_, fun rec => ?_⟩
    · rw [dn_m h1, ev_3 h1, hp _ (show dn E.2 j - 2 < dn E.2 j by omega), hp _ (show dn E.2 j - 1 < dn E.2 j by omega)]
      intro i hi
      exact va_ag hp i (by omega)
    · have hu : ∀ x, fX10_worth_j185 rec o (nI (b + j)) (nI (dn E.2 j - 1)) x (nI (dn E.2 j - 2)) (mA o 27) X = rec (nI (b + j + 1)) (nI (dn E.2 j - 1)) (wF X (mA o 27) (va_up (xA X (mA o 27)) (dn E.2 j - 2) x)) := by
        intro x
        unfold fX10_worth_j185 fX10_worth_j186
        rw [uM27 L (by omega), sb, nI_1]
      have n0 : ¬ nI (E.2 j).1 = 0 := nI_ne0 (by omega) (by omega)
      have n1 : ¬ nI (E.2 j).1 = 1 := fun q => by have := (nI_eq (b := 1) (by omega) (by decide)).mp q; omega
      have n2 : ¬ nI (E.2 j).1 = 2 := fun q => by have := (nI_eq (b := 2) (by omega) (by decide)).mp q; omega
      have n3 : (nI (E.2 j).1 = 3) = ((E.2 j).1 = 3) := propext (nI_eq (b := 3) (by omega) (by decide))
      have n4 : (nI (E.2 j).1 = 4) = ((E.2 j).1 = 4) := propext (nI_eq (b := 4) (by omega) (by decide))
      have n5 : (nI (E.2 j).1 = 5) = ((E.2 j).1 = 5) := propext (nI_eq (b := 5) (by omega) (by decide))
      have n6 : (nI (E.2 j).1 = 6) = ((E.2 j).1 = 6) := propext (nI_eq (b := 6) (by omega) (by decide))
      unfold fX10_worth_l4_b fX10_worth_j184
      rw [rM19 L, sb, aM19 L (by omega), sb, m1, if_neg n0, sb, aM19 L (by omega), sb, m1, if_neg n1, if_neg n2, rM27 L, sb, nI_m1 (by omega), aM27 L (by omega), sb, sb, nI_p1 (by omega), show dn E.2 j - 1 - 1 = dn E.2 j - 2 by omega, aM27 L (by omega), sb, sb]
      simp only [hu, n3, n4, n5, n6]
      rw [dn_m h1]
      unfold jn
      generalize xA X (mA o 27) (dn E.2 j - 2) = x
      generalize xA X (mA o 27) (dn E.2 j - 1) = y
      by_cases q3 : (E.2 j).1 = 3
      · simp only [if_pos q3]; rfl
      simp only [if_neg q3]
      by_cases q4 : (E.2 j).1 = 4
      · simp only [if_pos q4]; rfl
      simp only [if_neg q4]
      by_cases q5 : (E.2 j).1 = 5
      · simp only [if_pos q5]
        by_cases q : x < y
        · rw [if_neg (fun z => lt_le1.mp z q), b01_y q]; rfl
        · rw [if_pos (lt_le1.mpr q), b01_n q]; rfl
      simp only [if_neg q5]
      by_cases q6 : (E.2 j).1 = 6
      · simp only [if_pos q6]
        by_cases q : x = y
        · rw [if_pos q, b01_y q]; rfl
        · rw [if_neg q, b01_n q]; rfl
      simp only [if_neg q6]
      by_cases qx : x = 0
      · rw [if_pos qx, b01_n (fun z => z.1 qx)]; rfl
      · by_cases qy : y = 0
        · rw [if_neg qx, if_pos qy, b01_n (fun z => z.2 qy)]; rfl
        · rw [if_neg qx, if_neg qy, b01_y ⟨qx, qy⟩]; rfl
theorem m_worth (L : LM X o) {b : Nat} {E : Ex} {kn : Nat → Int32} (hE : okE E) (M : MEx X o b E) (hb : b + E.1 < 5300) (hk : ∀ w, w < 13 → xA X (mA o 26) w = kn w) : ∃ X1, fX10_worth o (nI b) X = some (wth kn E, X1) ∧ mfm o [27] X X1 := by
  have hl : ∃ X1, fX10_worth_l4 o FU (nI b) 0 X = some X1 ∧ mfm o [27] X X1 ∧ ∀ i, i < 1 → xA X1 (mA o 27) i = ev kn E.2 E.1 i := by
    refine iterP3 (b := fun rec => fX10_worth_l4_b rec o) (z := fun _ _ _ => none) (fun m a c Z => ∃ j, j ≤ E.1 ∧ m = E.1 - j ∧ a = nI (b + j) ∧ c = nI (dn E.2 j) ∧ mfm o [27] X Z ∧ ∀ i, i < dn E.2 j → xA Z (mA o 27) i = ev kn E.2 j i) (fun X1 => mfm o [27] X X1 ∧ ∀ i, i < 1 → xA X1 (mA o 27) i = ev kn E.2 E.1 i) ?_ FU E.1 _ _ _ (FUlt (by have := hE.2.1; omega)) ⟨0, Nat.zero_le _, rfl, rfl, rfl, mfm.rf, fun i hi => absurd hi (Nat.not_lt_zero _)⟩
    rintro m a c Z ⟨j, hj, rfl, rfl, rfl, F, hp⟩
    have L1 := L.mf F
    have M1 : MEx Z o b E := by
      unfold MEx
      rw [F.A (k := 19) (by decide) (by decide) (by decide), F.A (k := 20) (by decide) (by decide) (by decide)]
      exact M
    by_cases hjj : j = E.1
    · left
      subst hjj
      refine ⟨Z, fun rec => ?_, F, by rw [hE.2.2.1] at hp; exact hp⟩
      unfold fX10_worth_l4_b
      rw [rM19 L1, sb, aM19 L1 (by omega), sb, M1.2, if_pos rfl]
    · right
      obtain ⟨f, h1, h2⟩ := m_w1 L1 hE M1 hb (fun w hw => by rw [F.A (k := 26) (by decide) (by decide) (by decide)]; exact hk w hw) (by omega) hp
      exact ⟨E.1 - (j + 1), _, _, _, by omega, ⟨j + 1, by omega, rfl, rfl, rfl, F.tr (mfm.wF (by decide) (by decide) (by decide)), fun i hi => by rw [xA_wFe]; exact h1 i hi⟩, h2⟩
  obtain ⟨X1, h1, h2, h3⟩ := hl
  refine ⟨X1, ?_, h2⟩
  have L1 := L.mf h2
  unfold fX10_worth
  rw [h1, sb, rM27 L1, sb, show aI X1 (mA o 27) 1 0 = _ from aM27 L1 (i := 0) (by decide), sb, h3 0 (by decide)]
  rfl
end MEv
/-! the class works it out -/
def tk (c : Nat) : Nat := if c = 3 then 21 else if c = 4 then 22 else if c = 5 then 19 else if c = 6 then 20 else 16
def cen (p : Nat × Nat) : Int32 := if p.1 = 1 then nI p.2 else if p.1 = 2 then (-1) - nI p.2 else (-1) - nI (tk p.1)
theorem neg_t : ∀ t, t < 31 → ((-1 : Int32) - nI t < 0) := by decide
theorem m1m1 (x : Int32) : (-1 : Int32) - ((-1) - x) = x := by
  rw [Int32.sub_eq_add_neg, Int32.neg_sub, Int32.sub_eq_add_neg, Int32.add_comm x, ← Int32.add_assoc]
  rw [show (-1 : Int32) + -(-1) = 0 by decide, Int32.zero_add]
def LCa (X : XW) (c : Nat) : Prop := xKd X c = 1 ∧ xR X c 0 = some (c + 1) ∧ ar X (c + 1) 21 16
theorem LCa.mv {S : Nat → Prop} {X X1 : XW} {c : Nat} (h : xfm S X X1) (l : LCa X c) : LCa X1 c := ⟨(h.kd _).trans l.1, (h.rr _ _).trans l.2.1, l.2.2.mv h⟩
def CEx (X : XW) (R b : Nat) (E : Ex) : Prop := b + E.1 ≤ xLn X (R + 6) ∧ ∀ j, j < E.1 → xA X (R + 6) (b + j) = cen (E.2 j)
section CEv
variable {X : XW} {s c R : Nat}
theorem f_push (C : LCa X c) {n : Nat} {x : Int32} (hn : xI X c 1 = nI n) (h : n < 16) : fX0_push c x X = some (wI (wF X (c + 1) (va_up (xA X (c + 1)) n x)) c 1 (nI (n + 1))) := by
  have C1 : LCa (wF X (c + 1) (va_up (xA X (c + 1)) n x)) c := C.mv (tr1 rfl)
  have hE : aE X (c + 1) 1 = some (nI 16) := by
    unfold aE
    rw [if_pos C.2.2.1, C.2.2.2]
    rfl
  unfold fX0_push
  rw [gI_of C.1, sb, gR_of C.1 C.2.1, sb, hE, sb, hn, if_neg (nI_ge h (by decide)), sb, sb, uI_of C.2.2.1 C.2.2.2 h (by decide), sb, gI_of C1.1, sb, xI_wF, hn, pI_of C1.1, sb, nI_1]
theorem f_pop (C : LCa X c) {n : Nat} (hn : xI X c 1 = nI n) (h0 : 0 < n) (h : n ≤ 16) : fX0_pop c X = some (xA X (c + 1) (n - 1), wI X c 1 (nI (n - 1))) := by
  have C1 : LCa (wI X c 1 (nI (n - 1))) c := C.mv (tr1 rfl)
  have e : xI (wI X c 1 (nI (n - 1))) c 1 = nI (n - 1) := by rw [xI_wI, if_pos ⟨rfl, rfl⟩]
  unfold fX0_pop
  rw [gI_of C.1, sb, hn, if_pos (show (0 : Int32) < nI n from nI_lt (a := 0) h0 (by omega)), sb, nI_p1 h0, pI_of C.1, sb, gR_of C1.1 C1.2.1, sb, gI_of C1.1, sb, e, aI_of C1.2.2.1 C1.2.2.2 (show n - 1 < 16 by omega) (by decide), sb]
  rfl
theorem f_join {p : Nat} (h1 : 3 ≤ p) (h2 : p ≤ 7) (x y : Int32) (Y : XW) : fX0_join (nI (tk p)) x y Y = some (jn p x y, Y) := by
  unfold fX0_join
  have hp : p = 3 ∨ p = 4 ∨ p = 5 ∨ p = 6 ∨ p = 7 := by omega
  rcases hp with rfl | rfl | rfl | rfl | rfl
  · rw [if_neg (by decide), if_neg (by decide), if_pos (by decide)]
    rfl
  · rw [if_neg (by decide), if_neg (by decide), if_neg (by decide), if_pos (by decide)]
    rfl
  · rw [if_pos (by decide), show jn 5 x y = b01 (x < y) from rfl]
    by_cases q : x < y
    · rw [if_neg (fun z => lt_le1.mp z q), b01_y q]
    · rw [if_pos (lt_le1.mpr q), b01_n q]
  · rw [if_neg (by decide), if_pos (by decide), show jn 6 x y = b01 (x = y) from rfl]
    by_cases q : x = y
    · rw [if_pos q, b01_y q]
    · rw [if_neg q, b01_n q]
  · rw [if_neg (by decide), if_neg (by decide), if_neg (by decide), if_neg (by decide), show jn 7 x y = b01 (¬ x = 0 ∧ ¬ y = 0) from rfl]
    by_cases qx : x = 0
    · rw [if_pos qx, b01_n (fun z => z.1 qx)]
    · by_cases qy : y = 0
      · rw [if_neg qx, if_pos qy, b01_n (fun z => z.2 qy)]
      · rw [if_neg qx, if_neg qy, b01_y ⟨qx, qy⟩]
def SK (c : Nat) (a : Nat) : Prop := a = c ∨ a = c + 1
theorem f_w1 (C : LCa X c) (S : LSh X s) (U : LRu X R) (hc : c + 1 < s) (hR : R + 6 < c ∨ c + 1 < R) {b j i : Nat} {E : Ex} {kn : Nat → Int32} (hE : okE E) (M : CEx X R b E) (hi : i < 80) (hk : ∀ w, w < 13 → xA X (s + 10 + w) i = kn w) (hj : j < E.1) (hd : xI X c 1 = nI (dn E.2 j)) (hp : ∀ i, i < dn E.2 j → xA X (c + 1) i = ev kn E.2 j i) :
    ∃ X1, xfm (SK c) X X1 ∧ xI X1 c 1 = nI (dn E.2 (j + 1)) ∧ (∀ i, i < dn E.2 (j + 1) → xA X1 (c + 1) i = ev kn E.2 (j + 1) i) ∧ ∀ rec, fX0_workOut_l8_b rec c (R + 6) (nI (b + E.1)) (s + 9) (nI i) (nI (b + j)) X = rec (nI (b + (j + 1))) X1 := by
  have m1 := M.2 j hj
  have m0 := M.1
  have d16 := dn_16 hE (j := j) (by omega)
  have l1000 := U.2.2.2.2.2.2.2.2
  have hnd : ¬ nI (b + E.1) ≤ nI (b + j) := nI_ge (by omega) (by omega)
  have hcd : aI X (R + 6) 1 (nI (b + j)) = some (cen (E.2 j)) := by rw [uAc U (show b + j < xLn X (R + 6) by omega), m1]
  have FP : ∀ x (Y : XW), xfm (SK c) Y (wI (wF Y (c + 1) (va_up (xA Y (c + 1)) (dn E.2 j) x)) c 1 (nI (dn E.2 j + 1))) := fun x Y => (xfm.wF (Or.inr rfl)).tr (xfm.wI (Or.inl rfl))
  rcases hE.2.2.2 j hj with ⟨h1, h2, h3⟩ | ⟨h1, h2, h3⟩ | ⟨h1, h2, h3, -⟩
  · have ec : cen (E.2 j) = nI (E.2 j).2 := if_pos h1
    rw [ec] at hcd
    refine ⟨_, FP (nI (E.2 j).2) X, by rw [xI_wI, if_pos ⟨rfl, rfl⟩, dn_p (by omega)], ?_, fun rec => ?_⟩
    · rw [xA_wI, xA_wFe, dn_p (by omega), ev_1 h1]
      intro i hi
      exact va_ag hp i (by omega)
    · unfold fX0_workOut_l8_b fX0_workOut_j91
      rw [if_neg hnd, hcd, sb, if_neg (nI_pos (by omega)), sb, gK_of' C.1, sb, f_push C hd h3, sb, nI_1]
      rfl
  · have ec : cen (E.2 j) = (-1) - nI (E.2 j).2 := (if_neg (by omega)).trans (if_pos h1)
    rw [ec] at hcd
    refine ⟨_, FP (kn (E.2 j).2) X, by rw [xI_wI, if_pos ⟨rfl, rfl⟩, dn_p (by omega)], ?_, fun rec => ?_⟩
    · rw [xA_wI, xA_wFe, dn_p (by omega), ev_2 h1]
      intro i hi
      exact va_ag hp i (by omega)
    · unfold fX0_workOut_l8_b fX0_workOut_j91
      rw [if_neg hnd, hcd, sb, if_pos (neg_t _ (by omega)), sb, m1m1, if_neg (show ¬ (12 : Int32) < nI (E.2 j).2 from nI_nlt (a := 12) (by omega) (by decide)), sb, m1m1, rwQ S (by omega), sb, rwA S (by omega) hi, sb, hk _ h2, gK_of' C.1, sb, f_push C hd h3, sb, nI_1]
      rfl
  · have ec : cen (E.2 j) = (-1) - nI (tk (E.2 j).1) := (if_neg (by omega)).trans (if_neg (by omega))
    have htk : 12 < tk (E.2 j).1 ∧ tk (E.2 j).1 < 31 := by
      unfold tk
      split
      · omega
      · split
        · omega
        · split
          · omega
          · split <;> omega
    rw [ec] at hcd
    generalize hY1 : wI X c 1 (nI (dn E.2 j - 1)) = Y1
    generalize hY2 : wI Y1 c 1 (nI (dn E.2 j - 1 - 1)) = Y2
    have F1 : xfm (SK c) X Y1 := by rw [← hY1]; exact xfm.wI (Or.inl rfl)
    have F2 : xfm (SK c) X Y2 := by rw [← hY2]; exact F1.tr (xfm.wI (Or.inl rfl))
    have C1 := C.mv F1
    have C2 := C.mv F2
    have i1 : xI Y1 c 1 = nI (dn E.2 j - 1) := by rw [← hY1, xI_wI, if_pos ⟨rfl, rfl⟩]
    have i2 : xI Y2 c 1 = nI (dn E.2 j - 1 - 1) := by rw [← hY2, xI_wI, if_pos ⟨rfl, rfl⟩]
    have A1 : xA Y1 = xA X := by rw [← hY1]; rfl
    have A2 : xA Y2 = xA X := by rw [← hY2, xA_wI]; exact A1
    have p1 := f_pop C hd (by omega) (by omega)
    rw [hY1] at p1
    have p2 := f_pop C1 i1 (by omega) (by omega)
    rw [hY2, A1] at p2
    have e2 : dn E.2 j - 1 - 1 = dn E.2 j - 2 := by omega
    rw [e2] at i2 p2
    have hcd2 : aI Y2 (R + 6) 1 (nI (b + j)) = some ((-1) - nI (tk (E.2 j).1)) := by
      rw [uAc (U.mv F2) (show b + j < xLn Y2 (R + 6) by rw [F2.ln]; omega), A2, m1, ec]
    have hpu := f_push C2 (x := jn (E.2 j).1 (xA X (c + 1) (dn E.2 j - 2)) (xA X (c + 1) (dn E.2 j - 1))) i2 (by omega)
    rw [A2, show dn E.2 j - 2 + 1 = dn E.2 j - 1 by omega] at hpu
    refine ⟨wI (wF Y2 (c + 1) (va_up (xA X (c + 1)) (dn E.2 j - 2) (jn (E.2 j).1 (xA X (c + 1) (dn E.2 j - 2)) (xA X (c + 1) (dn E.2 j - 1))))) c 1 (nI (dn E.2 j - 1)), F2.tr ((xfm.wF (Or.inr rfl)).tr (xfm.wI (Or.inl rfl))), ?_, ?_, fun rec => ?_⟩
    · rw [xI_wI, if_pos ⟨rfl, rfl⟩, dn_m h1]
    · rw [xA_wI, xA_wFe, dn_m h1, ev_3 h1, hp _ (show dn E.2 j - 2 < dn E.2 j by omega), hp _ (show dn E.2 j - 1 < dn E.2 j by omega)]
      intro i hi
      exact va_ag hp i (by omega)
    · unfold fX0_workOut_l8_b fX0_workOut_j91
      rw [if_neg hnd, hcd, sb, if_pos (neg_t _ htk.2), sb, m1m1, if_pos (show (12 : Int32) < nI (tk (E.2 j).1) from nI_lt (a := 12) htk.1 (by omega)), gK_of' C.1, sb, p1, sb]
      dsimp only
      rw [gK_of' C1.1, sb, p2, sb]
      dsimp only
      rw [hcd2, sb, m1m1, f_join h1 h2, sb]
      dsimp only
      rw [gK_of' C2.1, sb, hpu, sb, nI_1]
      rfl
theorem f_workOut (C : LCa X c) (S : LSh X s) (U : LRu X R) (hc : c + 1 < s) (hR : R + 6 < c ∨ c + 1 < R) {b i : Nat} {E : Ex} {kn : Nat → Int32} (hE : okE E) (M : CEx X R b E) (hi : i < 80) (hk : ∀ w, w < 13 → xA X (s + 10 + w) i = kn w) :
    ∃ X1, fX0_workOut c (R + 6) (nI b) (nI (b + E.1)) (s + 9) (nI i) X = some (wth kn E, X1) ∧ xfm (SK c) X X1 := by
  have l1000 := U.2.2.2.2.2.2.2.2
  have m0 := M.1
  have hl : ∃ X1, fX0_workOut_l8 c (R + 6) (nI (b + E.1)) (s + 9) (nI i) FU (nI b) (wI X c 1 0) = some X1 ∧ xfm (SK c) X X1 ∧ xI X1 c 1 = nI 1 ∧ ∀ i, i < 1 → xA X1 (c + 1) i = ev kn E.2 E.1 i := by
    refine iterP2 (b := fun rec => fX0_workOut_l8_b rec c (R + 6) (nI (b + E.1)) (s + 9) (nI i)) (z := fun _ _ => none) (fun m a Z => ∃ j, j ≤ E.1 ∧ m = E.1 - j ∧ a = nI (b + j) ∧ xfm (SK c) X Z ∧ xI Z c 1 = nI (dn E.2 j) ∧ ∀ i, i < dn E.2 j → xA Z (c + 1) i = ev kn E.2 j i) (fun X1 => xfm (SK c) X X1 ∧ xI X1 c 1 = nI 1 ∧ ∀ i, i < 1 → xA X1 (c + 1) i = ev kn E.2 E.1 i) ?_ FU E.1 _ _ (FUlt (by have := hE.2.1; omega)) ⟨0, Nat.zero_le _, rfl, rfl, xfm.wI (Or.inl rfl), by rw [xI_wI, if_pos ⟨rfl, rfl⟩]; rfl, fun i hi => absurd hi (Nat.not_lt_zero _)⟩
    rintro m a Z ⟨j, hj, rfl, rfl, F, hd, hp⟩
    by_cases hjj : j = E.1
    · left
      subst hjj
      rw [hE.2.2.1] at hp hd
      refine ⟨Z, fun rec => ?_, F, hd, hp⟩
      unfold fX0_workOut_l8_b
      rw [if_pos (nI_le (Nat.le_refl _) (by omega))]
    · right
      have M1 : CEx Z R b E := by
        unfold CEx
        rw [F.ln, (F.2 (R + 6) (by unfold SK; omega)).2.1]
        exact M
      obtain ⟨X1, h1, h2, h3, h4⟩ := f_w1 (C.mv F) (S.mv F) (U.mv F) hc hR hE M1 hi (fun w hw => by rw [(F.2 (s + 10 + w) (by unfold SK; omega)).2.1]; exact hk w hw) (by omega) hd hp
      exact ⟨E.1 - (j + 1), _, X1, by omega, ⟨j + 1, by omega, rfl, rfl, F.tr h1, h2, h3⟩, h4⟩
  obtain ⟨X1, h1, h2, h3, h4⟩ := hl
  have C1 := C.mv h2
  refine ⟨wI X1 c 1 (nI (1 - 1)), ?_, h2.tr (xfm.wI (Or.inl rfl))⟩
  have hp := f_pop C1 h3 (by decide) (by decide)
  unfold fX0_workOut
  rw [pI_of C.1, sb, h1, sb, gK_of' C1.1, sb, hp, sb]
  dsimp only
  rw [h4 0 (by decide)]
  rfl
end CEv
