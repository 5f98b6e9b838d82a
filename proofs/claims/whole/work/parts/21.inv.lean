/-! cells by what is known of them -/
section OFs
variable {X : XW} {a ci k t : Nat}
theorem gK_of' (h : xKd X a = ci + 1) : gK X a ci = some () := if_pos h
theorem gI_of (h : xKd X a = ci + 1) : gI X a ci k = some (xI X a k) := if_pos h
theorem gR_of {q : Nat} (h : xKd X a = ci + 1) (h2 : xR X a k = some q) : gR X a ci k = some q := (if_pos h).trans h2
theorem pI_of {v : Int32} (h : xKd X a = ci + 1) : pI X a ci k v = some (wI X a k v) := if_pos h
theorem pZ_of {v : Int32} (h : xKd X a = ci + 1) (hv : v = 0 ∨ v = 1) : pZ X a ci k v = some (wI X a k v) := if_pos ⟨h, hv⟩
theorem pR_of {q : Nat} (h : xKd X a = ci + 1) : pR X a ci k q = some (wR X a k (some q)) := if_pos h
theorem aI_of {n i : Nat} (h : xKd X a = 20 + t) (hl : xLn X a = n) (hi : i < n) (hn : n < 2 ^ 31) : aI X a t (nI i) = some (xA X a i) := by
  unfold aI
  rw [if_pos ⟨h, by rw [hl]; exact in_nI hi hn⟩, nI_clamp (by omega)]
theorem aQ_of {n i q : Nat} (h : xKd X a = 20 + t) (hl : xLn X a = n) (hi : i < n) (hn : n < 2 ^ 31) (hq : xQ X a i = some q) : aQ X a t (nI i) = some q := by
  unfold aQ
  rw [if_pos ⟨h, by rw [hl]; exact in_nI hi hn⟩, nI_clamp (by omega)]
  exact hq
theorem uI_of {n i : Nat} {v : Int32} (h : xKd X a = 21) (hl : xLn X a = n) (hi : i < n) (hn : n < 2 ^ 31) : uI X a (nI i) v = some (wF X a (va_up (xA X a) i v)) := by
  unfold uI
  rw [if_pos ⟨h, by rw [hl]; exact in_nI hi hn⟩, nI_clamp (by omega), wA_eq]
theorem uZ_of {n i : Nat} {v : Int32} (h : xKd X a = 23) (hl : xLn X a = n) (hi : i < n) (hn : n < 2 ^ 31) (hv : v = 0 ∨ v = 1) : uZ X a (nI i) v = some (wF X a (va_up (xA X a) i v)) := by
  unfold uZ
  have e : vp_nar .boolean v = v := by rcases hv with rfl | rfl <;> decide
  rw [if_pos ⟨h, by rw [hl]; exact in_nI hi hn⟩, nI_clamp (by omega), wA_eq, e]
theorem uB_of {n i : Nat} {v : Int32} (h : xKd X a = 20) (hl : xLn X a = n) (hi : i < n) (hn : n < 2 ^ 31) : uB X a (nI i) v = some (wF X a (va_up (xA X a) i (vp_nar .byte v))) := by
  unfold uB
  rw [if_pos ⟨h, by rw [hl]; exact in_nI hi hn⟩, nI_clamp (by omega), wA_eq]
end OFs
/-! THE CLASS'S CELLS, from the object's address v on: what 'new' made and nothing changes -/
/-- an int[n] (kind 21), boolean[n] (23) .. at a -/
def ar (X : XW) (a kd n : Nat) : Prop := xKd X a = kd ∧ xLn X a = n
def LSh (X : XW) (s : Nat) : Prop := xKd X s = 7 ∧ xR X s 0 = some (s + 1) ∧ xR X s 1 = some (s + 9) ∧ xKd X (s + 1) = 4 ∧ (∀ j, j < 7 → xR X (s + 1) j = some (s + 2 + j)) ∧ ar X (s + 2) 21 16 ∧ ar X (s + 3) 21 16 ∧ ar X (s + 4) 21 16 ∧ ar X (s + 5) 21 16 ∧ ar X (s + 6) 23 16 ∧ ar X (s + 7) 21 17 ∧ ar X (s + 8) 21 16 ∧ ar X (s + 9) 26 14 ∧ ∀ i, i < 14 → xQ X (s + 9) i = some (s + 10 + i) ∧ ar X (s + 10 + i) 21 80
def LRd (X : XW) (q : Nat) : Prop := xKd X q = 5 ∧ (∀ j, j < 6 → xR X q j = some (q + 1 + j)) ∧ ar X (q + 1) 21 16 ∧ ar X (q + 2) 21 16 ∧ ar X (q + 3) 21 16 ∧ ar X (q + 4) 23 16 ∧ ar X (q + 5) 23 16 ∧ ar X (q + 6) 26 3 ∧ ∀ i, i < 3 → xQ X (q + 6) i = some (q + 7 + i) ∧ ar X (q + 7 + i) 21 80
def LRu (X : XW) (R : Nat) : Prop := xKd X R = 6 ∧ (∀ j, j < 6 → xR X R j = some (R + 1 + j)) ∧ ar X (R + 1) 23 24 ∧ ar X (R + 2) 21 24 ∧ ar X (R + 3) 21 24 ∧ ar X (R + 4) 21 24 ∧ ar X (R + 5) 21 24 ∧ xKd X (R + 6) = 21 ∧ xLn X (R + 6) ≤ 1000
def cR (v r : Nat) : Nat := v + 55 + 10 * r
def cM (v m : Nat) : Nat := v + 95 + 8 * m
def LC (X : XW) (v : Nat) : Prop := xKd X v = 10 ∧ xR X v 0 = some (v + 1) ∧ xR X v 3 = some (v + 2) ∧ xR X v 8 = some (v + 3) ∧ xR X v 9 = some (v + 5) ∧ xR X v 10 = some (v + 7) ∧ xR X v 11 = some (v + 31) ∧ ar X (v + 1) 25 4 ∧ ar X (v + 2) 24 4 ∧ (∀ i, i < 4 → xQ X (v + 1) i = some (cR v i) ∧ LRd X (cR v i)) ∧ (∀ i, i < 4 → xQ X (v + 2) i = some (cM v i) ∧ xKd X (cM v i) = 3) ∧ xKd X (v + 3) = 8 ∧ xR X (v + 3) 0 = some (v + 4) ∧ ar X (v + 4) 20 1000 ∧ xKd X (v + 5) = 1 ∧ xR X (v + 5) 0 = some (v + 6) ∧ ar X (v + 6) 21 16 ∧ LSh X (v + 7) ∧ LSh X (v + 31)
section MVs
variable {S : Nat → Prop} {X X1 : XW}
theorem ar.mv {a kd n : Nat} (h : xfm S X X1) (l : ar X a kd n) : ar X1 a kd n := ⟨(h.kd a).trans l.1, (h.ln a).trans l.2⟩
theorem LSh.mv {s : Nat} (h : xfm S X X1) (l : LSh X s) : LSh X1 s := by
  obtain ⟨l1, l2, l3, l4, l5, l6, l7, l8, l9, l10, l11, l12, l13, l14⟩ := l
  exact ⟨(h.kd _).trans l1, (h.rr _ _).trans l2, (h.rr _ _).trans l3, (h.kd _).trans l4, fun j hj => (h.rr _ _).trans (l5 j hj), l6.mv h, l7.mv h, l8.mv h, l9.mv h, l10.mv h, l11.mv h, l12.mv h, l13.mv h, fun i hi => ⟨(h.qq _ _).trans (l14 i hi).1, (l14 i hi).2.mv h⟩⟩
theorem LRd.mv {q : Nat} (h : xfm S X X1) (l : LRd X q) : LRd X1 q := by
  obtain ⟨l1, l5, l6, l7, l8, l9, l10, l11, l14⟩ := l
  exact ⟨(h.kd _).trans l1, fun j hj => (h.rr _ _).trans (l5 j hj), l6.mv h, l7.mv h, l8.mv h, l9.mv h, l10.mv h, l11.mv h, fun i hi => ⟨(h.qq _ _).trans (l14 i hi).1, (l14 i hi).2.mv h⟩⟩
theorem LRu.mv {q : Nat} (h : xfm S X X1) (l : LRu X q) : LRu X1 q := by
  obtain ⟨l1, l5, l6, l7, l8, l9, l10, l11, l12⟩ := l
  exact ⟨(h.kd _).trans l1, fun j hj => (h.rr _ _).trans (l5 j hj), l6.mv h, l7.mv h, l8.mv h, l9.mv h, l10.mv h, (h.kd _).trans l11, by rw [h.ln]; exact l12⟩
theorem LC.mv {v : Nat} (h : xfm S X X1) (l : LC X v) : LC X1 v := by
  obtain ⟨l1, l2, l3, l4, l5, l6, l7, l8, l9, l10, l11, l12, l13, l14, l15, l16, l17, l18, l19⟩ := l
  exact ⟨(h.kd _).trans l1, (h.rr _ _).trans l2, (h.rr _ _).trans l3, (h.rr _ _).trans l4, (h.rr _ _).trans l5, (h.rr _ _).trans l6, (h.rr _ _).trans l7, l8.mv h, l9.mv h, fun i hi => ⟨(h.qq _ _).trans (l10 i hi).1, (l10 i hi).2.mv h⟩, fun i hi => ⟨(h.qq _ _).trans (l11 i hi).1, (h.kd _).trans (l11 i hi).2⟩, (h.kd _).trans l12, (h.rr _ _).trans l13, l14.mv h, (h.kd _).trans l15, (h.rr _ _).trans l16, l17.mv h, l18.mv h, l19.mv h⟩
end MVs
/-! small methods of the class -/
def bw (n a b : Int32) : Int32 := if n < a then 0 else if b < n then 0 else 1
theorem f_isWithin (n a b : Int32) (X : XW) : fX9_isWithin n a b X = some (bw n a b, X) := by
  unfold fX9_isWithin bw
  split
  · rfl
  · split <;> rfl
def wordOk (n s b : Int32) : Prop := ¬ n < 1 ∧ ¬ 5 < n ∧ ¬ s < 0 ∧ ¬ n ≤ s ∧ ¬ b < 0 ∧ ¬ 99 < b
theorem f_isWord_t {n s b : Int32} (X : XW) (h : wordOk n s b) : fX9_isWord n s b X = some (1, X) := by
  obtain ⟨h1, h2, h3, h4, h5, h6⟩ := h
  unfold fX9_isWord
  simp [f_isWithin, sb, bw, h1, h2, h3, h4, h5, h6]
theorem f_isWord_f {n s b : Int32} (X : XW) (h : ¬ wordOk n s b) : fX9_isWord n s b X = some (0, X) := by
  unfold fX9_isWord
  simp only [f_isWithin, sb, bw]
  by_cases h1 : n < 1
  · simp [h1]
  by_cases h2 : 5 < n
  · simp [h1, h2]
  by_cases h3 : s < 0
  · simp [h1, h2, h3]
  by_cases h4 : n ≤ s
  · simp [h1, h2, h3, h4]
  by_cases h5 : b < 0
  · simp [h1, h2, h3, h4, h5]
  by_cases h6 : 99 < b
  · simp [h1, h2, h3, h4, h5, h6]
  exact absurd ⟨h1, h2, h3, h4, h5, h6⟩ h
theorem m_isWordSo_t {n s b : Int32} (X : XW) (h : wordOk n s b) : fX10_isWordSo n s b X = some (1, X) := by
  obtain ⟨h1, h2, h3, h4, h5, h6⟩ := h
  unfold fX10_isWordSo
  simp [h1, h2, h3, h4, h5, h6]
theorem m_isWordSo_f {n s b : Int32} (X : XW) (h : ¬ wordOk n s b) : fX10_isWordSo n s b X = some (0, X) := by
  unfold fX10_isWordSo
  by_cases h1 : n < 1
  · simp [h1]
  by_cases h2 : 5 < n
  · simp [h1, h2]
  by_cases h3 : s < 0
  · simp [h1, h2, h3]
  by_cases h4 : n ≤ s
  · simp [h1, h2, h3, h4]
  by_cases h5 : b < 0
  · simp [h1, h2, h3, h4, h5]
  by_cases h6 : 99 < b
  · simp [h1, h2, h3, h4, h5, h6]
  exact absurd ⟨h1, h2, h3, h4, h5, h6⟩ h
/-- both caches empty -/
def wFs (X : XW) (v : Nat) : XW := wI (wI X (v + 7) 2 (-1)) (v + 31) 2 (-1)
theorem f_forget {X : XW} {v : Nat} (l : LC X v) : fX9_forgetShapes v X = some (wFs X v) := by
  obtain ⟨l1, l2, l3, l4, l5, l6, l7, l8, l9, l10, l11, l12, l13, l14, l15, l16, l17, l18, l19⟩ := l
  unfold fX9_forgetShapes
  rw [gR_of l1 l6, sb, pI_of l18.1, sb, gR_of (q := v + 31) (by rw [xKd_wI]; exact l1) (by rw [xR_wI]; exact l7), sb, pI_of (by rw [xKd_wI]; exact l19.1), sb]
  rfl
