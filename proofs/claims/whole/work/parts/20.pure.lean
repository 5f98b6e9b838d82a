def cMt : List Nat := [100, 1, 102, 103, 2, 3, 4, 107, 108, 5, 110, 6, 7, 8, 9, 10, 11, 12, 13, 14, 15, 121, 122, 16, 17, 18, 19, 20, 128, 129, 21, 22, 23, 24, 25, 26, 27, 28, 138, 139, 140, 29, 142, 30, 31, 32, 33, 147, 34, 35, 36, 37, 38, 39, 40, 155, 41]
def tMt : List Nat := [0, 21, 0, 0, 21, 21, 22, 0, 0, 22, 0, 21, 21, 21, 21, 23, 21, 21, 21, 21, 21, 0, 0, 21, 21, 21, 21, 21, 0, 0, 21, 21, 21, 21, 23, 23, 21, 21, 0, 0, 0, 21, 0, 21, 21, 21, 23, 0, 21, 21, 21, 23, 21, 21, 21, 0, 21]
def lMt : List Nat := [0, 1000, 0, 0, 1002, 1002, 1002, 0, 0, 17, 0, 4, 4, 4, 5, 120, 120, 120, 120, 5300, 5300, 0, 0, 7, 7, 7, 13, 1060, 0, 0, 4, 64, 64, 64, 64, 64, 4, 960, 0, 0, 0, 17, 0, 16, 16, 16, 16, 0, 80, 80, 80, 80, 240, 16, 16, 0, 320]
/-! THE PURE PART: tools -/
theorem sb {α β : Type} (x : α) (f : α → Option β) : (some x >>= f) = f x := rfl
theorem wA_eq (X : XW) (a i : Nat) (v : Int32) : wA X a i v = wF X a (va_up (xA X a) i v) := by
  unfold wA wF
  refine congrArg (fun z => (X.1, X.2.1, X.2.2.1, X.2.2.2.1, z, X.2.2.2.2.2)) ?_
  funext b j
  by_cases hb : b = a
  · subst hb; simp [x2, va_up, xA]
  · simp [x2, hb]
theorem xA_wF' (X : XW) (b a : Nat) (f : Nat → Int32) : xA (wF X b f) a = if a = b then f else xA X a := by
  funext j
  show (if a = b then f j else X.2.2.2.2.1 a j) = _
  by_cases h : a = b <;> simp [h, xA]
theorem xI_wF (X : XW) (b : Nat) (f : Nat → Int32) : xI (wF X b f) = xI X := rfl
theorem xL_wF (X : XW) (b : Nat) (f : Nat → Int32) : xL (wF X b f) = xL X := rfl
theorem xR_wF (X : XW) (b : Nat) (f : Nat → Int32) : xR (wF X b f) = xR X := rfl
theorem xQ_wF (X : XW) (b : Nat) (f : Nat → Int32) : xQ (wF X b f) = xQ X := rfl
theorem xKd_wF (X : XW) (b : Nat) (f : Nat → Int32) : xKd (wF X b f) = xKd X := rfl
theorem xLn_wF (X : XW) (b : Nat) (f : Nat → Int32) : xLn (wF X b f) = xLn X := rfl
theorem xA_wI (X : XW) (b k : Nat) (v : Int32) : xA (wI X b k v) = xA X := rfl
theorem xL_wI (X : XW) (b k : Nat) (v : Int32) : xL (wI X b k v) = xL X := rfl
theorem xR_wI (X : XW) (b k : Nat) (v : Int32) : xR (wI X b k v) = xR X := rfl
theorem xQ_wI (X : XW) (b k : Nat) (v : Int32) : xQ (wI X b k v) = xQ X := rfl
theorem xKd_wI (X : XW) (b k : Nat) (v : Int32) : xKd (wI X b k v) = xKd X := rfl
theorem xLn_wI (X : XW) (b k : Nat) (v : Int32) : xLn (wI X b k v) = xLn X := rfl
theorem xI_wI (X : XW) (b k : Nat) (v : Int32) (a j : Nat) : xI (wI X b k v) a j = if a = b ∧ j = k then v else xI X a j := rfl
theorem wF_wF (X : XW) (a : Nat) (f g : Nat → Int32) : wF (wF X a f) a g = wF X a g := by
  unfold wF
  refine congrArg (fun z => (X.1, X.2.1, X.2.2.1, X.2.2.2.1, z, X.2.2.2.2.2)) ?_
  funext b j
  by_cases hb : b = a <;> simp [hb]
theorem wF_self (X : XW) (a : Nat) : wF X a (xA X a) = X := by
  unfold wF
  refine Prod.ext rfl (Prod.ext rfl (Prod.ext rfl (Prod.ext rfl (Prod.ext ?_ rfl))))
  funext b j
  by_cases hb : b = a <;> simp [hb, xA]
/-- what no method but 'new' changes -/
def xst4 (X : XW) : Nat × (Nat → Nat × Nat) × (Nat → Nat → Option Nat) × (Nat → Nat → Option Nat) := (X.1, X.2.1, X.2.2.2.1, X.2.2.2.2.2.2)
/-- X1 is X but for ints in the cells of S -/
def xfm (S : Nat → Prop) (X X1 : XW) : Prop := xst4 X1 = xst4 X ∧ ∀ a, ¬ S a → xI X1 a = xI X a ∧ xA X1 a = xA X a ∧ xL X1 a = xL X a
theorem xfm.rf (S : Nat → Prop) (X : XW) : xfm S X X := ⟨rfl, fun _ _ => ⟨rfl, rfl, rfl⟩⟩
theorem xfm.tr {S : Nat → Prop} {X X1 X2 : XW} (h : xfm S X X1) (h2 : xfm S X1 X2) : xfm S X X2 := ⟨h2.1.trans h.1, fun a ha => ⟨(h2.2 a ha).1.trans (h.2 a ha).1, (h2.2 a ha).2.1.trans (h.2 a ha).2.1, (h2.2 a ha).2.2.trans (h.2 a ha).2.2⟩⟩
theorem xfm.wk {S S1 : Nat → Prop} {X X1 : XW} (h : xfm S X X1) (hS : ∀ a, S a → S1 a) : xfm S1 X X1 := ⟨h.1, fun a ha => h.2 a (fun q => ha (hS a q))⟩
theorem xfm.wF {S : Nat → Prop} {X : XW} {a : Nat} {f : Nat → Int32} (ha : S a) : xfm S X (wF X a f) := ⟨rfl, fun b hb => ⟨rfl, by rw [xA_wF', if_neg (fun e => hb (by rw [e]; exact ha))], rfl⟩⟩
theorem xfm.wI {S : Nat → Prop} {X : XW} {a k : Nat} {v : Int32} (ha : S a) : xfm S X (wI X a k v) := ⟨rfl, fun b hb => ⟨by funext j; rw [xI_wI, if_neg (fun e => hb (by rw [e.1]; exact ha))], rfl, rfl⟩⟩
theorem xfm.kd {S : Nat → Prop} {X X1 : XW} (h : xfm S X X1) (a : Nat) : xKd X1 a = xKd X a := by
  have e : X1.2.1 = X.2.1 := congrArg (fun z => z.2.1) h.1
  unfold xKd; rw [e]
theorem xfm.ln {S : Nat → Prop} {X X1 : XW} (h : xfm S X X1) (a : Nat) : xLn X1 a = xLn X a := by
  have e : X1.2.1 = X.2.1 := congrArg (fun z => z.2.1) h.1
  unfold xLn; rw [e]
theorem xfm.rr {S : Nat → Prop} {X X1 : XW} (h : xfm S X X1) (a k : Nat) : xR X1 a k = xR X a k := by
  have e : X1.2.2.2.1 = X.2.2.2.1 := congrArg (fun z => z.2.2.1) h.1
  unfold xR; rw [e]
theorem xfm.qq {S : Nat → Prop} {X X1 : XW} (h : xfm S X X1) (a k : Nat) : xQ X1 a k = xQ X a k := by
  have e : X1.2.2.2.2.2.2 = X.2.2.2.2.2.2 := congrArg (fun z => z.2.2.2) h.1
  unfold xQ; rw [e]
/-! loops: the state behind k turns is told -/
theorem iter1 {R : Type} {b : (XW → Option R) → XW → Option R} {z : XW → Option R} (sX : Nat → XW) (N : Nat) (res : R)
    (hs : ∀ k, k < N → ∀ rec, b rec (sX k) = rec (sX (k + 1))) (he : ∀ rec, b rec (sX N) = some res) {n : Nat} (hn : N < n) : iter b z n (sX 0) = some res := by
  have h : ∀ (d k n : Nat), k + d = N → d < n → iter b z n (sX k) = some res := by
    intro d
    induction d with
    | zero =>
      intro k n hk hn
      obtain ⟨n, rfl⟩ : ∃ m, n = m + 1 := ⟨n - 1, by omega⟩
      obtain rfl : k = N := by omega
      exact he _
    | succ d ih =>
      intro k n hk hn
      obtain ⟨n, rfl⟩ : ∃ m, n = m + 1 := ⟨n - 1, by omega⟩
      exact (hs k (by omega) _).trans (ih (k + 1) n (by omega) (by omega))
  exact h N 0 n (by omega) hn
theorem iter2 {A R : Type} {b : (A → XW → Option R) → A → XW → Option R} {z : A → XW → Option R} (s1 : Nat → A) (sX : Nat → XW) (N : Nat) (res : R)
    (hs : ∀ k, k < N → ∀ rec, b rec (s1 k) (sX k) = rec (s1 (k + 1)) (sX (k + 1))) (he : ∀ rec, b rec (s1 N) (sX N) = some res) {n : Nat} (hn : N < n) : iter b z n (s1 0) (sX 0) = some res := by
  have h : ∀ (d k n : Nat), k + d = N → d < n → iter b z n (s1 k) (sX k) = some res := by
    intro d
    induction d with
    | zero =>
      intro k n hk hn
      obtain ⟨n, rfl⟩ : ∃ m, n = m + 1 := ⟨n - 1, by omega⟩
      obtain rfl : k = N := by omega
      exact he _
    | succ d ih =>
      intro k n hk hn
      obtain ⟨n, rfl⟩ : ∃ m, n = m + 1 := ⟨n - 1, by omega⟩
      exact (hs k (by omega) _).trans (ih (k + 1) n (by omega) (by omega))
  exact h N 0 n (by omega) hn
theorem iter3 {A B R : Type} {b : (A → B → XW → Option R) → A → B → XW → Option R} {z : A → B → XW → Option R} (s1 : Nat → A) (s2 : Nat → B) (sX : Nat → XW) (N : Nat) (res : R)
    (hs : ∀ k, k < N → ∀ rec, b rec (s1 k) (s2 k) (sX k) = rec (s1 (k + 1)) (s2 (k + 1)) (sX (k + 1))) (he : ∀ rec, b rec (s1 N) (s2 N) (sX N) = some res) {n : Nat} (hn : N < n) : iter b z n (s1 0) (s2 0) (sX 0) = some res := by
  have h : ∀ (d k n : Nat), k + d = N → d < n → iter b z n (s1 k) (s2 k) (sX k) = some res := by
    intro d
    induction d with
    | zero =>
      intro k n hk hn
      obtain ⟨n, rfl⟩ : ∃ m, n = m + 1 := ⟨n - 1, by omega⟩
      obtain rfl : k = N := by omega
      exact he _
    | succ d ih =>
      intro k n hk hn
      obtain ⟨n, rfl⟩ : ∃ m, n = m + 1 := ⟨n - 1, by omega⟩
      exact (hs k (by omega) _).trans (ih (k + 1) n (by omega) (by omega))
  exact h N 0 n (by omega) hn
/-- a loop whose states hold an invariant: one turn keeps it, a measure falls, its end is told -/
theorem iterP1 {R : Type} {b : (XW → Option R) → XW → Option R} {z : XW → Option R} (I : Nat → XW → Prop) (P : R → Prop)
    (hs : ∀ k X, I k X → (∃ r, (∀ rec, b rec X = some r) ∧ P r) ∨ ∃ j X1, j < k ∧ I j X1 ∧ ∀ rec, b rec X = rec X1) : ∀ (n k : Nat) (X : XW), k < n → I k X → ∃ r, iter b z n X = some r ∧ P r := by
  intro n
  induction n with
  | zero => intro k X h; omega
  | succ n ih =>
    intro k X hk hI
    rcases hs k X hI with ⟨r, h1, h2⟩ | ⟨j, X1, hj, h1, h2⟩
    · exact ⟨r, h1 _, h2⟩
    · obtain ⟨r, h3, h4⟩ := ih j X1 (by omega) h1
      exact ⟨r, (h2 _).trans h3, h4⟩
theorem iterP2 {A R : Type} {b : (A → XW → Option R) → A → XW → Option R} {z : A → XW → Option R} (I : Nat → A → XW → Prop) (P : R → Prop)
    (hs : ∀ k a X, I k a X → (∃ r, (∀ rec, b rec a X = some r) ∧ P r) ∨ ∃ j a1 X1, j < k ∧ I j a1 X1 ∧ ∀ rec, b rec a X = rec a1 X1) : ∀ (n k : Nat) (a : A) (X : XW), k < n → I k a X → ∃ r, iter b z n a X = some r ∧ P r := by
  intro n
  induction n with
  | zero => intro k a X h; omega
  | succ n ih =>
    intro k a X hk hI
    rcases hs k a X hI with ⟨r, h1, h2⟩ | ⟨j, a1, X1, hj, h1, h2⟩
    · exact ⟨r, h1 _, h2⟩
    · obtain ⟨r, h3, h4⟩ := ih j a1 X1 (by omega) h1
      exact ⟨r, (h2 _).trans h3, h4⟩
theorem iterP3 {A B R : Type} {b : (A → B → XW → Option R) → A → B → XW → Option R} {z : A → B → XW → Option R} (I : Nat → A → B → XW → Prop) (P : R → Prop)
    (hs : ∀ k a c X, I k a c X → (∃ r, (∀ rec, b rec a c X = some r) ∧ P r) ∨ ∃ j a1 c1 X1, j < k ∧ I j a1 c1 X1 ∧ ∀ rec, b rec a c X = rec a1 c1 X1) : ∀ (n k : Nat) (a : A) (c : B) (X : XW), k < n → I k a c X → ∃ r, iter b z n a c X = some r ∧ P r := by
  intro n
  induction n with
  | zero => intro k a c X h; omega
  | succ n ih =>
    intro k a c X hk hI
    rcases hs k a c X hI with ⟨r, h1, h2⟩ | ⟨j, a1, c1, X1, hj, h1, h2⟩
    · exact ⟨r, h1 _, h2⟩
    · obtain ⟨r, h3, h4⟩ := ih j a1 c1 X1 (by omega) h1
      exact ⟨r, (h2 _).trans h3, h4⟩
/-! numbers -/
theorem fa_lit (n : Nat) : (OfNat.ofNat n : Int32) = nI n := rfl
theorem FUlt {n : Nat} (h : n < 5000) : n < FU := h
/-! THE REFERENCE'S CELLS -/
def mA (o k : Nat) : Nat := o + cMt.getD k 0
theorem cM_inj : ∀ j, j < 57 → ∀ k, k < 57 → cMt.getD j 0 = cMt.getD k 0 → j = k := by decide +kernel
theorem cM_pos : ∀ j, j < 57 → 0 < cMt.getD j 0 := by decide +kernel
theorem mA_inj {o j k : Nat} (hj : j < 57) (hk : k < 57) : mA o j = mA o k ↔ j = k := ⟨fun h => cM_inj j hj k hk (by unfold mA at h; omega), fun h => by rw [h]⟩
theorem mA_o {o k : Nat} (hk : k < 57) : mA o k = o ↔ False := ⟨fun h => by have := cM_pos k hk; unfold mA at h; omega, fun h => h.elim⟩
theorem o_mA {o k : Nat} (hk : k < 57) : o = mA o k ↔ False := ⟨fun h => by have := cM_pos k hk; unfold mA at h; omega, fun h => h.elim⟩
def LM (X : XW) (o : Nat) : Prop := xKd X o = 11 ∧ ∀ k, k < 57 → tMt.getD k 0 ≠ 0 → xR X o k = some (mA o k) ∧ xKd X (mA o k) = tMt.getD k 0 ∧ xLn X (mA o k) = lMt.getD k 0
theorem LM.mv {S : Nat → Prop} {X X1 : XW} {o : Nat} (h : xfm S X X1) (L : LM X o) : LM X1 o := ⟨(h.kd o).trans L.1, fun k hk h0 => ⟨(h.rr o k).trans (L.2 k hk h0).1, (h.kd _).trans (L.2 k hk h0).2.1, (h.ln _).trans (L.2 k hk h0).2.2⟩⟩
section LMs
variable {X : XW} {o : Nat}
theorem gK_M (L : LM X o) : gK X o 10 = some () := by unfold gK; rw [if_pos L.1]
theorem gI_M (L : LM X o) (k : Nat) : gI X o 10 k = some (xI X o k) := by unfold gI; rw [if_pos L.1]
theorem pI_M (L : LM X o) (k : Nat) (v : Int32) : pI X o 10 k v = some (wI X o k v) := by unfold pI; rw [if_pos L.1]
theorem gR_M (L : LM X o) {k : Nat} (hk : k < 57) (h0 : tMt.getD k 0 ≠ 0) : gR X o 10 k = some (mA o k) := by unfold gR; rw [if_pos L.1]; exact (L.2 k hk h0).1
theorem in_nI {i n : Nat} (h : i < n) (hn : n < 2 ^ 31) : ¬ (nI i < 0 ∨ n ≤ (nI i).toNatClampNeg) := nI_in h hn
theorem lM_lt : ∀ k, k < 57 → lMt.getD k 0 < 2 ^ 31 := by decide +kernel
theorem aI_M (L : LM X o) {k t i : Nat} (hk : k < 57) (ht : tMt.getD k 0 = 20 + t) (hi : i < lMt.getD k 0) : aI X (mA o k) t (nI i) = some (xA X (mA o k) i) := by
  obtain ⟨-, h1, h2⟩ := L.2 k hk (by omega)
  have h3 := lM_lt k hk
  unfold aI
  rw [if_pos ⟨by rw [h1, ht], by rw [h2]; exact in_nI hi h3⟩, nI_clamp (by omega)]
theorem uI_M (L : LM X o) {k i : Nat} (v : Int32) (hk : k < 57) (ht : tMt.getD k 0 = 21) (hi : i < lMt.getD k 0) : uI X (mA o k) (nI i) v = some (wF X (mA o k) (va_up (xA X (mA o k)) i v)) := by
  obtain ⟨-, h1, h2⟩ := L.2 k hk (by omega)
  have h3 := lM_lt k hk
  unfold uI
  rw [if_pos ⟨by rw [h1, ht], by rw [h2]; exact in_nI hi h3⟩, nI_clamp (by omega), wA_eq]
theorem uZ_M (L : LM X o) {k i : Nat} (v : Int32) (hk : k < 57) (ht : tMt.getD k 0 = 23) (hi : i < lMt.getD k 0) : uZ X (mA o k) (nI i) v = some (wF X (mA o k) (va_up (xA X (mA o k)) i (vp_nar .boolean v))) := by
  obtain ⟨-, h1, h2⟩ := L.2 k hk (by omega)
  have h3 := lM_lt k hk
  unfold uZ
  rw [if_pos ⟨by rw [h1, ht], by rw [h2]; exact in_nI hi h3⟩, nI_clamp (by omega), wA_eq]
theorem aL_M (L : LM X o) {k i : Nat} (hk : k < 57) (ht : tMt.getD k 0 = 22) (hi : i < lMt.getD k 0) : aL X (mA o k) (nI i) = some (xL X (mA o k) i) := by
  obtain ⟨-, h1, h2⟩ := L.2 k hk (by omega)
  have h3 := lM_lt k hk
  unfold aL
  rw [if_pos ⟨by rw [h1, ht], by rw [h2]; exact in_nI hi h3⟩, nI_clamp (by omega)]
end LMs
