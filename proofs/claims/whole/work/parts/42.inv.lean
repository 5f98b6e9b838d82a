/-! THE STATE OF BOTH: readings, how many, in hand, manners, the one in hand, ideal, speed, tape -/
abbrev Mn : Type := Nat × Nat × Nat × Nat × (Nat → Ln)
def qL (q : Mn) : Nat := q.1
def qH (q : Mn) : Nat := q.2.1
def qS (q : Mn) : Nat := q.2.2.1
def qN (q : Mn) : Nat := q.2.2.2.1
def qF (q : Mn) : Nat → Ln := q.2.2.2.2
abbrev St : Type := (Nat → Rd) × Nat × Nat × (Nat → Mn) × Nat × Nat × Nat × Nat × Nat × (Nat → Nat)
def tD (t : St) : Nat → Rd := t.1
def tC (t : St) : Nat := t.2.1
def tH (t : St) : Nat := t.2.2.1
def tM (t : St) : Nat → Mn := t.2.2.2.1
def tJ (t : St) : Nat := t.2.2.2.2.1
def tE (t : St) : Nat := t.2.2.2.2.2.1
def tV (t : St) : Nat := t.2.2.2.2.2.2.1
def tQ (t : St) : Nat := t.2.2.2.2.2.2.2.1
def tT (t : St) : Nat := t.2.2.2.2.2.2.2.2.1
def tA (t : St) : Nat → Nat := t.2.2.2.2.2.2.2.2.2
def d0 : Rd := (0, fun _ => 0, fun _ => 0, fun _ => 0, fun _ => 0, fun _ => 0, 0, fun _ _ => -1)
def okM (q : Mn) : Prop := qL q ≤ qH q ∧ qH q ≤ 99 ∧ 1 ≤ qS q ∧ qS q ≤ 99 ∧ ∀ n, n < qN q → okL (qF q n)
def okT (t : St) : Prop := tT t ≤ 1000 ∧ ∀ i, i < tT t → tA t i = 10 ∨ (32 ≤ tA t i ∧ tA t i ≤ 126)
def WSt (t : St) : Prop := 1 ≤ tC t ∧ tC t ≤ 4 ∧ tH t < tC t ∧ (∀ r, r < 4 → WRd (tD t r)) ∧ (∀ r, tC t ≤ r → r < 4 → tD t r = d0) ∧ tJ t < 4 ∧ (∀ m, m < 4 → okM (tM t m)) ∧ 1 ≤ tE t ∧ tE t ≤ 20 ∧ 1 ≤ tV t ∧ tV t ≤ 100 ∧ 1 ≤ tQ t ∧ tQ t ≤ 100 ∧ okT t
/-- where rules of a manner lie: in its first place, or behind all that the law has made -/
def RAd (v R sz : Nat) : Prop := (R = v + 96 ∨ R = v + 104 ∨ R = v + 112 ∨ R = v + 120 ∨ v + 170 ≤ R) ∧ R + 6 < sz
def CMn (X : XW) (v m : Nat) (q : Mn) : Prop := LMn X (cM v m) (qL q) (qH q) (qS q) ∧ ∃ R, xR X (cM v m) 0 = some R ∧ RAd v R X.1 ∧ CRu X R (qN q) (qF q)
def CTp (X : XW) (v : Nat) (t : St) : Prop := xI X (v + 3) 1 = nI (tT t) ∧ ∀ i, i < tT t → xA X (v + 4) i = nI (tA t i)
def CSt (X : XW) (v : Nat) (t : St) : Prop := LC X v ∧ xI X v 1 = nI (tC t) ∧ xI X v 2 = nI (tH t) ∧ xI X v 4 = nI (tJ t) ∧ xI X v 5 = nI (tE t) ∧ xI X v 6 = nI (tV t) ∧ xI X v 7 = nI (tQ t) ∧ CTp X v t ∧ (∀ r, r < 4 → CRd X (cR v r) (tD t r)) ∧ ∀ m, m < 4 → CMn X v m (tM t m)
def wds (k : Nat) : Int64 := [26216, 1521, 1176170, 1891, 842217762, 564588237, 30778061, 30595897, 614923, 1355937724, 75125782, 19374, 324290739998, 1125410431, 11720058, 1186224, 1042332].getD k 0
def MTp (X : XW) (o : Nat) (t : St) : Prop := xI X o 2 = nI (tT t) ∧ ∀ i, i < tT t → xA X (mA o 1) i = nI (tA t i)
def MSt (X : XW) (o : Nat) (t : St) : Prop := LM X o ∧ xI X o 28 = nI (tC t) ∧ xI X o 29 = nI (tH t) ∧ xI X o 10 = nI (tJ t) ∧ xI X o 38 = nI (tE t) ∧ xI X o 39 = nI (tV t) ∧ xI X o 40 = nI (tQ t) ∧ MTp X o t ∧ (∀ r, r < tC t → MRd X o r (tD t r)) ∧ (∀ m, m < 4 → MMn X o m (qL (tM t m)) (qH (tM t m)) (qS (tM t m)) ∧ MRu X o m (qN (tM t m)) (qF (tM t m))) ∧ ∀ k, k < 17 → xL X (mA o 9) k = wds k
def gT (t : St) (d : Rd) : Nat → Nat → Int32 := GG d (tE t) (qL (tM t (tJ t))) (qH (tM t (tJ t))) (qS (tM t (tJ t))) (qN (tM t (tJ t))) (qF (tM t (tJ t)))
def tl (t : St) (d : Rd) (i : Nat) : Int32 := tq (nI (tV t)) (nI (tQ t)) (fun j => gT t d j 0) (i + 1) - tq (nI (tV t)) (nI (tQ t)) (fun j => gT t d j 0) i
/-- a shape of the class is that of d -/
def CSh (X : XW) (s : Nat) (d : Rd) (t : St) : Prop := CPh X s d (tE t) ∧ xI X s 3 = nI (dZ d) ∧ rowsTo X s d (tE t) (dZ d) ∧ (∀ i w, i < dZ d → w < 3 → xA X (s + 10 + w) i = gT t d i w) ∧ (∀ i, i < dZ d → xA X (s + 10 + 13) i = tl t d i) ∧ xI X s 4 = ft (qS (tM t (tJ t))) (fun i => gT t d i 1) (dZ d - 1)
def CCa (X : XW) (s : Nat) (t : St) : Prop := xI X s 2 = -1 ∨ ∃ r, r < tC t ∧ xI X s 2 = nI r ∧ CSh X s (tD t r) t
def Inv (X : XW) (v : Nat) (t : St) : Prop := CSt X v t ∧ MSt X (v + 127) t ∧ WSt t ∧ CCa X (v + 7) t ∧ CCa X (v + 31) t ∧ ar X (v + 169) 22 1 ∧ v + 170 ≤ X.1
/-- the cells that the class's methods write -/
def SC (v a : Nat) : Prop := v ≤ a ∧ a < v + 96 ∨ a = v + 103 ∨ a = v + 111 ∨ a = v + 119
theorem xfm.sz {S : Nat → Prop} {X X1 : XW} (h : xfm S X X1) : X1.1 = X.1 := congrArg (fun z => z.1) h.1
theorem rowsTo.mf {X X1 : XW} {s id n : Nat} {d : Rd} {S : Nat → Prop} (P : rowsTo X s d id n) (h : xfm S X X1) (hS : ∀ a, s + 13 ≤ a → a < s + 22 → ¬ S a) : rowsTo X1 s d id n := by
  intro p k t hp hlt w hw hw2
  rw [(h.2 (s + 10 + w) (hS _ (by omega) (by omega))).2.1]
  exact P p k t hp hlt w hw hw2
theorem CSh.mf {X X1 : XW} {s : Nat} {d : Rd} {t : St} {S : Nat → Prop} (C : CSh X s d t) (h : xfm S X X1) (hS : ∀ a, s ≤ a → a ≤ s + 23 → ¬ S a) : CSh X1 s d t := by
  obtain ⟨c1, c2, c3, c4, c5, c6⟩ := C
  refine ⟨c1.mf h (fun a h1 h2 => hS a (by omega) (by omega)), by rw [(h.2 s (hS _ (by omega) (by omega))).1]; exact c2, c3.mf h (fun a h1 h2 => hS a (by omega) (by omega)), fun i w hi hw => ?_, fun i hi => ?_, by rw [(h.2 s (hS _ (by omega) (by omega))).1]; exact c6⟩
  · rw [(h.2 (s + 10 + w) (hS _ (by omega) (by omega))).2.1]
    exact c4 i w hi hw
  · rw [(h.2 (s + 10 + 13) (hS _ (by omega) (by omega))).2.1]
    exact c5 i hi
theorem CCa.mf {X X1 : XW} {s : Nat} {t : St} {S : Nat → Prop} (C : CCa X s t) (h : xfm S X X1) (hS : ∀ a, s ≤ a → a ≤ s + 23 → ¬ S a) : CCa X1 s t := by
  have e : xI X1 s 2 = xI X s 2 := by rw [(h.2 s (hS _ (by omega) (by omega))).1]
  rcases C with c | ⟨r, c1, c2, c3⟩
  · exact Or.inl (e.trans c)
  · exact Or.inr ⟨r, c1, e.trans c2, c3.mf h hS⟩
theorem CMn.mf {X X1 : XW} {v m : Nat} {q : Mn} {S : Nat → Prop} (C : CMn X v m q) (h : xfm S X X1) (h1 : ¬ S (cM v m)) (hS : ∀ a, S a → SC v a ∨ v + 127 ≤ a ∧ a ≤ v + 169) : CMn X1 v m q := by
  obtain ⟨c1, R, c2, c3, c4⟩ := C
  refine ⟨c1.mf h h1, R, (h.rr _ _).trans c2, by rw [h.sz]; exact c3, c4.mf h (fun a q1 q2 q3 => ?_)⟩
  have := hS a q3
  unfold SC at this
  unfold RAd at c3
  omega
theorem CTp.mf {X X1 : XW} {v : Nat} {t : St} {S : Nat → Prop} (C : CTp X v t) (h : xfm S X X1) (h1 : ¬ S (v + 3)) (h2 : ¬ S (v + 4)) : CTp X1 v t := by
  unfold CTp
  rw [(h.2 _ h1).1, (h.2 _ h2).2.1]
  exact C
theorem mfm.xf {o : Nat} {K : List Nat} {X X1 : XW} (h : mfm o K X X1) : xfm (fun a => o ≤ a ∧ a ≤ o + 41) X X1 := ⟨h.1, fun a ha => h.2.1 a (by omega)⟩
/-- a change outside the reference's cells leaves the reference's state -/
theorem xfm.mf {o : Nat} {X X1 : XW} {S : Nat → Prop} (h : xfm S X X1) (hS : ∀ a, o ≤ a → a ≤ o + 41 → ¬ S a) : xI X1 o = xI X o ∧ ∀ k, k < 57 → tMt.getD k 0 ≠ 0 → xA X1 (mA o k) = xA X (mA o k) ∧ xL X1 (mA o k) = xL X (mA o k) := by
  refine ⟨(h.2 o (hS o (Nat.le_refl _) (by omega))).1, fun k hk h0 => ?_⟩
  have h1 := cM_le k hk h0
  have h2 := h.2 (mA o k) (hS _ (by unfold mA; omega) (by unfold mA; omega))
  exact ⟨h2.2.1, h2.2.2⟩
theorem MSt.xf {o : Nat} {X X1 : XW} {t : St} {S : Nat → Prop} (M : MSt X o t) (h : xfm S X X1) (hS : ∀ a, o ≤ a → a ≤ o + 41 → ¬ S a) : MSt X1 o t := by
  obtain ⟨e1, e2⟩ := h.mf hS
  have eA : ∀ k, k < 57 → tMt.getD k 0 ≠ 0 → xA X1 (mA o k) = xA X (mA o k) := fun k h1 h2 => (e2 k h1 h2).1
  have eL : ∀ k, k < 57 → tMt.getD k 0 ≠ 0 → xL X1 (mA o k) = xL X (mA o k) := fun k h1 h2 => (e2 k h1 h2).2
  obtain ⟨m1, m2⟩ := M
  refine ⟨m1.mv h, ?_⟩
  unfold MTp MRd MWd MMn MRu MLn MEx at *
  rw [e1, eA 1 (by decide) (by decide), eL 9 (by decide) (by decide), eA 11 (by decide) (by decide), eA 12 (by decide) (by decide), eA 13 (by decide) (by decide), eA 14 (by decide) (by decide), eA 15 (by decide) (by decide), eA 16 (by decide) (by decide), eA 17 (by decide) (by decide), eA 18 (by decide) (by decide), eA 19 (by decide) (by decide), eA 20 (by decide) (by decide), eA 30 (by decide) (by decide), eA 31 (by decide) (by decide), eA 32 (by decide) (by decide), eA 33 (by decide) (by decide), eA 34 (by decide) (by decide), eA 35 (by decide) (by decide), eA 36 (by decide) (by decide), eA 37 (by decide) (by decide)]
  exact m2
theorem CLay.val {X : XW} {s id : Nat} {d : Rd} {ls : Nat → Ln} (C : CLay X s d id) (W : WRd d) : CVal X s d id (sv d id ls 0) := by
  have W80 := W.z
  intro i w hi hw
  obtain ⟨c1, c2, c3⟩ := C
  obtain ⟨a0, a1, a2, a12⟩ := c3 i (by omega)
  by_cases h3 : w < 3
  · rw [show k13 (sv d id ls 0) d id i w = xsv 2 w from if_pos h3]
    match w, h3 with
    | 0, _ => exact a0
    | 1, _ => exact a1
    | 2, _ => exact a2
  · rw [show k13 (sv d id ls 0) d id i w = kq d id i w from if_neg h3]
    by_cases h12 : w = 12
    · rw [h12, kq_12]
      exact a12
    · obtain ⟨p, k, t, hp, rfl⟩ := plc_ex id hi
      rw [kq_e hp, c2 p k t hp hi w (by omega) (by omega)]
section Prep
variable {X : XW} {v s r : Nat} {t : St}
def PS (v s a : Nat) : Prop := s ≤ a ∧ a ≤ s + 23 ∨ a = v + 5 ∨ a = v + 6
theorem LC.ca (L : LC X v) : LCa X (v + 5) := by
  obtain ⟨l1, l2, l3, l4, l5, l6, l7, l8, l9, l10, l11, l12, l13, l14, l15, l16, l17, l18, l19⟩ := L
  exact ⟨l15, l16, l17⟩
theorem LC.sh (L : LC X v) (hs : s = v + 7 ∨ s = v + 31) : LSh X s := by
  obtain ⟨l1, l2, l3, l4, l5, l6, l7, l8, l9, l10, l11, l12, l13, l14, l15, l16, l17, l18, l19⟩ := L
  rcases hs with rfl | rfl
  · exact l18
  · exact l19
theorem LC.rd (L : LC X v) (hr : r < 4) : aQ X (v + 1) 5 (nI r) = some (cR v r) ∧ LRd X (cR v r) := by
  obtain ⟨l1, l2, l3, l4, l5, l6, l7, l8, l9, l10, l11, l12, l13, l14, l15, l16, l17, l18, l19⟩ := L
  exact ⟨aQ_of l8.1 l8.2 hr (by decide) (l10 r hr).1, (l10 r hr).2⟩
theorem LC.mn (L : LC X v) (hr : r < 4) : aQ X (v + 2) 4 (nI r) = some (cM v r) ∧ xKd X (cM v r) = 3 := by
  obtain ⟨l1, l2, l3, l4, l5, l6, l7, l8, l9, l10, l11, l12, l13, l14, l15, l16, l17, l18, l19⟩ := L
  exact ⟨aQ_of l9.1 l9.2 hr (by decide) (l11 r hr).1, (l11 r hr).2⟩
theorem f_prep (C : CSt X v t) (W : WSt t) (hs : s = v + 7 ∨ s = v + 31) (hr : r < tC t) (h2 : ¬ xI X s 2 = nI r) :
    ∃ X1, fX9_prepare v s (nI r) X = some X1 ∧ xfm (PS v s) X X1 ∧ xI X1 s 2 = nI r ∧ CSh X1 s (tD t r) t := by
  obtain ⟨L, C1, C2, C3, C4, C5, C6, C7, C8, C9⟩ := C
  obtain ⟨W1, W2, W3, W4, W5, W6, W7, W8, W9, W10, W11, W12, W13, W14⟩ := W
  have hr4 : r < 4 := by omega
  have Wd := W4 r hr4
  have W80 := Wd.z
  obtain ⟨M1, M2, M3, M4, M5⟩ := W7 (tJ t) W6
  have hq : cR v r + 9 < s ∨ s + 23 < cR v r := by unfold cR; omega
  have hg : s + 23 < cM v (tJ t) := by unfold cM; omega
  have hcv : v + 55 ≤ cR v r := by unfold cR; omega
  generalize hX0 : wI X s 2 (nI r) = X0
  have F0 : xfm (PS v s) X X0 := by rw [← hX0]; exact xfm.wI (by unfold PS; omega)
  have L0 := L.mv F0
  have i0 : xI X0 s 2 = nI r := by rw [← hX0, xI_wI, if_pos ⟨rfl, rfl⟩]
  have hv : ∀ {X1 : XW}, xfm (PS v s) X X1 → xI X1 v = xI X v := fun h => (h.2 v (by unfold PS; omega)).1
  have hR : ∀ {X1 : XW}, xfm (PS v s) X X1 → CRd X1 (cR v r) (tD t r) := fun h => (C8 r hr4).mf h (fun a q1 q2 => by unfold PS; omega)
  have hM : ∀ {X1 : XW}, xfm (PS v s) X X1 → CMn X1 v (tJ t) (tM t (tJ t)) := fun h => (C9 (tJ t) W6).mf h (by unfold PS; omega) (fun a ha => by unfold PS at ha; unfold SC; omega)
  obtain ⟨Y1, y1, F1, P1, A1, j1⟩ := f_layOut (L0.sh hs) (L0.rd hr4).2 hq (hR F0) Wd W9
  have G1 : xfm (PS v s) X Y1 := F0.tr (F1.wk (fun a ha => by unfold PS; omega))
  have L1 := L.mv G1
  obtain ⟨N1, R, N2, N3, N4⟩ := hM G1
  unfold RAd at N3
  obtain ⟨Y2, y2, F2, V2⟩ := f_applyLines L1.ca (L1.sh hs) (by omega) (by omega) Wd N4 M5 A1.1 (A1.val Wd)
  have G2 : xfm (PS v s) X Y2 := G1.tr (F2.wk (fun a ha => by unfold SA at ha; unfold PS; omega))
  have L2 := L.mv G2
  have z2 : xI Y2 s 3 = nI (dZ (tD t r)) := by rw [(F2.2 s (by unfold SA; omega)).1]; exact A1.1
  have k2 : xI Y2 s 2 = nI r := by rw [(F2.2 s (by unfold SA; omega)).1, j1]; exact i0
  have P2 := P1.mf F2 (by unfold SA; omega)
  have T2 := A1.2.1.mf F2 (by unfold SA; omega)
  have y3 := f_applyMarks (L2.sh hs) (L2.rd hr4).2 hq (hR G2) Wd z2
  have F3 := aM_f Y2 s (tD t r) (w := 3) (by decide)
  have A3 := aM_A Y2 s (tD t r)
  have I3 := aM_I Y2 s (tD t r) 3
  generalize hY3 : aM Y2 s (tD t r) 3 = Y3 at *
  have G3 : xfm (PS v s) X Y3 := G2.tr (F3.wk (fun a ha => by unfold SL at ha; unfold PS; omega))
  have L3 := L.mv G3
  have b3 : ∀ w, w < 3 → xA Y3 (s + 10 + w) = mkF (tD t r) w (xA Y2 (s + 10 + w)) (dZ (tD t r)) := fun w hw => by
    rw [← hY3, A3, if_pos (by omega), show s + 10 + w - s - 10 = w by omega]
  have c3 : ∀ w, 3 ≤ w → xA Y3 (s + 10 + w) = xA Y2 (s + 10 + w) := fun w hw => by
    rw [← hY3, A3, if_neg (by omega)]
  have v2 : ∀ i w, i < dZ (tD t r) → w < 3 → xA Y2 (s + 10 + w) i = sv (tD t r) (tE t) (qF (tM t (tJ t))) (qN (tM t (tJ t))) i w := fun i w hi hw => (V2 i w hi (by omega)).trans (if_pos hw)
  have e1 : ∀ i, i < dZ (tD t r) → spF (tD t r) (qL (tM t (tJ t))) (qH (tM t (tJ t))) (xA Y3 (s + 10 + 1)) (dZ (tD t r)) i = gm (tD t r) (qL (tM t (tJ t))) (qH (tM t (tJ t))) (sv (tD t r) (tE t) (qF (tM t (tJ t))) (qN (tM t (tJ t)))) i 1 := fun i hi => by
    rw [b3 1 (by decide)]
    unfold spF gm mkF
    by_cases h : dM (tD t r) 1 i = -1
    · rw [if_pos ⟨hi, h⟩, if_pos h, if_neg (fun q => q.2 h), if_pos rfl, v2 i 1 hi (by decide)]
    · rw [if_neg (fun q => h q.2), if_neg h, if_pos ⟨hi, h⟩]
  have e2 : ∀ i w, i < dZ (tD t r) → w < 3 → w ≠ 1 → xA Y3 (s + 10 + w) i = gm (tD t r) (qL (tM t (tJ t))) (qH (tM t (tJ t))) (sv (tD t r) (tE t) (qF (tM t (tJ t))) (qN (tM t (tJ t)))) i w := fun i w hi hw h1 => by
    rw [b3 w hw]
    unfold gm mkF
    by_cases h : dM (tD t r) w i = -1
    · rw [if_neg (fun q => q.2 h), if_pos h, if_neg h1, v2 i w hi hw]
    · rw [if_pos ⟨hi, h⟩, if_neg h]
  have z3 : xI Y3 s 3 = nI (dZ (tD t r)) := by rw [I3]; exact z2
  obtain ⟨Y4, y4, F4, a4, b4, p4, q4, r4⟩ := f_settle (L3.sh hs) (L3.rd hr4).2 hq hg (hM G3).1 M1 M2 M4 (hR G3) Wd z3 (fun i hi => by rw [e1 i hi]; exact gm_in Wd M1 M2 (by omega))
  have G4 : xfm (PS v s) X Y4 := G3.tr (F4.wk (fun a ha => by unfold SL at ha; unfold PS; omega))
  have L4 := L.mv G4
  have z4' : xI Y4 s 3 = nI (dZ (tD t r)) := q4.trans z3
  have g1 : ∀ i, i < dZ (tD t r) → xA Y4 (s + 10 + 1) i = gT t (tD t r) i 1 := fun i hi => by
    rw [a4 i hi]
    unfold gT GG
    rw [if_pos rfl]
    exact hF_congr e1 hi
  have g2 : ∀ i w, i < dZ (tD t r) → w < 3 → xA Y4 (s + 10 + w) i = gT t (tD t r) i w := fun i w hi hw => by
    by_cases h : w = 1
    · rw [h]; exact g1 i hi
    · rw [b4 w h, e2 i w hi hw h]
      unfold gT GG
      rw [if_neg h]
  have y5 := f_tell (d := tD t r) (L4.sh hs) W80 z4' (P := tV t) (Q := tQ t) (by omega) (by omega)
  obtain ⟨f5, hf5⟩ : ∃ f, f = mx (fun i => tq (nI (tV t)) (nI (tQ t)) (xA Y4 (s + 10 + 0)) (i + 1) - tq (nI (tV t)) (nI (tQ t)) (xA Y4 (s + 10 + 0)) i) (xA Y4 (s + 10 + 13)) (dZ (tD t r)) := ⟨_, rfl⟩
  rw [← hf5] at y5
  refine ⟨wF Y4 (s + 10 + 13) f5, ?_, G4.tr (xfm.wF (by unfold PS; omega)), by rw [xI_wF, p4, I3]; exact k2, (((P2.mf F3 (by unfold SL; omega)).mf F4 (by unfold SL; omega)).mf (S := SL s) (xfm.wF (by unfold SL; omega)) (by unfold SL; omega)), by rw [xI_wF]; exact z4', ?_, fun i w hi hw => ?_, fun i hi => ?_, ?_⟩
  rotate_left 1
  · intro p k u hp hlt w hw hw2
    rw [xA_wFn (by omega), b4 w (by omega), c3 w hw]
    exact T2 p k u hp hlt w hw hw2
  · rw [xA_wFn (by omega)]
    exact g2 i w hi hw
  · rw [xA_wFe, hf5, show mx (fun i => tq (nI (tV t)) (nI (tQ t)) (xA Y4 (s + 10 + 0)) (i + 1) - tq (nI (tV t)) (nI (tQ t)) (xA Y4 (s + 10 + 0)) i) (xA Y4 (s + 10 + 13)) (dZ (tD t r)) i = _ from if_pos hi]
    unfold tl
    dsimp only
    rw [tq_congr (fun j hj => g2 j 0 hj (by decide)) (show i + 1 ≤ dZ (tD t r) by omega), tq_congr (fun j hj => g2 j 0 hj (by decide)) (show i ≤ dZ (tD t r) by omega)]
  · rw [xI_wF, r4]
    refine ft_congr (n := dZ (tD t r)) (fun i hi => ?_) _ (by omega)
    rw [← a4 i hi]
    exact g1 i hi
  · have l2 := L.2.1
    have l3 := L.2.2.1
    have l5 := L.2.2.2.2.1
    have o1 : xI X0 v 4 = nI (tJ t) := by rw [hv F0]; exact C3
    have o2 : xI X0 v 5 = nI (tE t) := by rw [hv F0]; exact C4
    have o3 : xI Y4 v 6 = nI (tV t) := by rw [hv G4]; exact C5
    have o4 : xI Y4 v 7 = nI (tQ t) := by rw [hv G4]; exact C6
    unfold fX9_prepare
    rw [sI (L.sh hs), sb, if_neg h2, sP (L.sh hs), sb, hX0, gR_of L0.1 L0.2.2.1, sb, gI_of L0.1, sb, o1, (L0.mn W6).1, sb, gR_of L0.1 L0.2.1, sb, (L0.rd hr4).1, sb, gI_of L0.1, sb, o2, sK (L0.sh hs), sb, y1, sb, gR_of (L1.mn W6).2 N2, sb, gR_of L1.1 L1.2.2.2.2.1, sb, sK (L1.sh hs), sb, y2, sb, gR_of L2.1 L2.2.1, sb, (L2.rd hr4).1, sb, sK (L2.sh hs), sb, y3, sb, gR_of L3.1 L3.2.1, sb, (L3.rd hr4).1, sb, sK (L3.sh hs), sb, y4, sb, gI_of L4.1, sb, gI_of L4.1, sb, o3, o4, sK (L4.sh hs), sb, y5, sb]
theorem f_prepare (I : Inv X v t) (hs : s = v + 7 ∨ s = v + 31) (hr : r < tC t) : ∃ X1, fX9_prepare v s (nI r) X = some X1 ∧ xfm (PS v s) X X1 ∧ xI X1 s 2 = nI r ∧ CSh X1 s (tD t r) t ∧ Inv X1 v t := by
  obtain ⟨C, M, W, c1, c2, l1, z1⟩ := I
  have W4 := W.2.1
  have H : ∃ X1, fX9_prepare v s (nI r) X = some X1 ∧ xfm (PS v s) X X1 ∧ xI X1 s 2 = nI r ∧ CSh X1 s (tD t r) t := by
    by_cases h2 : xI X s 2 = nI r
    · have hc : CCa X s t := by
        rcases hs with rfl | rfl
        · exact c1
        · exact c2
      refine ⟨X, ?_, xfm.rf _ _, h2, ?_⟩
      · unfold fX9_prepare
        rw [sI (C.1.sh hs), sb, if_pos h2]
      · rcases hc with q | ⟨r', q1, q2, q3⟩
        · rw [h2] at q
          have := nI_pos (n := r) (by omega)
          rw [q] at this
          exact absurd (by decide) this
        · have : r = r' := (nI_eq (by omega) (by omega)).mp (h2.symm.trans q2)
          rw [this]
          exact q3
    · exact f_prep C W hs hr h2
  obtain ⟨X1, h1, F, h2, h3⟩ := H
  refine ⟨X1, h1, F, h2, h3, ?_⟩
  have hc : CCa X1 s t := Or.inr ⟨r, hr, h2, h3⟩
  refine ⟨?_, M.xf F (fun a q1 q2 => by unfold PS; omega), W, ?_, ?_, l1.mv F, by rw [F.sz]; exact z1⟩
  · obtain ⟨L, C1, C2, C3, C4, C5, C6, C7, C8, C9⟩ := C
    refine ⟨L.mv F, ?_⟩
    rw [(F.2 v (by unfold PS; omega)).1]
    exact ⟨C1, C2, C3, C4, C5, C6, C7.mf F (by unfold PS; omega) (by unfold PS; omega), fun r hr => (C8 r hr).mf F (fun a q1 q2 => by unfold PS; unfold cR at q1 q2; omega), fun m hm => (C9 m hm).mf F (by unfold PS cM; omega) (fun a ha => by unfold PS at ha; unfold SC; omega)⟩
  · rcases hs with rfl | rfl
    · exact hc
    · exact c1.mf F (fun a q1 q2 => by unfold PS; omega)
  · rcases hs with rfl | rfl
    · exact c2.mf F (fun a q1 q2 => by unfold PS; omega)
    · exact hc
end Prep
