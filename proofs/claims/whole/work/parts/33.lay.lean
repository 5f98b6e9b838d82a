/-! the class's layWord and layOut -/
def z4 (Z Z1 Z2 Z3 : XW) : Nat → XW
  | 0 => Z
  | 1 => Z1
  | 2 => Z2
  | _ => Z3
section CLay2
variable {X : XW} {s q id : Nat} {d : Rd}
def SL (s : Nat) (a : Nat) : Prop := a = s ∨ s + 10 ≤ a ∧ a ≤ s + 23
theorem lw1_f (X : XW) (s i : Nat) (f : Nat → Int32) (n : Int32) : xfm (SL s) X (wI (w9 X s i f 9) s 3 n) := (((w9_f X s i f).wk (fun a ha => by unfold SL; omega)).tr (xfm.wI (Or.inl rfl)))
theorem f_layWord (L : LSh X s) (Q : LRd X q) (hq : q + 9 < s ∨ s + 23 < q) (R : CRd X q d) (W : WRd d) (P : CPh X s d id) {p k : Nat} (hp1 : p < pN d id) (hp2 : fs d id p ≤ k) (hp3 : k < fs d id (p + 1)) (hz : xI X s 3 = nI (ps (dS d) k)) (hr : rowsTo X s d id (ps (dS d) k)) :
    ∃ X1, fX6_layWord s q (nI k) (nI p) (nI (ps (dS d) (fs d id p))) X = some X1 ∧ xfm (SL s) X X1 ∧ xI X1 s 3 = nI (ps (dS d) (k + 1)) ∧ rowsTo X1 s d id (ps (dS d) (k + 1)) ∧ xI X1 s 2 = xI X s 2 := by
  have kw : k < dW d := Nat.lt_of_lt_of_le hp3 (fs_le d id _)
  obtain ⟨W2, W3, -⟩ := W.2.1 k kw
  have hl : ∃ X1, fX6_layWord_l3 s q (nI k) (nI p) (nI (ps (dS d) (fs d id p))) FU 0 X = some X1 ∧ xfm (SL s) X X1 ∧ xI X1 s 3 = nI (ps (dS d) (k + 1)) ∧ rowsTo X1 s d id (ps (dS d) (k + 1)) ∧ xI X1 s 2 = xI X s 2 := by
    refine iterP2 (b := fun rec => fX6_layWord_l3_b rec s q (nI k) (nI p) (nI (ps (dS d) (fs d id p)))) (z := fun _ _ => none) (fun m a Z => ∃ t, t ≤ dS d k ∧ m = dS d k - t ∧ a = nI t ∧ xfm (SL s) X Z ∧ xI Z s 3 = nI (ps (dS d) k + t) ∧ rowsTo Z s d id (ps (dS d) k + t) ∧ xI Z s 2 = xI X s 2) (fun X1 => xfm (SL s) X X1 ∧ xI X1 s 3 = nI (ps (dS d) (k + 1)) ∧ rowsTo X1 s d id (ps (dS d) (k + 1)) ∧ xI X1 s 2 = xI X s 2) ?_ FU (dS d k) _ _ (FUlt (by omega)) ⟨0, Nat.zero_le _, rfl, rfl, xfm.rf _ _, hz, hr, rfl⟩
    rintro m a Z ⟨t, ht, rfl, rfl, F, hz1, hr1, h2⟩
    have L1 := L.mv F
    have Q1 := Q.mv F
    have R1 := R.mf F (by unfold SL; omega)
    have P1 := P.mf F (by unfold SL; omega)
    by_cases htt : t = dS d k
    · left
      subst htt
      refine ⟨Z, fun rec => ?_, F, hz1, hr1, h2⟩
      unfold fX6_layWord_l3_b
      have c1 := (R1.2.2.2.1 k kw).1
      have W1 := W.1
      rw [dR0 Q1, sb, dA0 Q1 (by omega), sb, c1, if_pos (nI_le (Nat.le_refl _) (by omega))]
    · right
      have hp : plc d id p k t := ⟨hp1, hp2, hp3, by omega⟩
      have hst := fun rec => f_lw1 L1 Q1 hq R1 W P1 hp hz1 rec
      have g1 := lw1_f Z s (ps (dS d) k + t) (fun w => kv d id w p k t) (nI (ps (dS d) k + t + 1))
      have g2 : xI (wI (w9 Z s (ps (dS d) k + t) (fun w => kv d id w p k t) 9) s 3 (nI (ps (dS d) k + t + 1))) s 3 = nI (ps (dS d) k + (t + 1)) := by rw [xI_wI, if_pos ⟨rfl, rfl⟩]; rfl
      have g3 : ∀ w, 3 ≤ w → w < 12 → xA (wI (w9 Z s (ps (dS d) k + t) (fun w => kv d id w p k t) 9) s 3 (nI (ps (dS d) k + t + 1))) (s + 10 + w) = va_up (xA Z (s + 10 + w)) (ps (dS d) k + t) (kv d id w p k t) := fun w hw hw2 => by
        rw [xA_wI]
        exact w9_r Z s (ps (dS d) k + t) (fun w => kv d id w p k t) hw hw2
      have g4 : xI (wI (w9 Z s (ps (dS d) k + t) (fun w => kv d id w p k t) 9) s 3 (nI (ps (dS d) k + t + 1))) s 2 = xI Z s 2 := by rw [xI_wI, if_neg (fun e => absurd e.2 (by decide)), w9_I]
      generalize wI (w9 Z s (ps (dS d) k + t) (fun w => kv d id w p k t) 9) s 3 (nI (ps (dS d) k + t + 1)) = Y at hst g1 g2 g3 g4
      exact ⟨dS d k - (t + 1), nI (t + 1), Y, by omega, ⟨t + 1, by omega, rfl, rfl, F.tr g1, g2, hr1.step hp g3, g4.trans h2⟩, hst⟩
  obtain ⟨X1, h1, h2⟩ := hl
  exact ⟨X1, by unfold fX6_layWord; rw [h1, sb], h2⟩
/-- what is laid out: sizes and rows -/
def CLay (X : XW) (s : Nat) (d : Rd) (id : Nat) : Prop := xI X s 3 = nI (dZ d) ∧ rowsTo X s d id (dZ d) ∧ ∀ i, i < 80 → xA X (s + 10) i = 10 ∧ xA X (s + 11) i = 50 ∧ xA X (s + 12) i = 5 ∧ xA X (s + 22) i = nI (dU d)
theorem f_lO65 (L : LSh X s) (Q : LRd X q) (hq : q + 9 < s ∨ s + 23 < q) (R : CRd X q d) (W : WRd d) (P : CPh X s d id) {p : Nat} (hp1 : p < pN d id) (hz : xI X s 3 = nI (ps (dS d) (fs d id p))) (hr : rowsTo X s d id (ps (dS d) (fs d id p))) :
    ∃ X1, fX6_layOut_l65 s q (nI p) (nI (fs d id (p + 1))) (nI (ps (dS d) (fs d id p))) FU (nI (fs d id p)) X = some X1 ∧ xfm (SL s) X X1 ∧ xI X1 s 3 = nI (ps (dS d) (fs d id (p + 1))) ∧ rowsTo X1 s d id (ps (dS d) (fs d id (p + 1))) ∧ xI X1 s 2 = xI X s 2 := by
  have W1 := W.1
  have hm := fs_mono d id p
  have hle := fs_le d id (p + 1)
  refine iterP2 (b := fun rec => fX6_layOut_l65_b rec s q (nI p) (nI (fs d id (p + 1))) (nI (ps (dS d) (fs d id p)))) (z := fun _ _ => none) (fun m a Z => ∃ k, fs d id p ≤ k ∧ k ≤ fs d id (p + 1) ∧ m = fs d id (p + 1) - k ∧ a = nI k ∧ xfm (SL s) X Z ∧ xI Z s 3 = nI (ps (dS d) k) ∧ rowsTo Z s d id (ps (dS d) k) ∧ xI Z s 2 = xI X s 2) (fun X1 => xfm (SL s) X X1 ∧ xI X1 s 3 = nI (ps (dS d) (fs d id (p + 1))) ∧ rowsTo X1 s d id (ps (dS d) (fs d id (p + 1))) ∧ xI X1 s 2 = xI X s 2) ?_ FU (fs d id (p + 1) - fs d id p) _ _ (FUlt (by omega)) ⟨fs d id p, Nat.le_refl _, hm, rfl, rfl, xfm.rf _ _, hz, hr, rfl⟩
  rintro m a Z ⟨k, hk1, hk2, rfl, rfl, F, hz1, hr1, h2⟩
  have L1 := L.mv F
  have Q1 := Q.mv F
  have R1 := R.mf F (by unfold SL; omega)
  have P1 := P.mf F (by unfold SL; omega)
  by_cases htt : k = fs d id (p + 1)
  · left
    subst htt
    refine ⟨Z, fun rec => ?_, F, hz1, hr1, h2⟩
    unfold fX6_layOut_l65_b
    rw [if_pos (nI_le (Nat.le_refl _) (by omega))]
  · right
    obtain ⟨Z1, g1, g2, g3, g4, g5⟩ := f_layWord L1 Q1 hq R1 W P1 hp1 hk1 (by omega) hz1 hr1
    refine ⟨fs d id (p + 1) - (k + 1), nI (k + 1), Z1, by omega, ⟨k + 1, by omega, by omega, rfl, rfl, F.tr g2, g3, g4, g5.trans h2⟩, fun rec => ?_⟩
    unfold fX6_layOut_l65_b
    rw [if_neg (nI_ge (by omega) (by omega)), sK L1, sb, g1, sb, nI_1]
theorem f_layOut (L : LSh X s) (Q : LRd X q) (hq : q + 9 < s ∨ s + 23 < q) (R : CRd X q d) (W : WRd d) (hid2 : id ≤ 20) :
    ∃ X1, fX6_layOut s q (nI id) X = some X1 ∧ xfm (fun a => s ≤ a ∧ a ≤ s + 23) X X1 ∧ CPh X1 s d id ∧ CLay X1 s d id ∧ xI X1 s 2 = xI X s 2 := by
  have W1 := W.1
  obtain ⟨Y, hY, FY, P⟩ := f_partWords L Q hq R W hid2
  have hpe := pN_e d id
  have hpn := pN_le d id
  have Fw : ∀ {X1 : XW}, xfm (SL s) Y X1 → xfm (fun a => s ≤ a ∧ a ≤ s + 23) X X1 := fun h => (FY.wk (fun a ha => by omega)).tr (h.wk (fun a ha => by unfold SL at ha; omega))
  have hl : ∃ X1, fX6_layOut_l16 s q FU 0 (wI Y s 3 0) = some X1 ∧ xfm (SL s) Y X1 ∧ xI X1 s 3 = nI (dZ d) ∧ rowsTo X1 s d id (dZ d) ∧ xI X1 s 2 = xI Y s 2 := by
    refine iterP2 (b := fun rec => fX6_layOut_l16_b rec s q) (z := fun _ _ => none) (fun m a Z => ∃ p, p ≤ pN d id ∧ m = pN d id - p ∧ a = nI p ∧ xfm (SL s) Y Z ∧ xI Z s 3 = nI (ps (dS d) (fs d id p)) ∧ rowsTo Z s d id (ps (dS d) (fs d id p)) ∧ xI Z s 2 = xI Y s 2) (fun X1 => xfm (SL s) Y X1 ∧ xI X1 s 3 = nI (dZ d) ∧ rowsTo X1 s d id (dZ d) ∧ xI X1 s 2 = xI Y s 2) ?_ FU (pN d id) _ _ (FUlt (by omega)) ⟨0, Nat.zero_le _, rfl, rfl, xfm.wI (Or.inl rfl), by rw [xI_wI, if_pos ⟨rfl, rfl⟩]; rfl, fun p k t hp hlt => absurd hlt (Nat.not_lt_zero _), by rw [xI_wI, if_neg (fun e => absurd e.2 (by decide))]⟩
    rintro m a Z ⟨p, hp, rfl, rfl, F, hz1, hr1, h2⟩
    have Fz : xfm (fun a => s ≤ a ∧ a ≤ s + 23) X Z := Fw F
    have L1 := L.mv Fz
    have Q1 := Q.mv Fz
    have R1 := R.mf Fz (by omega)
    have P1 := P.mf F (by unfold SL; omega)
    by_cases hpp : p = pN d id
    · left
      have e : ps (dS d) (fs d id p) = dZ d := by rw [hpp, hpe]; rfl
      rw [e] at hz1 hr1
      refine ⟨Z, fun rec => ?_, F, hz1, hr1, h2⟩
      unfold fX6_layOut_l16_b
      rw [sR0 L1, sb, tI L1, sb, P1.1, if_pos (nI_le (by omega) (by omega))]
    · right
      have hlt : p < pN d id := by omega
      obtain ⟨e1, e2, -⟩ := P1.2.2 p hlt
      have hm := fs_mono d id p
      obtain ⟨Z1, g1, g2, g3, g4, g5⟩ := f_lO65 L1 Q1 hq R1 W P1 hlt hz1 hr1
      refine ⟨pN d id - (p + 1), nI (p + 1), Z1, by omega, ⟨p + 1, by omega, rfl, rfl, F.tr g2, g3, g4, g5.trans h2⟩, fun rec => ?_⟩
      unfold fX6_layOut_l16_b
      have h16 : p < 16 := by omega
      simp only [sR0 L1, sb, tI L1, P1.1, if_neg (nI_ge hlt (by omega)), tR0 L1, tA0 L1 h16, tR1 L1, tA1 L1 h16, e1, e2, sI L1, hz1, nI_add, Nat.add_sub_cancel' hm, g1, nI_1]
  obtain ⟨Z, h1, h2, h3, h4, h5⟩ := hl
  have Fz := Fw h2
  have Lz := L.mv Fz
  have a0 : ar Z (s + 10 + 0) 21 80 := (Lz.2.2.2.2.2.2.2.2.2.2.2.2.2 0 (by decide)).2
  have a1 : ar Z (s + 10 + 1) 21 80 := (Lz.2.2.2.2.2.2.2.2.2.2.2.2.2 1 (by decide)).2
  have a2 : ar Z (s + 10 + 2) 21 80 := (Lz.2.2.2.2.2.2.2.2.2.2.2.2.2 2 (by decide)).2
  have a12 : ar Z (s + 10 + 12) 21 80 := (Lz.2.2.2.2.2.2.2.2.2.2.2.2.2 12 (by decide)).2
  generalize hZ1 : wF Z (s + 10 + 0) (flF (xA Z (s + 10 + 0)) 80 10) = Z1
  generalize hZ2 : wF Z1 (s + 10 + 1) (flF (xA Z1 (s + 10 + 1)) 80 50) = Z2
  generalize hZ3 : wF Z2 (s + 10 + 2) (flF (xA Z2 (s + 10 + 2)) 80 5) = Z3
  generalize hZ4 : wF Z3 (s + 10 + 12) (flF (xA Z3 (s + 10 + 12)) 80 (nI (dU d))) = Z4
  have S1 : xst4 Z1 = xst4 Z := by rw [← hZ1]; rfl
  have S2 : xst4 Z2 = xst4 Z := by rw [← hZ2]; exact S1
  have S3 : xst4 Z3 = xst4 Z := by rw [← hZ3]; exact S2
  have L1 := Lz.mv (tr1 S1)
  have L2 := Lz.mv (tr1 S2)
  have L3 := Lz.mv (tr1 S3)
  have i4 : xI Z4 = xI Z := by rw [← hZ4, ← hZ3, ← hZ2, ← hZ1]; rfl
  have F4 : xfm (SL s) Z Z4 := by
    have f1 : xfm (SL s) Z Z1 := by rw [← hZ1]; exact xfm.wF (by unfold SL; omega)
    have f2 : xfm (SL s) Z1 Z2 := by rw [← hZ2]; exact xfm.wF (by unfold SL; omega)
    have f3 : xfm (SL s) Z2 Z3 := by rw [← hZ3]; exact xfm.wF (by unfold SL; omega)
    have f4 : xfm (SL s) Z3 Z4 := by rw [← hZ4]; exact xfm.wF (by unfold SL; omega)
    exact ((f1.tr f2).tr f3).tr f4
  have hl3 : fX6_layOut_l96 s q FU 0 Z = some Z3 := by
    refine iter2 (b := fun rec => fX6_layOut_l96_b rec s q) (z := fun _ _ => none) (s1 := nI) (sX := z4 Z Z1 Z2 Z3) (N := 3) (res := Z3) ?_ ?_ (n := FU) (FUlt (by decide))
    · intro k hk rec
      unfold fX6_layOut_l96_b
      have hk3 : ¬ (3 : Int32) ≤ nI k := nI_ge (b := 3) hk (by decide)
      rw [if_neg hk3]
      match k, hk with
      | 0, _ =>
        rw [show z4 Z Z1 Z2 Z3 0 = Z from rfl, show z4 Z Z1 Z2 Z3 (0 + 1) = Z1 from rfl]
        rw [sR1 Lz, sb, rwQ Lz (by decide), sb, sA_of (by decide), sb, f_fill a0 (by decide), sb, show xsv 2 0 = 10 from rfl, hZ1]
        rfl
      | 1, _ =>
        rw [show z4 Z Z1 Z2 Z3 1 = Z1 from rfl, show z4 Z Z1 Z2 Z3 (1 + 1) = Z2 from rfl]
        rw [sR1 L1, sb, rwQ L1 (by decide), sb, sA_of (by decide), sb, f_fill (a1.mv (tr1 S1)) (by decide), sb, show xsv 2 1 = 50 from rfl, hZ2]
        rfl
      | 2, _ =>
        rw [show z4 Z Z1 Z2 Z3 2 = Z2 from rfl, show z4 Z Z1 Z2 Z3 (2 + 1) = Z3 from rfl]
        rw [sR1 L2, sb, rwQ L2 (by decide), sb, sA_of (by decide), sb, f_fill (a2.mv (tr1 S2)) (by decide), sb, show xsv 2 2 = 5 from rfl, hZ3]
        rfl
    · intro rec
      unfold fX6_layOut_l96_b
      rw [if_pos (by decide)]
      rfl
  have Q3 : LRd Z3 q := (Q.mv Fz).mv (tr1 S3)
  have R4 : CRd Z4 q d := (R.mf Fz (by omega)).mf F4 (by unfold SL; omega)
  have u3 : xI Z3 q 8 = nI (dU d) := by
    have := R4.2.2.1
    rw [i4] at this
    rw [← hZ3, ← hZ2, ← hZ1]
    exact this
  refine ⟨Z4, ?_, Fw (h2.tr F4), P.mf (h2.tr F4) (by unfold SL; omega), ⟨by rw [i4]; exact h3, ?_, ?_⟩, ?_⟩
  · have Ly := L.mv FY
    unfold fX6_layOut
    rw [sR0 L, sb, tK L, sb, hY, sb, sP Ly, sb, h1, sb, hl3, sb, sR1 L3, sb]
    rw [show aQ Z3 (s + 9) 6 12 = some (s + 10 + 12) from rwQ L3 (i := 12) (by decide), sb, dI Q3, sb, u3, f_fill (a12.mv (tr1 S3)) (by decide), sb, hZ4]
  · intro p k t hp hlt w hw hw2
    rw [← h4 p k t hp hlt w hw hw2, ← hZ4, xA_wFn (by omega), ← hZ3, xA_wFn (by omega), ← hZ2, xA_wFn (by omega), ← hZ1, xA_wFn (by omega)]
  · intro i hi
    have fl : ∀ f c, flF f 80 c i = c := fun f c => if_pos hi
    refine ⟨?_, ?_, ?_, ?_⟩
    · rw [← hZ4, xA_wFn (by omega), ← hZ3, xA_wFn (by omega), ← hZ2, xA_wFn (by omega), ← hZ1, xA_wFe, fl]
    · rw [← hZ4, xA_wFn (by omega), ← hZ3, xA_wFn (by omega), ← hZ2, xA_wFe, fl]
    · rw [← hZ4, xA_wFn (by omega), ← hZ3, xA_wFe, fl]
    · rw [← hZ4, xA_wFe, fl]
  · rw [i4, h5]
    exact congrFun ((FY.2 s (by omega)).1) 2
end CLay2
