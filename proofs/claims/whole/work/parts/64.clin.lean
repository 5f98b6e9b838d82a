/-! the class reads a line -/
def SGL (g a : Nat) : Prop := g ≤ a ∧ a ≤ g + 7
def LFk (X X1 : XW) (g N cs k : Nat) : Prop := xfm (SGL g) X X1 ∧ (∀ j, j < cs → xA X1 (g + 1 + 6) j = xA X (g + 1 + 6) j) ∧ ∀ c m, 1 ≤ c → c ≤ 5 → c ≤ k ∨ m ≠ N → xA X1 (g + 1 + c) m = xA X (g + 1 + c) m
theorem LFk.rf (X : XW) (g N cs k : Nat) : LFk X X g N cs k := ⟨xfm.rf _ _, fun _ _ => rfl, fun _ _ _ _ _ => rfl⟩
theorem LFk.tr {X X1 X2 : XW} {g N cs k : Nat} (h : LFk X X1 g N cs k) (h2 : LFk X1 X2 g N cs k) : LFk X X2 g N cs k := ⟨h.1.tr h2.1, fun j hj => (h2.2.1 j hj).trans (h.2.1 j hj), fun c m q1 q2 q3 => (h2.2.2 c m q1 q2 q3).trans (h.2.2 c m q1 q2 q3)⟩
theorem LFk.le {X X1 : XW} {g N cs cs' k k' : Nat} (h : LFk X X1 g N cs k) (hc : cs' ≤ cs) (hk : k' ≤ k) : LFk X X1 g N cs' k' := ⟨h.1, fun j hj => h.2.1 j (by omega), fun c m q1 q2 q3 => h.2.2 c m q1 q2 (by omega)⟩
theorem SG3_L {g a : Nat} (h : SG3 g a) : SGL g a := by
  unfold SG3 at h
  unfold SGL
  omega
theorem LFk.fr {X X1 : XW} {g N cs k : Nat} (h : GFr X X1 g cs) : LFk X X1 g N cs k := ⟨h.1.wk (fun _ => SG3_L), h.2.1, fun c m q1 q2 _ => by rw [(h.1.2 (g + 1 + c) (fun q => by unfold SG3 at q; omega)).2.1]⟩
theorem LFk.wF {X : XW} {g N cs k c : Nat} {x : Int32} (h1 : k < c) (h5 : c ≤ 5) : LFk X (wF X (g + 1 + c) (va_up (xA X (g + 1 + c)) N x)) g N cs k := by
  refine ⟨xfm.wF (by unfold SGL; omega), fun j _ => by rw [xA_wFn (by omega)], fun d m q1 q2 q3 => ?_⟩
  by_cases e : d = c
  · subst e
    rw [xA_wFe, upN (by omega)]
  · rw [xA_wFn (by omega)]
theorem LFk.w6 {X : XW} {g N cs k : Nat} {x : Int32} : LFk X (wI X (g + 1) 6 x) g N cs k := ⟨xfm.wI (by unfold SGL; omega), fun _ _ => rfl, fun _ _ _ _ _ => rfl⟩
def DC (X : XW) (g cds m : Nat) (l : Ln) : Prop := xA X (g + 1 + 1) m = l.1 ∧ xA X (g + 1 + 2) m = nI l.2.1 ∧ ∃ b, xA X (g + 1 + 3) m = nI b ∧ xA X (g + 1 + 4) m = nI (b + l.2.2.1.1) ∧ xA X (g + 1 + 5) m = nI (b + l.2.2.1.1 + l.2.2.2.1) ∧ b + l.2.2.1.1 + l.2.2.2.1 ≤ cds ∧ CEx X (g + 1) b l.2.2.1 ∧ CEx X (g + 1) (b + l.2.2.1.1) l.2.2.2
theorem CEx.lk {X X1 : XW} {g N cs k b : Nat} {E : Ex} (h : CEx X (g + 1) b E) (F : LFk X X1 g N cs k) (hb : b + E.1 ≤ cs) : CEx X1 (g + 1) b E := ⟨by rw [F.1.ln]; exact h.1, fun j hj => by rw [F.2.1 _ (by omega)]; exact h.2 j hj⟩
theorem DC.lk {X X1 : XW} {g N cs cds k m : Nat} {l : Ln} (h : DC X g cs m l) (F : LFk X X1 g N cs k) (hm : m ≠ N) (hc : cs ≤ cds) : DC X1 g cds m l := by
  obtain ⟨h1, h2, b, h3, h4, h5, h6, h7, h8⟩ := h
  exact ⟨(F.2.2 1 m (by decide) (by decide) (Or.inr hm)).trans h1, (F.2.2 2 m (by decide) (by decide) (Or.inr hm)).trans h2, b, (F.2.2 3 m (by decide) (by decide) (Or.inr hm)).trans h3, (F.2.2 4 m (by decide) (by decide) (Or.inr hm)).trans h4, (F.2.2 5 m (by decide) (by decide) (Or.inr hm)).trans h5, by omega, h7.lk F (by omega), h8.lk F (by omega)⟩
section CLin
variable {X : XW} {g T n : Nat} {kd pl : Nat → Nat}
theorem CG.ml {X1 : XW} (C : CG X g T n kd pl) (F : xfm (SGL g) X X1) : CG X1 g T n kd pl := C.mv F (fun a q1 q2 q3 => by unfold SGL at q3; omega)
theorem CG.ar (C : CG X g T n kd pl) : xR X (g + 1) 0 = some (g + 1 + 1) ∧ xR X (g + 1) 1 = some (g + 1 + 2) ∧ xR X (g + 1) 2 = some (g + 1 + 3) ∧ xR X (g + 1) 3 = some (g + 1 + 4) ∧ xR X (g + 1) 4 = some (g + 1 + 5) := by
  have h := C.2.2.2.2.2.1.2.1
  exact ⟨h 0 (by decide), h 1 (by decide), h 2 (by decide), h 3 (by decide), h 4 (by decide)⟩
theorem c_j159f (C : CG X g T n kd pl) {N z : Nat} (hN : N < 24) (h7 : xI X (g + 1) 7 = nI z) : ∃ X1, fX1_readLine_j159 g (nI N) 0 X = some (0, X1) ∧ xfm (SGL g) X X1 ∧ xI X1 g = xI X g := by
  have L := C.2.2.2.2.2.1
  refine ⟨wF X (g + 1 + 5) (va_up (xA X (g + 1 + 5)) N (nI z)), ?_, xfm.wF (by unfold SGL; omega), rfl⟩
  unfold fX1_readLine_j159
  rw [gR_of C.1 C.2.1, sb, gR_of L.1 C.ar.2.2.2.2, sb, sb, gI_of L.1, sb, h7, uI_of L.2.2.2.2.2.2.1.1 L.2.2.2.2.2.2.1.2 hN (by decide), sb, if_pos rfl]
theorem c_j159 (C : CG X g T n kd pl) {N z i : Nat} (hN : N < 24) (P : GP X g kd i) (hi : i ≤ n) (h7 : xI X (g + 1) 7 = nI z) : (kd i = 23 ∧ ∃ X1, fX1_readLine_j159 g (nI N) 1 X = some (1, X1) ∧ LFk X X1 g N z 4 ∧ xA X1 (g + 1 + 5) N = nI z ∧ GP X1 g kd (i + 1) ∧ i + 1 ≤ n ∧ xI X1 (g + 1) 6 = nI (N + 1) ∧ xI X1 (g + 1) 7 = nI z) ∨ (¬ kd i = 23 ∧ ∃ X1, fX1_readLine_j159 g (nI N) 1 X = some (0, X1) ∧ xfm (SGL g) X X1 ∧ xI X1 g 4 = nI (1 + 16 * pl i)) := by
  have L := C.2.2.2.2.2.1
  have hkb := C.kb hi
  generalize hX1 : wF X (g + 1 + 5) (va_up (xA X (g + 1 + 5)) N (nI z)) = X1
  have F1 : LFk X X1 g N z 4 := by rw [← hX1]; exact LFk.wF (by decide) (by decide)
  have C1 := C.ml F1.1
  have P1 : GP X1 g kd i := by rw [← hX1]; exact P
  have hd : fX1_readLine_j159 g (nI N) 1 X = (gI X1 g 1 3 >>= fun v11 => if (v11 = 23 : Prop) then (gK X1 g 1 >>= fun u13 => fX1_goOn g X1 >>= fun X15 => gR X15 g 1 0 >>= fun q17 => pI X15 q17 5 6 (nI N + 1) >>= fun X19 => some (1, X19)) else (gK X1 g 1 >>= fun u21 => fX1_refuse g 1 X1 >>= fun r23 => zG r23.1 >>= fun u25 => some (r23.1, r23.2))) := by
    unfold fX1_readLine_j159
    rw [gR_of C.1 C.2.1, sb, gR_of L.1 C.ar.2.2.2.2, sb, sb, gI_of L.1, sb, h7, uI_of L.2.2.2.2.2.2.1.1 L.2.2.2.2.2.2.1.2 hN (by decide), sb, if_neg (by decide), hX1]
  by_cases c : kd i = 23
  · left
    have hin : i < n := C.lt hi (by omega)
    obtain ⟨Y, y1, y2, y3⟩ := g_goOn C1 P1 hin
    have CY := C1.mv y3 (fun a q1 q2 => by omega)
    have FY : LFk X1 Y g N z 4 := LFk.fr (GFr.g y3)
    have e7 : xI Y (g + 1) = xI X (g + 1) := by rw [(y3.2 (g + 1) (by omega)).1, ← hX1, xI_wF]
    refine ⟨c, wI Y (g + 1) 6 (nI (N + 1)), ?_, (F1.tr FY).tr LFk.w6, ?_, ?_, hin, xI_we, ?_⟩
    · rw [hd, gI_of C1.1, sb, P1.2.1, c, if_pos (by decide), gK_of' C1.1, sb, y1, sb, gR_of CY.1 CY.2.1, sb, nI_1, pI_of CY.2.2.2.2.2.1.1, sb]
    · rw [xA_wI, (y3.2 (g + 1 + 5) (by omega)).2.1, ← hX1, xA_wFe, upE]
    · unfold GP
      rw [xI_wa (by omega)]
      exact y2
    · rw [xI_wn (by decide), e7]
      exact h7
  · right
    refine ⟨c, wI X1 g 4 (nI (1 + 16 * pl i)), ?_, F1.1.tr (xfm.wI (by unfold SGL; omega)), xI_we⟩
    rw [hd, gI_of C1.1, sb, P1.2.1, if_neg (show ¬ nI (kd i) = (23 : Int32) from fun z => c ((nI_eq (b := 23) (by omega) (by decide)).mp z)), gK_of' C1.1, sb, show (1 : Int32) = nI 1 from rfl, g_refuse C1 P1 hi 1, sb]
    dsimp only
    rw [zG_0, sb]
/-- what a line gives -/
def CLo (X X1 : XW) (g n N i : Nat) (kd : Nat → Nat) (ls : Nat → Ln) (R : Nat × Nat × Ln) (r : Int32) : Prop := (r = 1 ∧ xfm (SGL g) X X1 ∧ R.1 = 0 ∧ GP X1 g kd R.2.1 ∧ i < R.2.1 ∧ R.2.1 ≤ n ∧ xI X1 (g + 1) 6 = nI (N + 1) ∧ ∃ cds, xI X1 (g + 1) 7 = nI cds ∧ cds ≤ R.2.1 ∧ ∀ m, m < N + 1 → DC X1 g cds m (if m = N then R.2.2 else ls m)) ∨ (r = 0 ∧ xfm (SGL g) X X1 ∧ 0 < R.1 ∧ R.1 ≤ 16005 ∧ xI X1 g 4 = nI R.1)
theorem c_line (C : CG X g T n kd pl) {i N cds : Nat} {ls : Nat → Ln} (hi : i ≤ n) (hN : N ≤ 24) (P : GP X g kd i) (h7 : xI X (g + 1) 7 = nI cds) (hc : cds ≤ i) (hD : ∀ m, m < N → DC X g cds m (ls m)) : ∃ r X1, fX1_readLine g (nI N) X = some (r, X1) ∧ CLo X X1 g n N i kd ls (lnR kd pl i N) r := by
  have L := C.2.2.2.2.2.1
  have hkb := C.kb hi
  have hnT := C.2.2.2.2.2.2.2.1
  have hT := C.2.2.2.2.2.2.2.2.1
  have hpl := C.2.2.2.2.2.2.2.2.2.2.2
  have ref : ∀ {Y : XW} {j : Nat} (x : Nat), (x = 1 ∨ x = 5) → xfm (SGL g) X Y → GP Y g kd j → j ≤ n → fX1_readLine g (nI N) X = (fX1_refuse g (nI x) Y >>= fun r => zG r.1 >>= fun _ => some (r.1, r.2)) → lnR kd pl i N = (x + 16 * pl j, 0, l00) → ∃ r X1, fX1_readLine g (nI N) X = some (r, X1) ∧ CLo X X1 g n N i kd ls (lnR kd pl i N) r := fun {Y j} x hx FY PY hj he hl => by
    have CY := C.ml FY
    have hp := hpl j hj
    refine ⟨0, wI Y g 4 (nI (x + 16 * pl j)), ?_, Or.inr ⟨rfl, FY.tr (xfm.wI (by unfold SGL; omega)), ?_, ?_, ?_⟩⟩
    · rw [he, g_refuse CY PY hj x, sb]
      dsimp only
      rw [zG_0, sb]
    · rw [hl]
      show 0 < x + 16 * pl j
      omega
    · rw [hl]
      show x + 16 * pl j ≤ 16005
      omega
    · rw [hl, xI_we]
  have k3 := P.2.1
  by_cases c1 : kd i = 13 ∨ kd i = 14
  rotate_left 1
  · refine ref 1 (Or.inl rfl) (xfm.rf _ _) P hi ?_ (if_pos c1)
    unfold fX1_readLine
    rw [gI_of C.1, sb, k3, if_neg (show ¬ nI (kd i) = (13 : Int32) from fun z => c1 (Or.inl ((nI_eq (b := 13) (by omega) (by decide)).mp z))), sb, if_neg (show ¬ nI (kd i) = (14 : Int32) from fun z => c1 (Or.inr ((nI_eq (b := 14) (by omega) (by decide)).mp z))), gK_of' C.1, sb]
    rfl
  have e24 : fX1_readLine g (nI N) X = fX1_readLine_j24 g (nI N) X := by
    unfold fX1_readLine
    rw [gI_of C.1, sb, k3]
    by_cases q : kd i = 13
    · rw [q, if_pos (by decide)]
    · rw [if_neg (show ¬ nI (kd i) = (13 : Int32) from fun z => q ((nI_eq (b := 13) (by omega) (by decide)).mp z)), sb, c1.resolve_left q, if_pos (by decide)]
  have hlR : lnR kd pl i N = if N = 24 then (5 + 16 * pl i, 0, l00) else if ¬ kd (i + 1) ≤ 2 then (1 + 16 * pl (i + 1), 0, l00) else lnE kd pl (kd i) (kd (i + 1)) (tm kd pl (i + 2)) := if_neg (fun z => z c1)
  by_cases c2 : N = 24
  · refine ref 5 (Or.inr rfl) (xfm.rf _ _) P hi ?_ (hlR.trans (if_pos c2))
    rw [e24]
    unfold fX1_readLine_j24
    rw [c2, if_neg (by decide), gK_of' C.1, sb]
    rfl
  rw [if_neg c2] at hlR
  have hN' : N < 24 := by omega
  have hin : i < n := C.lt hi (by omega)
  generalize hX1 : wF X (g + 1 + 1) (va_up (xA X (g + 1 + 1)) N (b01 (kd i = 14))) = X1
  have F1 : LFk X X1 g N cds 0 := by rw [← hX1]; exact LFk.wF (by decide) (by decide)
  have C1 := C.ml F1.1
  have P1 : GP X1 g kd i := by rw [← hX1]; exact P
  obtain ⟨X2, x2, P2, f2⟩ := g_goOn C1 P1 hin
  have F2 : GFr X1 X2 g cds := GFr.g f2
  have C2 := C1.m3 F2.1
  have FX2 : LFk X X2 g N cds 0 := F1.tr (LFk.fr F2)
  have hkb1 := C2.kb (i := i + 1) (by omega)
  have e58 : fX1_readLine g (nI N) X = (fX9_isWithin (nI (kd (i + 1))) 0 2 X2 >>= fun r9 => if (r9.1 = 0 : Prop) then (gK r9.2 g 1 >>= fun u57 => fX1_refuse g 1 r9.2 >>= fun r59 => zG r59.1 >>= fun u61 => some (r59.1, r59.2)) else (gR r9.2 g 1 0 >>= fun q11 => gR r9.2 q11 5 1 >>= fun q13 => gI r9.2 g 1 3 >>= fun v15 => uI r9.2 q13 (nI N) v15 >>= fun X17 => gK X17 g 1 >>= fun u19 => fX1_goOn g X17 >>= fun X21 => gR X21 g 1 0 >>= fun q23 => gR X21 q23 5 2 >>= fun q25 => gR X21 g 1 0 >>= fun q27 => gI X21 q27 5 7 >>= fun v29 => uI X21 q25 (nI N) v29 >>= fun X31 => gK X31 g 1 >>= fun u33 => fX1_readAllR 6 g 0 X31 >>= fun r35 => gR r35.2 g 1 0 >>= fun q37 => gR r35.2 q37 5 3 >>= fun q39 => gR r35.2 g 1 0 >>= fun q41 => gI r35.2 q41 5 7 >>= fun v43 => uI r35.2 q39 (nI N) v43 >>= fun X45 => if (r35.1 = 0 : Prop) then (fX1_readLine_j159 g (nI N) r35.1 X45) else (gI X45 g 1 3 >>= fun v47 => if (v47 = 15 : Prop) then (gK X45 g 1 >>= fun u49 => fX1_goOn g X45 >>= fun X51 => gK X51 g 1 >>= fun u53 => fX1_readAllR 6 g 0 X51 >>= fun r55 => fX1_readLine_j159 g (nI N) r55.1 r55.2) else (fX1_readLine_j159 g (nI N) r35.1 X45)))) := by
    have h58 : fX1_readLine g (nI N) X = fX1_readLine_j58 g (nI N) (b01 (kd i = 14)) (nI N) (g + 1 + 1) X := by
      rw [e24]
      unfold fX1_readLine_j24
      rw [if_pos (show nI N < (24 : Int32) from nI_lt (b := 24) hN' (by decide)), gR_of C.1 C.2.1, sb, gR_of L.1 C.ar.1, sb, gI_of C.1, sb, k3]
      by_cases q : kd i = 14
      · rw [q, if_pos (by decide), b01_y rfl]
      · rw [if_neg (show ¬ nI (kd i) = (14 : Int32) from fun z => q ((nI_eq (b := 14) (by omega) (by decide)).mp z)), b01_n q]
    rw [h58]
    unfold fX1_readLine_j58
    rw [uZ_of L.2.2.1.1 L.2.2.1.2 hN' (by decide) (b01_01 _), sb, hX1, gK_of' C1.1, sb, x2, sb, gI_of C2.1, sb, P2.2.1]
  by_cases c3 : kd (i + 1) ≤ 2
  rotate_left 1
  · rw [if_pos c3] at hlR
    refine ref 1 (Or.inl rfl) FX2.1 P2 (by omega) ?_ hlR
    have hb0 : bw (nI (kd (i + 1))) 0 2 = 0 := by
      unfold bw
      rw [if_neg (show ¬ nI (kd (i + 1)) < (0 : Int32) from nI_pos (by omega)), if_pos (show (2 : Int32) < nI (kd (i + 1)) from nI_lt (a := 2) (by omega) (by omega))]
    rw [e58, f_isWithin, sb, hb0]
    dsimp only
    rw [if_pos rfl, gK_of' C2.1, sb]
    rfl
  rw [if_neg (fun z => z c3)] at hlR
  have hin1 : i + 1 < n := C.lt (by omega) (by omega)
  have L2 := C2.2.2.2.2.2.1
  generalize hX3 : wF X2 (g + 1 + 2) (va_up (xA X2 (g + 1 + 2)) N (nI (kd (i + 1)))) = X3
  have F3 : LFk X2 X3 g N cds 1 := by rw [← hX3]; exact LFk.wF (by decide) (by decide)
  have C3 := C2.ml F3.1
  have P3 : GP X3 g kd (i + 1) := by rw [← hX3]; exact P2
  obtain ⟨X4, x4, P4, f4⟩ := g_goOn C3 P3 hin1
  have F4 : GFr X3 X4 g cds := GFr.g f4
  have C4 := C3.m3 F4.1
  have L4 := C4.2.2.2.2.2.1
  have h74 : xI X4 (g + 1) 7 = nI cds := by rw [(f4.2 (g + 1) (by omega)).1, ← hX3, xI_wF, (f2.2 (g + 1) (by omega)).1, ← hX1, xI_wF]; exact h7
  generalize hX5 : wF X4 (g + 1 + 3) (va_up (xA X4 (g + 1 + 3)) N (nI cds)) = X5
  have F5 : LFk X4 X5 g N cds 2 := by rw [← hX5]; exact LFk.wF (by decide) (by decide)
  have C5 := C4.ml F5.1
  have P5 : GP X5 g kd (i + 2) := by rw [← hX5]; exact P4
  have h75 : xI X5 (g + 1) 7 = nI cds := by rw [← hX5, xI_wF]; exact h74
  have hb1 : bw (nI (kd (i + 1))) 0 2 = 1 := by
    unfold bw
    rw [if_neg (show ¬ nI (kd (i + 1)) < (0 : Int32) from nI_pos (by omega)), if_neg (show ¬ (2 : Int32) < nI (kd (i + 1)) from nI_nlt (a := 2) c3 (by decide))]
  have e35 : fX1_readLine g (nI N) X = (fX1_readAllR 6 g 0 X5 >>= fun r35 => gR r35.2 g 1 0 >>= fun q37 => gR r35.2 q37 5 3 >>= fun q39 => gR r35.2 g 1 0 >>= fun q41 => gI r35.2 q41 5 7 >>= fun v43 => uI r35.2 q39 (nI N) v43 >>= fun X45 => if (r35.1 = 0 : Prop) then (fX1_readLine_j159 g (nI N) r35.1 X45) else (gI X45 g 1 3 >>= fun v47 => if (v47 = 15 : Prop) then (gK X45 g 1 >>= fun u49 => fX1_goOn g X45 >>= fun X51 => gK X51 g 1 >>= fun u53 => fX1_readAllR 6 g 0 X51 >>= fun r55 => fX1_readLine_j159 g (nI N) r55.1 r55.2) else (fX1_readLine_j159 g (nI N) r35.1 X45))) := by
    rw [e58, f_isWithin, sb, hb1]
    dsimp only
    rw [if_neg (by decide), gR_of C2.1 C2.2.1, sb, gR_of L2.1 C2.ar.2.1, sb, gI_of C2.1, sb, P2.2.1, uI_of L2.2.2.2.1.1 L2.2.2.2.1.2 hN' (by decide), sb, hX3, gK_of' C3.1, sb, x4, sb, gR_of C4.1 C4.2.1, sb, gR_of L4.1 C4.ar.2.2.1, sb, sb, gI_of L4.1, sb, h74, uI_of L4.2.2.2.2.1.1 L4.2.2.2.2.1.2 hN' (by decide), sb, hX5, gK_of' C5.1, sb]
  have FX5 : LFk X X5 g N cds 0 := ((FX2.tr (F3.le (Nat.le_refl _) (by decide))).tr (LFk.fr F4)).tr (F5.le (Nat.le_refl _) (by decide))
  rcases c_expr C5 (show i + 2 ≤ n by omega) (show cds ≤ i + 2 by omega) P5 h75 with ⟨X6, x6, F6, i', E', t1, t2, t3, A6, t4, t5⟩ | ⟨X6, x6, F6, t1, t2, t3, t4, z, t5, t6⟩
  rotate_left 1
  · have C6 := C5.m3 F6
    have L6 := C6.2.2.2.2.2.1
    generalize hX7 : wF X6 (g + 1 + 4) (va_up (xA X6 (g + 1 + 4)) N (nI z)) = X7
    have F7 : LFk X6 X7 g N cds 3 := by rw [← hX7]; exact LFk.wF (by decide) (by decide)
    have C7 := C6.ml F7.1
    obtain ⟨X8, x8, F8, e8⟩ := c_j159f C7 hN' (by rw [← hX7, xI_wF]; exact t6)
    have e0 : lnR kd pl i N = ((tm kd pl (i + 2)).2.2.1, 0, l00) := hlR.trans (if_pos t1)
    refine ⟨0, X8, ?_, Or.inr ⟨rfl, ((FX5.1.tr (F6.wk (fun _ => SG3_L))).tr F7.1).tr F8, by rw [e0]; exact t2, by rw [e0]; exact t3, by rw [e0, e8, ← hX7, xI_wF]; exact t4⟩⟩
    rw [e35, x6, sb]
    dsimp only
    rw [gR_of C6.1 C6.2.1, sb, gR_of L6.1 C6.ar.2.2.2.1, sb, sb, gI_of L6.1, sb, t6, uI_of L6.2.2.2.2.2.1.1 L6.2.2.2.2.2.1.2 hN' (by decide), sb, hX7, if_pos rfl, x8]
  have C6 := C5.m3 F6.1
  have L6 := C6.2.2.2.2.2.1
  have hkb' := C6.kb t3
  generalize hX7 : wF X6 (g + 1 + 4) (va_up (xA X6 (g + 1 + 4)) N (nI (cds + E'.1))) = X7
  have F7 : LFk X6 X7 g N (cds + E'.1) 3 := by rw [← hX7]; exact LFk.wF (by decide) (by decide)
  have C7 := C6.ml F7.1
  have P7 : GP X7 g kd i' := by rw [← hX7]; exact A6.1
  have h77 : xI X7 (g + 1) 7 = nI (cds + E'.1) := by rw [← hX7, xI_wF]; exact A6.2.1
  have FX7 : LFk X X7 g N cds 0 := (FX5.tr (LFk.fr F6)).tr (F7.le (by omega) (by decide))
  have m1 : xA X7 (g + 1 + 1) N = b01 (kd i = 14) := by
    have := ((((LFk.fr (k := 1) (N := N) F2).tr F3).tr (LFk.fr F4)).tr (F5.le (Nat.le_refl _) (by decide))).tr ((LFk.fr F6).tr (F7.le (by omega) (by decide)))
    rw [this.2.2 1 N (by decide) (by decide) (Or.inl (by decide)), ← hX1, xA_wFe, upE]
  have m2 : xA X7 (g + 1 + 2) N = nI (kd (i + 1)) := by
    have := ((LFk.fr (k := 2) (N := N) F4).tr F5).tr ((LFk.fr F6).tr (F7.le (by omega) (by decide)))
    rw [this.2.2 2 N (by decide) (by decide) (Or.inl (by decide)), ← hX3, xA_wFe, upE]
  have m3 : xA X7 (g + 1 + 3) N = nI cds := by
    have := (LFk.fr (k := 3) (N := N) F6).tr (F7.le (cs' := cds) (by omega) (by decide))
    rw [this.2.2 3 N (by decide) (by decide) (Or.inl (by decide)), ← hX5, xA_wFe, upE]
  have m4 : xA X7 (g + 1 + 4) N = nI (cds + E'.1) := by rw [← hX7, xA_wFe, upE]
  have lnT : xLn X7 (g + 1 + 6) = T := C7.2.2.2.2.2.2.1
  have ex1 : CEx X7 (g + 1) cds E' := ⟨by rw [lnT]; omega, fun j hj => by rw [F7.2.1 _ (by omega)]; exact A6.2.2 j hj⟩
  have e45 : fX1_readLine g (nI N) X = (if (nI (kd i') = 15 : Prop) then (gK X7 g 1 >>= fun u49 => fX1_goOn g X7 >>= fun X51 => gK X51 g 1 >>= fun u53 => fX1_readAllR 6 g 0 X51 >>= fun r55 => fX1_readLine_j159 g (nI N) r55.1 r55.2) else (fX1_readLine_j159 g (nI N) 1 X7)) := by
    rw [e35, x6, sb]
    dsimp only
    rw [gR_of C6.1 C6.2.1, sb, gR_of L6.1 C6.ar.2.2.2.1, sb, sb, gI_of L6.1, sb, A6.2.1, uI_of L6.2.2.2.2.2.1.1 L6.2.2.2.2.2.1.2 hN' (by decide), sb, hX7, if_neg (by decide), gI_of C7.1, sb, P7.2.1]
  have hlE : lnR kd pl i N = if kd i' = 15 then lnW kd pl (kd i) (kd (i + 1)) E' (tm kd pl (i' + 1)) else if kd i' = 23 then (0, i' + 1, (b01 (kd i = 14), kd (i + 1), E', E0)) else (1 + 16 * pl i', 0, l00) := by
    rw [hlR, t1]
    exact if_neg (show ¬ 2 = 3 by decide)
  have hp' := hpl i' t3
  by_cases c4 : kd i' = 15
  rotate_left 1
  · rw [if_neg c4] at hlE
    rw [if_neg (show ¬ nI (kd i') = (15 : Int32) from fun z => c4 ((nI_eq (b := 15) (by omega) (by decide)).mp z))] at e45
    rcases c_j159 C7 hN' P7 t3 h77 with ⟨k23, Y, y1, FY, y2, y3, y4, y5, y6⟩ | ⟨k23, Y, y1, y2, y3⟩
    · rw [if_pos k23] at hlE
      refine ⟨1, Y, e45.trans y1, Or.inl ⟨rfl, FX7.1.tr FY.1, by rw [hlE], by rw [hlE]; exact y3, ?_, by rw [hlE]; exact y4, y5, cds + E'.1, y6, ?_, fun m hm => ?_⟩⟩
      · rw [hlE]
        show i < i' + 1
        omega
      · rw [hlE]
        show cds + E'.1 ≤ i' + 1
        omega
      · by_cases e : m = N
        · rw [if_pos e, hlE, e]
          refine ⟨(FY.2.2 1 N (by decide) (by decide) (Or.inl (by decide))).trans m1, (FY.2.2 2 N (by decide) (by decide) (Or.inl (by decide))).trans m2, cds, (FY.2.2 3 N (by decide) (by decide) (Or.inl (by decide))).trans m3, (FY.2.2 4 N (by decide) (by decide) (Or.inl (by decide))).trans m4, y2, Nat.le_refl _, ex1.lk FY (Nat.le_refl _), ?_, fun j hj => absurd hj (Nat.not_lt_zero _)⟩
          show cds + E'.1 + 0 ≤ xLn Y (g + 1 + 6)
          rw [FY.1.ln, lnT]
          omega
        · rw [if_neg e]
          exact (hD m (by omega)).lk (FX7.tr (FY.le (by omega) (by decide))) e (by omega)
    · rw [if_neg k23] at hlE
      refine ⟨0, Y, e45.trans y1, Or.inr ⟨rfl, FX7.1.tr y2, ?_, ?_, by rw [hlE]; exact y3⟩⟩
      · rw [hlE]
        show 0 < 1 + 16 * pl i'
        omega
      · rw [hlE]
        show 1 + 16 * pl i' ≤ 16005
        omega
  rw [if_pos c4] at hlE
  rw [c4, if_pos (by decide)] at e45
  have hin' : i' < n := C7.lt t3 (by omega)
  obtain ⟨X8, x8, P8, f8⟩ := g_goOn C7 P7 hin'
  have F8 : GFr X7 X8 g (cds + E'.1) := GFr.g f8
  have C8 := C7.m3 F8.1
  have h78 : xI X8 (g + 1) 7 = nI (cds + E'.1) := by rw [(f8.2 (g + 1) (by omega)).1]; exact h77
  rw [gK_of' C7.1, sb, x8, sb, gK_of' C8.1, sb] at e45
  rcases c_expr C8 (show i' + 1 ≤ n by omega) (show cds + E'.1 ≤ i' + 1 by omega) P8 h78 with ⟨X9, x9, F9, i2, E2, u1, u2, u3, A9, u4, u5⟩ | ⟨X9, x9, F9, u1, u2, u3, u4, z, u5, u6⟩
  rotate_left 1
  · have C9 := C8.m3 F9
    obtain ⟨Y, y1, FY, ey⟩ := c_j159f C9 hN' u6
    have e0 : lnR kd pl i N = ((tm kd pl (i' + 1)).2.2.1, 0, l00) := hlE.trans (if_pos u1)
    rw [x9, sb] at e45
    exact ⟨0, Y, e45.trans y1, Or.inr ⟨rfl, ((FX7.1.tr (F8.1.wk (fun _ => SG3_L))).tr (F9.wk (fun _ => SG3_L))).tr FY, by rw [e0]; exact u2, by rw [e0]; exact u3, by rw [e0, ey]; exact u4⟩⟩
  rw [x9, sb] at e45
  dsimp only at e45
  have C9 := C8.m3 F9.1
  have hlW : lnR kd pl i N = if kd i2 = 23 then (0, i2 + 1, (b01 (kd i = 14), kd (i + 1), E', E2)) else (1 + 16 * pl i2, 0, l00) := by
    rw [hlE, u1]
    exact if_neg (show ¬ 2 = 3 by decide)
  have F79 : ∀ k, LFk X7 X9 g N (cds + E'.1) k := fun k => (LFk.fr F8).tr (LFk.fr F9)
  have hp2 := hpl i2 u3
  rcases c_j159 C9 hN' A9.1 u3 A9.2.1 with ⟨k23, Y, y1, FY, y2, y3, y4, y5, y6⟩ | ⟨k23, Y, y1, y2, y3⟩
  · rw [if_pos k23] at hlW
    have F7Y : LFk X7 Y g N (cds + E'.1) 4 := (F79 4).tr (FY.le (by omega) (Nat.le_refl _))
    have lnY : xLn Y (g + 1 + 6) = T := by rw [F7Y.1.ln, lnT]
    refine ⟨1, Y, e45.trans y1, Or.inl ⟨rfl, FX7.1.tr F7Y.1, by rw [hlW], by rw [hlW]; exact y3, ?_, by rw [hlW]; exact y4, y5, cds + E'.1 + E2.1, y6, ?_, fun m hm => ?_⟩⟩
    · rw [hlW]
      show i < i2 + 1
      omega
    · rw [hlW]
      show cds + E'.1 + E2.1 ≤ i2 + 1
      omega
    · by_cases e : m = N
      · rw [if_pos e, hlW, e]
        refine ⟨(F7Y.2.2 1 N (by decide) (by decide) (Or.inl (by decide))).trans m1, (F7Y.2.2 2 N (by decide) (by decide) (Or.inl (by decide))).trans m2, cds, (F7Y.2.2 3 N (by decide) (by decide) (Or.inl (by decide))).trans m3, (F7Y.2.2 4 N (by decide) (by decide) (Or.inl (by decide))).trans m4, y2, Nat.le_refl _, ex1.lk F7Y (Nat.le_refl _), ?_, fun j hj => ?_⟩
        · show cds + E'.1 + E2.1 ≤ xLn Y (g + 1 + 6)
          rw [lnY]
          omega
        · have hj' : j < E2.1 := hj
          rw [FY.2.1 _ (by show cds + E'.1 + j < cds + E'.1 + E2.1; omega)]
          exact A9.2.2 j hj
      · rw [if_neg e]
        exact (hD m (by omega)).lk (FX7.tr (F7Y.le (by omega) (by decide))) e (by omega)
  · rw [if_neg k23] at hlW
    refine ⟨0, Y, e45.trans y1, Or.inr ⟨rfl, (FX7.1.tr (F79 0).1).tr y2, ?_, ?_, by rw [hlW]; exact y3⟩⟩
    · rw [hlW]
      show 0 < 1 + 16 * pl i2
      omega
    · rw [hlW]
      show 1 + 16 * pl i2 ≤ 16005
      omega
end CLin
