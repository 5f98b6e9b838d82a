/-! the reference's rules, on the state -/
noncomputable def kdT (c : Nat → Nat) (T : Nat) : Nat → Nat := fun j => if j = (tfin c T).2.1 then 24 else (tfin c T).2.2.1 j
noncomputable def plT (c : Nat → Nat) (T : Nat) : Nat → Nat := fun j => if j = (tfin c T).2.1 then T else (tfin c T).2.2.2 j
/-- the state after a text is read -/
def afr (t : St) (s : RS) : St := (tD t, tC t, tH t, (fun m => if s.2.2.2 = 0 ∧ m = tJ t then (qL (tM t m), qH (tM t m), qS (tM t m), s.2.1, s.2.2.1) else tM t m), tJ t, tE t, tV t, tQ t, 0, tA t)
theorem afr_L (t : St) (s : RS) (m : Nat) : qL (tM (afr t s) m) = qL (tM t m) ∧ qH (tM (afr t s) m) = qH (tM t m) ∧ qS (tM (afr t s) m) = qS (tM t m) := by
  show qL (if s.2.2.2 = 0 ∧ m = tJ t then (qL (tM t m), qH (tM t m), qS (tM t m), s.2.1, s.2.2.1) else tM t m) = _ ∧ qH (if s.2.2.2 = 0 ∧ m = tJ t then (qL (tM t m), qH (tM t m), qS (tM t m), s.2.1, s.2.2.1) else tM t m) = _ ∧ qS (if s.2.2.2 = 0 ∧ m = tJ t then (qL (tM t m), qH (tM t m), qS (tM t m), s.2.1, s.2.2.1) else tM t m) = _
  by_cases q : s.2.2.2 = 0 ∧ m = tJ t
  · rw [if_pos q]; exact ⟨rfl, rfl, rfl⟩
  · rw [if_neg q]; exact ⟨rfl, rfl, rfl⟩
theorem afr_n {t : St} {s : RS} {m : Nat} (q : ¬ (s.2.2.2 = 0 ∧ m = tJ t)) : tM (afr t s) m = tM t m := if_neg q
theorem afr_y {t : St} {s : RS} {m : Nat} (q : s.2.2.2 = 0 ∧ m = tJ t) : tM (afr t s) m = (qL (tM t m), qH (tM t m), qS (tM t m), s.2.1, s.2.2.1) := if_pos q
def KR : List Nat := [0, 2, 3, 4, 5, 6, 7, 8, 14, 15, 16, 17, 18, 19, 20, 21, 22, 23, 24, 25]
theorem m_rules {X : XW} {o : Nat} {t : St} (M : MSt X o t) (W : WSt t) (hTS : TSo (tT t) (tfin (tA t) (tT t))) : ∃ X1 k, fX10_rules o X = some (nI (rrun (kdT (tA t) (tT t)) (plT (tA t) (tT t)) k).2.2.2, X1) ∧ rtm (kdT (tA t) (tT t)) (rrun (kdT (tA t) (tT t)) (plT (tA t) (tT t)) k) ∧ mfm o KR X X1 ∧ MSt X1 o (afr t (rrun (kdT (tA t) (tT t)) (plT (tA t) (tT t)) k)) ∧ ((rrun (kdT (tA t) (tT t)) (plT (tA t) (tT t)) k).2.2.2 = 0 → (rrun (kdT (tA t) (tT t)) (plT (tA t) (tT t)) k).2.1 ≤ 24 ∧ ∀ m, m < (rrun (kdT (tA t) (tT t)) (plT (tA t) (tT t)) k).2.1 → okL ((rrun (kdT (tA t) (tT t)) (plT (tA t) (tT t)) k).2.2.1 m)) := by
  obtain ⟨M1, M2, M3, M4, M5, M6, M7, M8, M9, M10, M11⟩ := id M
  obtain ⟨W1, W2, W3, W4, W5, W6, W7, W8, W9, W10, W11, W12, W13, W14⟩ := W
  have G0 : mfm o KR X (wI X o 0 0) := mfm.wI (by decide)
  have L0 := M1.mf G0
  obtain ⟨Y, y1, y2, y3, y4, y5, y6⟩ := m_cutAll (c := tA t) (T := tT t) L0 ((xI_wn (by decide)).trans M8.1) W14.1 (fun i hi => ⟨M8.2 i hi, W14.2 i hi⟩)
  have LY := L0.mf y2
  have FY : mfm o KR X Y := G0.tr (y2.wk (by decide))
  have FY0 : mfm o [0, 2, 3, 4, 5, 6, 7, 8] X Y := (mfm.wI (k := 0) (v := 0) (by decide)).tr (y2.wk (by decide))
  generalize hY1 : wF Y (mA o 14) (va_up (xA Y (mA o 14)) 4 (nI 0)) = Y1
  have f1 : LFr Y Y1 o := by rw [← hY1]; exact LFr.wF (Or.inr ⟨rfl, Nat.le_refl _⟩)
  have L1 := LY.mf f1.1
  generalize hY2 : wI Y1 o 21 (nI 0) = Y2
  have f2 : LFr Y1 Y2 o := by rw [← hY2]; exact LFr.kg (b := 0) (mfm.wI (by decide)) (fun _ _ => ⟨rfl, rfl⟩)
  have L2 := L1.mf f2.1
  have f12 := f1.tr f2
  have G : MG Y2 o (tfin (tA t) (tT t)).2.1 (kdT (tA t) (tT t)) (plT (tA t) (tT t)) := by
    refine MG.mf (X := Y) ⟨LY, y6, fun k hk => ?_, ?_, fun j hj => ?_, if_pos rfl⟩ f12.1 KL_o
    · rw [(FY0.2.2.2 9 (by decide) (by decide) (by decide)).2]
      exact M11 k hk
    · have := hTS.1
      have := hTS.2.1
      have := W14.1
      omega
    · have h : kdT (tA t) (tT t) j = (tfin (tA t) (tT t)).2.2.1 j := if_neg (by omega)
      rw [h]
      exact ⟨(hTS.2.2 j hj).1, (hTS.2.2 j hj).2.1⟩
  have hpl : ∀ j, j ≤ (tfin (tA t) (tT t)).2.1 → plT (tA t) (tT t) j ≤ 1000 := fun j hj => by
    have := W14.1
    show (if j = (tfin (tA t) (tT t)).2.1 then tT t else (tfin (tA t) (tT t)).2.2.2 j) ≤ 1000
    by_cases e : j = (tfin (tA t) (tT t)).2.1
    · rw [if_pos e]; exact this
    · rw [if_neg e]
      have := (hTS.2.2 j (by omega)).2.2
      omega
  obtain ⟨Z, k, z1, z2, z3, z4⟩ := m_rulesL G hpl (by rw [← hY2, xI_wn (by decide), ← hY1, xI_wF]; exact y5) (by rw [← hY2, xI_wn (by decide), ← hY1, xI_wF]; exact y4) (by rw [← hY2, xA_wI, ← hY1, xA_wFe, upE]) (by rw [← hY2, xI_we])
  have LZ := L2.mf z2.1
  have fZ := f12.tr z2
  have hru : ∀ m, m < 4 → MRu Z o m (qN (tM t m)) (qF (tM t m)) := fun m hm => ((M10 m hm).2.mf FY0 (by decide)).lf fZ hm
  have FZ : mfm o KR X Z := FY.tr (fZ.1.wk (by decide))
  have hpre : fX10_rules o X = (gI Z o 10 8 >>= fun v15 => if (v15 = 0 : Prop) then (gK Z o 10 >>= fun u19 => fX10_keeps o Z >>= fun X21 => gI X21 o 10 8 >>= fun v23 => some (v23, X21)) else (gI Z o 10 8 >>= fun v17 => some (v17, Z))) := by
    have c4 : uI Y (mA o 14) 4 0 = some Y1 := by
      have := uM14 LY (i := 4) (w := nI 0) (by decide)
      rw [hY1] at this
      exact this
    unfold fX10_rules
    rw [pI_M M1, sb, gK_M L0, sb, y1, sb, rM14 LY, sb, c4, sb, pI_M L1, sb, show wI Y1 o 21 0 = Y2 from hY2, z1, sb]
  have n2 : xI Z o 2 = nI 0 := by rw [fZ.1.I (by decide)]; exact y3
  rcases z4 with ⟨f0, m8, m7, mi, mN, m14, mok, cds, m21, mc, mD⟩ | ⟨f0, f1, m8⟩
  · have hn := G.2.2.2.1
    obtain ⟨V, v1, v2, v3, v4⟩ := m_keeps LZ (m := tJ t) W6 (by rw [FZ.I (by decide)]; exact M4) m21 (by omega) mN m14 mok mD
    have LV := LZ.mf v2
    have F : mfm o KR X V := FZ.tr (v2.wk (by decide))
    have i8 : xI V o 8 = 0 := by rw [v2.I (by decide)]; exact m8
    refine ⟨V, k, ?_, z3, F, ⟨LV, by rw [F.I (k := 28) (by decide)]; exact M2, by rw [F.I (k := 29) (by decide)]; exact M3, by rw [F.I (k := 10) (by decide)]; exact M4, by rw [F.I (k := 38) (by decide)]; exact M5, by rw [F.I (k := 39) (by decide)]; exact M6, by rw [F.I (k := 40) (by decide)]; exact M7, ⟨by rw [v2.I (k := 2) (by decide)]; exact n2, fun i hi => absurd hi (Nat.not_lt_zero _)⟩, fun r hr => (M9 r hr).mf F (by decide), fun m hm => ⟨?_, ?_⟩, fun k hk => by rw [(F.2.2.2 9 (by decide) (by decide) (by decide)).2]; exact M11 k hk⟩, fun _ => ⟨mN, mok⟩⟩
    · rw [hpre, gI_M LZ, sb, m8, if_pos rfl, gK_M LZ, sb, v1, sb, gI_M LV, sb, i8, f0]
      rfl
    · rw [(afr_L _ _ m).1, (afr_L _ _ m).2.1, (afr_L _ _ m).2.2]
      exact (M10 m hm).1.mf F (by decide)
    · by_cases e : m = tJ t
      · rw [afr_y ⟨f0, e⟩, e]
        exact v3
      · rw [afr_n (fun z => e z.2)]
        exact v4 m _ _ hm e (hru m hm)
  · have nz : ¬ (rrun (kdT (tA t) (tT t)) (plT (tA t) (tT t)) k).2.2.2 = 0 := by omega
    refine ⟨Z, k, ?_, z3, FZ, ⟨LZ, by rw [FZ.I (k := 28) (by decide)]; exact M2, by rw [FZ.I (k := 29) (by decide)]; exact M3, by rw [FZ.I (k := 10) (by decide)]; exact M4, by rw [FZ.I (k := 38) (by decide)]; exact M5, by rw [FZ.I (k := 39) (by decide)]; exact M6, by rw [FZ.I (k := 40) (by decide)]; exact M7, ⟨n2, fun i hi => absurd hi (Nat.not_lt_zero _)⟩, fun r hr => (M9 r hr).mf FZ (by decide), fun m hm => ?_, fun k hk => by rw [(FZ.2.2.2 9 (by decide) (by decide) (by decide)).2]; exact M11 k hk⟩, fun z => absurd z nz⟩
    · rw [hpre, gI_M LZ, sb, m8, if_neg (nI_ne0 f0 (by omega)), sb]
    · rw [afr_n (fun z => nz z.1)]
      exact ⟨(M10 m hm).1.mf FZ (by decide), hru m hm⟩
