/-! CHANGING A READING: tune, hand, word, change -/
def upD (t : St) (r : Nat) (d : Rd) : St := ((fun j => if j = r then d else t.1 j), t.2)
theorem inv_rd {X X0 X2 : XW} {v : Nat} {t : St} {d : Rd} {K : List Nat} (I : Inv X v t) (F0 : xfm (fun a => cR v (tH t) ≤ a ∧ a < cR v (tH t) + 10) X X0) (C : CRd X0 (cR v (tH t)) d) (W : WRd d) (F : mfm (v + 127) K (wFs X0 v) X2) (hK : ∀ k, k ∈ K → k ∈ [0, 30, 31, 32, 33, 34, 35, 36, 37]) (R : MSt (wFs X0 v) (v + 127) t → MRd X2 (v + 127) (tH t) d ∧ ∀ r, r < tC t → r ≠ tH t → MRd X2 (v + 127) r (tD t r)) : Inv X2 v (upD t (tH t) d) := by
  obtain ⟨W1, W2, W3, W4, W5, W6, W7, W8⟩ := id I.2.2.1
  have hcv : v + 55 ≤ cR v (tH t) ∧ cR v (tH t) < v + 86 := by unfold cR; omega
  refine inv_op I (F0.wk (fun a ha => by unfold SC; omega)) ?_ ?_ F ?_
  · obtain ⟨L, C1, C2, C3, C4, C5, C6, C7, C8, C9⟩ := I.1
    have ev : xI X0 v = xI X v := (F0.2 v (by omega)).1
    refine ⟨L.mv F0, by rw [ev]; exact C1, by rw [ev]; exact C2, by rw [ev]; exact C3, by rw [ev]; exact C4, by rw [ev]; exact C5, by rw [ev]; exact C6, C7.mf F0 (by omega) (by omega), fun r hr => ?_, fun m hm => (C9 m hm).mf F0 (by unfold cM; omega) (fun a ha => by unfold SC; omega)⟩
    show CRd X0 (cR v r) (if r = tH t then d else tD t r)
    by_cases e : r = tH t
    · rw [if_pos e, e]; exact C
    · rw [if_neg e]
      refine (C8 r hr).mf F0 (fun a q1 q2 q3 => ?_)
      unfold cR at q1 q2 q3
      omega
  · refine ⟨W1, W2, W3, fun r hr => ?_, fun r h1 h2 => ?_, W6, W7, W8⟩
    · show WRd (if r = tH t then d else tD t r)
      by_cases e : r = tH t
      · rw [if_pos e]; exact W
      · rw [if_neg e]; exact W4 r hr
    · show (if r = tH t then d else tD t r) = d0
      have h1' : tC t ≤ r := h1
      rw [if_neg (by omega)]
      exact W5 r h1 h2
  · intro M
    obtain ⟨R1, R2⟩ := R M
    obtain ⟨M1, M2, M3, M4, M5, M6, M7, M8, M9, M10, M11⟩ := M
    have nk : ∀ k, k ∉ [0, 30, 31, 32, 33, 34, 35, 36, 37] → k ∉ K := fun k h q => h (hK k q)
    have nK : ∀ (l : List Nat), (∀ k, k ∈ [0, 30, 31, 32, 33, 34, 35, 36, 37] → k ∉ l) → ∀ k, k ∈ K → k ∉ l := fun l h k q => h k (hK k q)
    refine ⟨M1.mf F, by rw [F.I (nk 28 (by decide))]; exact M2, by rw [F.I (nk 29 (by decide))]; exact M3, by rw [F.I (nk 10 (by decide))]; exact M4, by rw [F.I (nk 38 (by decide))]; exact M5, by rw [F.I (nk 39 (by decide))]; exact M6, by rw [F.I (nk 40 (by decide))]; exact M7, M8.mf F (nK [1, 2] (by decide)), fun r hr => ?_, fun m hm => ⟨(M10 m hm).1.mf F (nK [11, 12, 13] (by decide)), (M10 m hm).2.mf F (nK [14, 15, 16, 17, 18, 19, 20] (by decide))⟩, fun k hk => by rw [(F.2.2.2 9 (by decide) (by decide) (nk 9 (by decide))).2]; exact M11 k hk⟩
    show MRd X2 (v + 127) r (if r = tH t then d else tD t r)
    by_cases e : r = tH t
    · rw [if_pos e, e]; exact R1
    · rw [if_neg e]; exact R2 r hr e
theorem ps_up {f : Nat → Nat} {k x : Nat} : ∀ n, ps (fun j => if j = k then x else f j) n + (if k < n then f k else 0) = ps f n + (if k < n then x else 0)
  | 0 => rfl
  | n + 1 => by
    have ih := ps_up (f := f) (k := k) (x := x) n
    show ps (fun j => if j = k then x else f j) n + (if n = k then x else f n) + _ = ps f n + f n + _
    by_cases e : n = k
    · subst e
      rw [if_neg (Nat.lt_irrefl _), if_neg (Nat.lt_irrefl _)] at ih
      rw [if_pos rfl, if_pos (Nat.lt_succ_self _), if_pos (Nat.lt_succ_self _)]
      omega
    · rw [if_neg e]
      by_cases q : k < n
      · rw [if_pos q, if_pos q] at ih
        rw [if_pos (by omega), if_pos (by omega)]
        omega
      · rw [if_neg q, if_neg q] at ih
        rw [if_neg (by omega), if_neg (by omega)]
        omega
section Wrd
variable {X : XW} {v : Nat} {t : St}
theorem p_tune (I : Inv X v t) (n : Int32) : ∃ a X1 X2 t', fX9_tune v n X = some (a, X1) ∧ fX10_tune (v + 127) n X1 = some (a, X2) ∧ Inv X2 v t' := by
  have W := I.2.2.1
  have W3 := W.2.2.1
  have W2 := W.2.1
  rcases bw01 n 0 3 with h | h
  · refine ⟨0, X, wI X (v + 127) 0 0, t, f_tune_f h, ?_, I.mf (K := [0]) (mfm.wI (by decide)) (by decide)⟩
    unfold fX10_tune
    rw [pI_M I.2.1.1, sb]
    rcases bw_0 h with q | q
    · rw [if_pos q]
    · rw [if_neg q, ite_self]
  · obtain ⟨q1, q2⟩ := bw_1 h
    obtain ⟨k, k1, k2, rfl⟩ := bw_n 0 3 (by decide) (by decide) h
    have hc := f_tune_t I.1.1 I.1.2.2.1 (show tH t < 4 by omega) h
    have F0 : xfm (fun a => cR v (tH t) ≤ a ∧ a < cR v (tH t) + 10) X (wI X (cR v (tH t)) 8 (nI k)) := xfm.wI (by omega)
    have F1 : xfm (SC v) X (wFs (wI X (cR v (tH t)) 8 (nI k)) v) := (F0.wk (fun a ha => by unfold SC; unfold cR at ha; omega)).tr ((wFs_f _ v).wk (fun a ha => by unfold SC; omega))
    have M := I.2.1.xf F1 (fun a q1 q2 => by unfold SC; omega)
    generalize hY : wFs (wI X (cR v (tH t)) 8 (nI k)) v = Y at *
    have G0 : mfm (v + 127) [0, 36] Y (wI Y (v + 127) 0 0) := mfm.wI (by decide)
    have F := G0.tr (mfm.wF (k := 36) (f := va_up (xA Y (mA (v + 127) 36)) (tH t) (nI k)) (by decide) (by decide) (by decide))
    have L0 := M.1.mf G0
    have i29 : xI (wI Y (v + 127) 0 0) (v + 127) 29 = nI (tH t) := by rw [xI_wn (by decide)]; exact M.2.2.1
    refine ⟨1, Y, wF (wI Y (v + 127) 0 0) (mA (v + 127) 36) (va_up (xA Y (mA (v + 127) 36)) (tH t) (nI k)), upD t (tH t) (dW (tD t (tH t)), dS (tD t (tH t)), dT (tD t (tH t)), dB (tD t (tH t)), dN (tD t (tH t)), dC (tD t (tH t)), k, dM (tD t (tH t))), hc, ?_, ?_⟩
    rotate_left 1
    · subst hY
      refine inv_rd (d := (dW (tD t (tH t)), dS (tD t (tH t)), dT (tD t (tH t)), dB (tD t (tH t)), dN (tD t (tH t)), dC (tD t (tH t)), k, dM (tD t (tH t)))) I F0 ?_ ?_ F (by decide) ?_
      · obtain ⟨c1, c2, c3, c4⟩ := I.1.2.2.2.2.2.2.2.2.1 (tH t) (by omega)
        exact ⟨(xI_wn (by decide)).trans c1, (xI_wn (by decide)).trans c2, xI_we, c4⟩
      · obtain ⟨w1, w2, w3, w4⟩ := W.2.2.2.1 (tH t) (by omega)
        exact ⟨w1, w2, k2, w4⟩
      · intro M
        have M9 := M.2.2.2.2.2.2.2.2.1
        have e : ∀ r, MRd (wI (wFs (wI X (cR v (tH t)) 8 (nI k)) v) (v + 127) 0 0) (v + 127) r (tD t r) → ∀ d u, xA (wF (wI (wFs (wI X (cR v (tH t)) 8 (nI k)) v) (v + 127) 0 0) (mA (v + 127) 36) (va_up (xA (wFs (wI X (cR v (tH t)) 8 (nI k)) v) (mA (v + 127) 36)) (tH t) (nI k))) (mA (v + 127) 36) r = nI u → d = (dW (tD t r), dS (tD t r), dT (tD t r), dB (tD t r), dN (tD t r), dC (tD t r), u, dM (tD t r)) → MRd (wF (wI (wFs (wI X (cR v (tH t)) 8 (nI k)) v) (v + 127) 0 0) (mA (v + 127) 36) (va_up (xA (wFs (wI X (cR v (tH t)) 8 (nI k)) v) (mA (v + 127) 36)) (tH t) (nI k))) (v + 127) r d := by
          rintro r ⟨r1, r2, r3, r4⟩ d u hu rfl
          refine ⟨?_, hu, fun j hj => ?_, fun w i hw hi => ?_⟩
          · rw [xA_wFm (by decide) (by decide) (by decide)]; exact r1
          · unfold MWd
            rw [xA_wFm (by decide) (by decide) (by decide), xA_wFm (by decide) (by decide) (by decide), xA_wFm (by decide) (by decide) (by decide), xA_wFm (by decide) (by decide) (by decide), xA_wFm (by decide) (by decide) (by decide)]
            exact r3 j hj
          · rw [xA_wFm (by decide) (by decide) (by decide)]
            exact r4 w i hw hi
        have MR : ∀ r, r < tC t → MRd (wI (wFs (wI X (cR v (tH t)) 8 (nI k)) v) (v + 127) 0 0) (v + 127) r (tD t r) := fun r hr => (M9 r hr).mf (K := [0]) (mfm.wI (by decide)) (by decide)
        refine ⟨e _ (MR _ W3) _ k (by rw [xA_wFe, upE]) rfl, fun r hr hne => e r (MR r hr) _ (dU (tD t r)) ?_ rfl⟩
        rw [xA_wFe, upN hne]
        exact (M9 r hr).2.1
    · unfold fX10_tune
      rw [pI_M M.1, sb, if_neg q1, if_pos q2, rM36 L0, sb, gI_M L0, sb, i29, uM36 L0 (by omega), sb]
      rfl
theorem bw_xsv {w : Nat} (hw : w < 3) {x : Int32} (h : bw x (xsv 0 w) (xsv 1 w) = 1) : ∃ n : Nat, n ≤ 99 ∧ x = nI n := by
  match w, hw with
  | 0, _ =>
    obtain ⟨n, -, h2, h3⟩ := bw_n 1 99 (by decide) (by decide) h
    exact ⟨n, h2, h3⟩
  | 1, _ =>
    obtain ⟨n, -, h2, h3⟩ := bw_n 0 99 (by decide) (by decide) h
    exact ⟨n, h2, h3⟩
  | 2, _ =>
    obtain ⟨n, -, h2, h3⟩ := bw_n 0 9 (by decide) (by decide) h
    exact ⟨n, by omega, h3⟩
theorem m_hand28 {Y : XW} {o hd N : Nat} (L : LM Y o) (h29 : xI Y o 29 = nI hd) (hs : fX10_soundsOf o (nI hd) Y = some (nI N, Y)) (i x : Int32) {wt le mo : Int32} : fX10_hand_j28 o i wt x le mo Y = (if i < 0 ∨ nI N ≤ i ∨ wt < 0 ∨ 2 < wt ∨ (¬ x = -1 ∧ bw x le mo = 0) then some (0, Y) else fX10_hand_j74 o i wt x Y) := by
  unfold fX10_hand_j28
  by_cases h1 : i < 0
  · rw [if_pos h1, if_pos (Or.inl h1)]
  rw [if_neg h1, gI_M L, sb, h29, gK_M L, sb, hs, sb]
  dsimp only
  by_cases h2 : nI N ≤ i
  · rw [if_pos h2, if_pos (Or.inr (Or.inl h2))]
  rw [if_neg h2]
  by_cases h3 : wt < 0
  · rw [if_pos h3, if_pos (Or.inr (Or.inr (Or.inl h3)))]
  rw [if_neg h3]
  by_cases h4 : 2 < wt
  · rw [if_pos h4, if_pos (Or.inr (Or.inr (Or.inr (Or.inl h4))))]
  rw [if_neg h4]
  by_cases h5 : x = -1
  · rw [if_pos h5, if_neg (fun q => q.elim h1 (fun q => q.elim h2 (fun q => q.elim h3 (fun q => q.elim h4 (fun q => q.1 h5)))))]
  rw [if_neg h5]
  rcases bw01 x le mo with q | q
  · rw [if_pos (Or.inr (Or.inr (Or.inr (Or.inr ⟨h5, q⟩))))]
    rcases bw_0 q with z | z
    · rw [if_pos z]
    · rw [if_neg z, ite_self]
  · obtain ⟨z1, z2⟩ := bw_1 q
    rw [if_neg z1, if_pos z2, if_neg (fun y => y.elim h1 (fun y => y.elim h2 (fun y => y.elim h3 (fun y => y.elim h4 (fun y => by rw [q] at y; exact absurd y.2 (by decide))))))]
theorem m_hand0 {Y : XW} {o hd N : Nat} (L : LM Y o) (h29 : xI (wI Y o 0 0) o 29 = nI hd) (hs : fX10_soundsOf o (nI hd) (wI Y o 0 0) = some (nI N, wI Y o 0 0)) (i x wt : Int32) : fX10_hand o i wt x Y = (if i < 0 ∨ nI N ≤ i ∨ wt < 0 ∨ 2 < wt ∨ (¬ x = -1 ∧ bw x (if wt = 0 then 1 else 0) (if wt = 2 then 9 else 99) = 0) then some (0, wI Y o 0 0) else fX10_hand_j74 o i wt x (wI Y o 0 0)) := by
  have L0 : LM (wI Y o 0 0) o := L.mv (tr1 rfl)
  unfold fX10_hand fX10_hand_j14
  rw [pI_M L, sb]
  by_cases a : wt = 0
  · rw [if_pos a]
    by_cases b : wt = 2
    · rw [if_pos b, m_hand28 L0 h29 hs]
      simp only [if_pos a, if_pos b]
    · rw [if_neg b, m_hand28 L0 h29 hs]
      simp only [if_pos a, if_neg b]
  · rw [if_neg a]
    by_cases b : wt = 2
    · rw [if_pos b, m_hand28 L0 h29 hs]
      simp only [if_neg a, if_pos b]
    · rw [if_neg b, m_hand28 L0 h29 hs]
      simp only [if_neg a, if_neg b]
theorem lim_w {w : Nat} (hw : w < 3) : (if nI w = 0 then (1 : Int32) else 0) = xsv 0 w ∧ (if nI w = 2 then (9 : Int32) else 99) = xsv 1 w := by
  match w, hw with
  | 0, _ => decide
  | 1, _ => decide
  | 2, _ => decide
theorem p_hand (I : Inv X v t) (i wt x : Int32) : ∃ a X1 X2 t', fX9_hand v i wt x X = some (a, X1) ∧ fX10_hand (v + 127) i wt x X1 = some (a, X2) ∧ Inv X2 v t' := by
  have W := I.2.2.1
  have W3 := W.2.2.1
  have W2 := W.2.1
  have Wd := W.2.2.2.1 (tH t) (by omega)
  have W80 := Wd.z
  have CR := I.1.2.2.2.2.2.2.2.2.1 (tH t) (by omega)
  have snd : ∀ {Y : XW}, MSt Y (v + 127) t → fX10_soundsOf (v + 127) (nI (tH t)) (wI Y (v + 127) 0 0) = some (nI (dZ (tD t (tH t))), wI Y (v + 127) 0 0) ∧ xI (wI Y (v + 127) 0 0) (v + 127) 29 = nI (tH t) := fun {Y} M => by
    have M0 := M.mf (X1 := wI Y (v + 127) 0 0) (K := [0]) (mfm.wI (by decide)) (by decide)
    exact ⟨m_soundsOf M0.1 (show tH t < 4 by omega) (M0.2.2.2.2.2.2.2.2.1 _ W3) Wd, M0.2.2.1⟩
  by_cases h : i < 0 ∨ nI (dZ (tD t (tH t))) ≤ i ∨ wt < 0 ∨ 2 < wt ∨ (¬ x = -1 ∧ bw x (if wt = 0 then 1 else 0) (if wt = 2 then 9 else 99) = 0)
  · refine ⟨0, X, wI X (v + 127) 0 0, t, f_hand_f I.1.1 I.1.2.2.1 (show tH t < 4 by omega) CR.2.1 ?_, ?_, I.mf (K := [0]) (mfm.wI (by decide)) (by decide)⟩
    · by_cases h1 : i < 0
      · exact Or.inl h1
      by_cases h2 : nI (dZ (tD t (tH t))) ≤ i
      · exact Or.inr (Or.inl h2)
      by_cases h3 : wt < 0
      · exact Or.inr (Or.inr (Or.inl h3))
      obtain ⟨w, hw, rfl⟩ := nI_of h3
      by_cases h4 : w < 3
      · refine Or.inr (Or.inr (Or.inr (Or.inr ⟨w, h4, rfl, fun q => ?_⟩)))
        have h5 : ¬ (2 : Int32) < nI w := nI_nlt (a := 2) (by omega) (by decide)
        obtain ⟨z1, z2⟩ := (((h.resolve_left h1).resolve_left h2).resolve_left h3).resolve_left h5
        rw [(lim_w h4).1, (lim_w h4).2] at z2
        rcases q with q | q
        · exact z1 q
        · rw [q] at z2
          exact absurd z2 (by decide)
      · exact Or.inr (Or.inr (Or.inr (Or.inl (nI_nlt (b := 3) (by omega) hw))))
    · rw [m_hand0 I.2.1.1 (snd I.2.1).2 (snd I.2.1).1, if_pos h]
  · have h1 : ¬ i < 0 := fun q => h (Or.inl q)
    have h2 : ¬ nI (dZ (tD t (tH t))) ≤ i := fun q => h (Or.inr (Or.inl q))
    have h3 : ¬ wt < 0 := fun q => h (Or.inr (Or.inr (Or.inl q)))
    have h4 : ¬ 2 < wt := fun q => h (Or.inr (Or.inr (Or.inr (Or.inl q))))
    obtain ⟨w, hw, rfl⟩ := nI_of h3
    have hw3 : w < 3 := by
      by_cases z : w < 3
      · exact z
      · exact absurd (nI_lt (a := 2) (by omega) hw) h4
    obtain ⟨k, hk, rfl⟩ := nI_of h1
    have hkz : k < dZ (tD t (tH t)) := by
      by_cases z : k < dZ (tD t (tH t))
      · exact z
      · exact absurd (nI_le (by omega) hk) h2
    have hok : markOk w x := by
      by_cases z : x = -1
      · exact Or.inl z
      · rcases bw01 x (xsv 0 w) (xsv 1 w) with y | y
        · refine absurd (Or.inr (Or.inr (Or.inr (Or.inr ⟨z, ?_⟩)))) h
          rw [(lim_w hw3).1, (lim_w hw3).2]
          exact y
        · exact Or.inr y
    have hc := f_hand_t I.1.1 I.1.2.2.1 (show tH t < 4 by omega) CR.2.1 W80 hkz hw3 hok
    generalize hX0 : wF X (cR v (tH t) + 7 + w) (va_up (xA X (cR v (tH t) + 7 + w)) k x) = X0 at hc
    have F0 : xfm (fun a => cR v (tH t) ≤ a ∧ a < cR v (tH t) + 10) X X0 := by rw [← hX0]; exact xfm.wF (by omega)
    have F1 : xfm (SC v) X (wFs X0 v) := (F0.wk (fun a ha => by unfold SC; unfold cR at ha; omega)).tr ((wFs_f _ v).wk (fun a ha => by unfold SC; omega))
    have M := I.2.1.xf F1 (fun a q1 q2 => by unfold SC; omega)
    have hs := snd M
    generalize hY : wFs X0 v = Y at *
    have G0 : mfm (v + 127) [0, 37] Y (wI Y (v + 127) 0 0) := mfm.wI (by decide)
    have L0 := M.1.mf G0
    have F := G0.tr (mfm.wF (k := 37) (f := va_up (xA Y (mA (v + 127) 37)) (3 * (80 * tH t + k) + w) x) (by decide) (by decide) (by decide))
    refine ⟨1, Y, wF (wI Y (v + 127) 0 0) (mA (v + 127) 37) (va_up (xA Y (mA (v + 127) 37)) (3 * (80 * tH t + k) + w) x), upD t (tH t) (dW (tD t (tH t)), dS (tD t (tH t)), dT (tD t (tH t)), dB (tD t (tH t)), dN (tD t (tH t)), dC (tD t (tH t)), dU (tD t (tH t)), fun a b => if a = w ∧ b = k then x else dM (tD t (tH t)) a b), hc, ?_, ?_⟩
    rotate_left 1
    · subst hY
      refine inv_rd (d := (dW (tD t (tH t)), dS (tD t (tH t)), dT (tD t (tH t)), dB (tD t (tH t)), dN (tD t (tH t)), dC (tD t (tH t)), dU (tD t (tH t)), fun a b => if a = w ∧ b = k then x else dM (tD t (tH t)) a b)) I F0 ?_ ?_ F (by decide) ?_
      · obtain ⟨c1, c2, c3, c4, c5, c6⟩ := CR
        rw [← hX0]
        refine ⟨c1, c2, c3, fun j hj => ?_, fun j h1 h2 => ?_, fun a b ha hb => ?_⟩
        · unfold CWd
          rw [xA_wFn (by omega), xA_wFn (by omega), xA_wFn (by omega), xA_wFn (by omega), xA_wFn (by omega)]
          exact c4 j hj
        · rw [xA_wFn (by omega)]
          exact c5 j h1 h2
        · show _ = if a = w ∧ b = k then x else dM (tD t (tH t)) a b
          by_cases e : a = w
          · subst e
            rw [xA_wFe]
            by_cases e2 : b = k
            · rw [e2, upE, if_pos ⟨rfl, rfl⟩]
            · rw [upN e2, if_neg (fun q => e2 q.2)]
              exact c6 a b ha hb
          · rw [xA_wFn (by omega), if_neg (fun q => e q.1)]
            exact c6 a b ha hb
      · obtain ⟨w1, w2, w3, w4, w5⟩ := Wd
        refine ⟨w1, w2, w3, fun a b ha hb => ?_, fun a b ha hb hz => ?_⟩
        · show (if a = w ∧ b = k then x else dM (tD t (tH t)) a b) = -1 ∨ ∃ n : Nat, n ≤ 99 ∧ (if a = w ∧ b = k then x else dM (tD t (tH t)) a b) = nI n
          by_cases e : a = w ∧ b = k
          · rw [if_pos e]
            exact hok.imp id (fun q => bw_xsv hw3 q)
          · rw [if_neg e]
            exact w4 a b ha hb
        · show (if a = w ∧ b = k then x else dM (tD t (tH t)) a b) = -1
          have hz' : dZ (tD t (tH t)) ≤ b := hz
          rw [if_neg (fun q => by omega)]
          exact w5 a b ha hb hz
      · intro M
        have M9 := M.2.2.2.2.2.2.2.2.1
        have e : ∀ r, r < tC t → ∀ g, (∀ a b, a < 3 → b < 80 → va_up (xA (wFs X0 v) (mA (v + 127) 37)) (3 * (80 * tH t + k) + w) x (3 * (80 * r + b) + a) = g a b) → MRd (wF (wI (wFs X0 v) (v + 127) 0 0) (mA (v + 127) 37) (va_up (xA (wFs X0 v) (mA (v + 127) 37)) (3 * (80 * tH t + k) + w) x)) (v + 127) r (dW (tD t r), dS (tD t r), dT (tD t r), dB (tD t r), dN (tD t r), dC (tD t r), dU (tD t r), g) := by
          intro r hr g hg
          obtain ⟨r1, r2, r3, r4⟩ := (M9 r hr).mf (X1 := wI (wFs X0 v) (v + 127) 0 0) (K := [0]) (mfm.wI (by decide)) (by decide)
          refine ⟨?_, ?_, fun j hj => ?_, fun a b ha hb => ?_⟩
          · rw [xA_wFm (by decide) (by decide) (by decide)]; exact r1
          · rw [xA_wFm (by decide) (by decide) (by decide)]; exact r2
          · unfold MWd
            rw [xA_wFm (by decide) (by decide) (by decide), xA_wFm (by decide) (by decide) (by decide), xA_wFm (by decide) (by decide) (by decide), xA_wFm (by decide) (by decide) (by decide), xA_wFm (by decide) (by decide) (by decide)]
            exact r3 j hj
          · rw [xA_wFe]
            exact hg a b ha hb
        refine ⟨e _ W3 _ (fun a b ha hb => ?_), fun r hr hne => e r hr (dM (tD t r)) (fun a b ha hb => ?_)⟩
        · show _ = if a = w ∧ b = k then x else dM (tD t (tH t)) a b
          by_cases q : a = w ∧ b = k
          · rw [if_pos q, q.1, q.2, upE]
          · rw [if_neg q, upN (by omega)]
            exact (M9 _ W3).2.2.2 a b ha hb
        · rw [upN (by omega)]
          exact (M9 r hr).2.2.2 a b ha hb
    · rw [m_hand0 M.1 hs.2 hs.1, if_neg h]
      unfold fX10_hand_j74
      rw [rM37 L0, sb, gI_M L0, sb, hs.2, Lt80, nI_mul, nI_add, Lt3, nI_mul, nI_add, uM37 L0 (by omega), sb]
      rfl
end Wrd
