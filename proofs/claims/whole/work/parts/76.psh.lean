/-! shape: both sides -/
section Psh
variable {X : XW} {v : Nat} {t : St}
theorem Inv.wz (I : Inv X v t) {n : Nat} (h : X.1 ≤ n) : Inv (wZ X n) v t := I.ag ⟨h, fun _ _ => ⟨rfl, rfl, rfl, rfl, rfl, rfl⟩⟩
theorem Inv.out (I : Inv X v t) {i : Nat} {w : Int64} : Inv (wL X (v + 169) i w) v t := by
  have F : xfm (fun a => a = v + 169) X (wL X (v + 169) i w) := ⟨rfl, fun a ha => ⟨rfl, rfl, funext fun j => if_neg (fun z => ha z.1)⟩⟩
  exact ⟨I.1.xf F (by omega) (by omega) (by omega) (fun a q1 q2 => by omega) (fun m hm => by unfold cM; omega) (fun a ha => Or.inr (by omega)), I.2.1.xf F (fun a q1 q2 => by omega), I.2.2.1, I.2.2.2.1.mf F (fun a q1 q2 => by omega), I.2.2.2.2.1.mf F (fun a q1 q2 => by omega), I.2.2.2.2.2.1.mv F, I.2.2.2.2.2.2⟩
theorem c_shape_f (I : Inv X v t) {i w : Int32} (h : i < 0 ∨ nI (dZ (tD t (tH t))) ≤ i ∨ w < 0 ∨ 5 < w) : ∃ X1, fX9_shape v i w X = some (none, X1) ∧ Inv X1 v t := by
  obtain ⟨X1, h1, I1, S⟩ := f_sih I
  have Ls := I1.1.1.sh (s := v + 7) (Or.inl rfl)
  refine ⟨X1, ?_, I1⟩
  unfold fX9_shape fX9_shape_j17
  rw [gK_of' I.1.1.1, sb, h1, sb]
  dsimp only
  by_cases c1 : i < 0
  · rw [if_pos c1]
  rw [if_neg c1, gI_of (show xKd X1 (v + 7) = 6 + 1 from Ls.1), sb, S.2.1]
  by_cases c2 : i < nI (dZ (tD t (tH t)))
  rotate_left 1
  · rw [if_neg c2]
  rw [if_pos c2]
  have c3 : w < 0 ∨ 5 < w := by
    rcases h with h | h | h
    · exact absurd h c1
    · exact absurd c2 (Int32.not_lt.mpr h)
    · exact h
  have ne : ∀ k : Int32, 0 ≤ k → k ≤ 5 → ¬ w = k := fun k h0 h5 e => by
    rw [e] at c3
    rcases c3 with z | z
    · exact absurd h0 (Int32.not_le.mpr z)
    · exact absurd h5 (Int32.not_le.mpr z)
  rw [if_neg (ne 0 (by decide) (by decide)), if_neg (ne 1 (by decide) (by decide)), if_neg (ne 2 (by decide) (by decide)), if_neg (ne 3 (by decide) (by decide)), if_neg (ne 4 (by decide) (by decide)), if_neg (ne 5 (by decide) (by decide))]
theorem c_shape_t (I : Inv X v t) {i w : Nat} (hi : i < dZ (tD t (tH t))) (hw : w ≤ 5) : ∃ X1, fX9_shape v (nI i) (nI w) X = some (some (shV t (tD t (tH t)) i w), X1) ∧ Inv X1 v t := by
  obtain ⟨X1, h1, I1, S⟩ := f_sih I
  have Ls := I1.1.1.sh (s := v + 7) (Or.inl rfl)
  have W := I.2.2.1
  have W3 := W.2.2.1
  have W2 := W.2.1
  have Wd := W.2.2.2.1 (tH t) (by omega)
  have W80 := Wd.z
  obtain ⟨S1, S2, S3, S4, S5, S6⟩ := S
  have ra : ∀ k, k < 14 → aI X1 (v + 7 + 10 + k) 1 (nI i) = some (xA X1 (v + 7 + 10 + k) i) := fun k hk => by
    have := (Ls.2.2.2.2.2.2.2.2.2.2.2.2.2 k hk).2
    exact aI_of (t := 1) this.1 this.2 (by omega) (by decide)
  have rk : ∀ q, 3 ≤ q → q < 12 → xA X1 (v + 7 + 10 + q) i = kq (tD t (tH t)) (tE t) i q := fun q h3 h12 => by
    obtain ⟨p, k, u, hp, e⟩ := plc_ex (tE t) hi
    subst e
    rw [kq_e hp]
    exact S3 p k u hp hi q h3 h12
  have pre : fX9_shape v (nI i) (nI w) X = (if nI w = 0 then (gR X1 (v + 7) 6 1 >>= fun q7 => aQ X1 q7 6 13 >>= fun q9 => aI X1 q9 1 (nI i) >>= fun v11 => some (some v11, X1)) else (if nI w = 1 then (gR X1 (v + 7) 6 1 >>= fun q13 => aQ X1 q13 6 1 >>= fun q15 => aI X1 q15 1 (nI i) >>= fun v17 => some (some v17, X1)) else (if nI w = 2 then (gR X1 (v + 7) 6 1 >>= fun q19 => aQ X1 q19 6 2 >>= fun q21 => aI X1 q21 1 (nI i) >>= fun v23 => some (some v23, X1)) else (if nI w = 3 then (gR X1 (v + 7) 6 1 >>= fun q25 => aQ X1 q25 6 11 >>= fun q27 => aI X1 q27 1 (nI i) >>= fun v29 => some (some v29, X1)) else (if nI w = 4 then (gR X1 (v + 7) 6 1 >>= fun q31 => aQ X1 q31 6 9 >>= fun q33 => aI X1 q33 1 (nI i) >>= fun v35 => some (some v35, X1)) else (if nI w = 5 then (gR X1 (v + 7) 6 1 >>= fun q37 => aQ X1 q37 6 0 >>= fun q39 => aI X1 q39 1 (nI i) >>= fun v41 => some (some v41, X1)) else (some (none, X1)))))))) := by
    unfold fX9_shape
    rw [gK_of' I.1.1.1, sb, h1, sb]
    dsimp only
    rw [if_neg (nI_pos (by omega)), gI_of (show xKd X1 (v + 7) = 6 + 1 from Ls.1), sb, S2, if_pos (nI_lt hi (by omega))]
  refine ⟨X1, ?_, I1⟩
  rw [pre]
  match w, hw with
  | 0, _ => rw [if_pos (by decide), sR1 Ls, sb, rwQ13 Ls, sb, ra 13 (by decide), sb, S5 i hi]; rfl
  | 1, _ => rw [if_neg (by decide), if_pos (by decide), sR1 Ls, sb, rwQ1 Ls, sb, ra 1 (by decide), sb, S4 i 1 hi (by decide)]; rfl
  | 2, _ => rw [if_neg (by decide), if_neg (by decide), if_pos (by decide), sR1 Ls, sb, rwQ2 Ls, sb, ra 2 (by decide), sb, S4 i 2 hi (by decide)]; rfl
  | 3, _ => rw [if_neg (by decide), if_neg (by decide), if_neg (by decide), if_pos (by decide), sR1 Ls, sb, rwQ11 Ls, sb, ra 11 (by decide), sb, rk 11 (by decide) (by decide)]; rfl
  | 4, _ => rw [if_neg (by decide), if_neg (by decide), if_neg (by decide), if_neg (by decide), if_pos (by decide), sR1 Ls, sb, rwQ9 Ls, sb, ra 9 (by decide), sb, rk 9 (by decide) (by decide)]; rfl
  | 5, _ => rw [if_neg (by decide), if_neg (by decide), if_neg (by decide), if_neg (by decide), if_neg (by decide), if_pos (by decide), sR1 Ls, sb, rwQ0 Ls, sb, ra 0 (by decide), sb, S4 i 0 hi (by decide)]; rfl
theorem m_shape_t2 (I : Inv X v t) {i w : Nat} (hi : i < dZ (tD t (tH t))) (hw : w ≤ 5) : ∃ X1, fX10_shape (v + 127) (nI i) (nI w) X = some (shV t (tD t (tH t)) i w, X1) ∧ Inv X1 v t ∧ xI X1 (v + 127) 0 = 0 ∧ xL X1 (v + 169) = xL X (v + 169) := by
  have W := I.2.2.1
  have W3 := W.2.2.1
  have W2 := W.2.1
  have Wd := W.2.2.2.1 (tH t) (by omega)
  have W80 := Wd.z
  obtain ⟨M1, M2, M3, M4, M5, M6, M7, M8, M9, M10, M11⟩ := id I.2.1
  have hs := m_soundsOf M1 (show tH t < 4 by omega) (M9 _ W3) Wd
  have F0 : mfm (v + 127) [0] X (wI X (v + 127) 0 0) := mfm.wI (by decide)
  have I0 := I.mf F0 (by decide)
  obtain ⟨X1, h1, F, I1, P, V⟩ := m_shs I0 W3
  have L0 := I0.2.1.1
  have L1 := I1.2.1.1
  have i0 : xI (wI X (v + 127) 0 0) (v + 127) 0 = 0 := by rw [xI_wI, if_pos ⟨rfl, rfl⟩]
  refine ⟨X1, ?_, I1, by rw [F.I (by decide)]; exact i0, ((F.2.1 (v + 169) (by omega)).2.2).trans ((F0.2.1 (v + 169) (by omega)).2.2)⟩
  have ht := m_tl I1 Wd V hi
  obtain ⟨p, k, u, hp, e⟩ := plc_ex (tE t) hi
  have hpl := P.2.2.1 p k u hp (by rw [← e]; exact hi)
  rw [← e] at hpl
  have k11 : kq (tD t (tH t)) (tE t) i 11 = nI k := by rw [e, kq_e hp]; rfl
  have k9 : kq (tD t (tH t)) (tE t) i 9 = nI p := by rw [e, kq_e hp]; rfl
  have v0 : xA X1 (mA (v + 127) 52) (3 * i) = gT t (tD t (tH t)) i 0 := V i 0 hi (by decide)
  unfold fX10_shape fX10_shape_j31
  rw [if_neg (nI_pos (by omega)), gI_M M1, sb, M3, gK_M M1, sb, hs, sb]
  dsimp only
  rw [if_neg (nI_ge hi (by omega)), if_neg (nI_pos (by omega)), if_neg (show ¬ (5 : Int32) < nI w from nI_nlt (a := 5) hw (by decide)), pI_M M1, sb, gI_M L0, sb, i0, if_pos (by decide), gI_M L0, sb, I0.2.1.2.2.1, gK_M L0, sb, h1, sb]
  unfold shV
  match w, hw with
  | 0, _ =>
    rw [if_pos (by decide), gK_M L1, sb, ht, sb, if_pos rfl]
  | 1, _ =>
    rw [if_neg (by decide), if_pos (by decide), rM52 L1, sb, Lt3, nI_mul, nI_1, aM52 L1 (by omega), sb, V i 1 hi (by decide)]
    rfl
  | 2, _ =>
    rw [if_neg (by decide), if_neg (by decide), if_pos (by decide), rM52 L1, sb, Lt3, nI_mul, Lt2, nI_add, aM52 L1 (by omega), sb, V i 2 hi (by decide)]
    rfl
  | 3, _ =>
    rw [if_neg (by decide), if_neg (by decide), if_neg (by decide), if_pos (by decide), rM48 L1, sb, aM48 L1 (by omega), sb, hpl.1, k11]
    rfl
  | 4, _ =>
    rw [if_neg (by decide), if_neg (by decide), if_neg (by decide), if_neg (by decide), if_pos (by decide), rM49 L1, sb, aM49 L1 (by omega), sb, hpl.2.1, k9]
    rfl
  | 5, _ =>
    rw [if_neg (by decide), if_neg (by decide), if_neg (by decide), if_neg (by decide), if_neg (by decide), rM52 L1, sb, Lt3, nI_mul, aM52 L1 (by omega), sb, v0]
    rfl
/-- the law's case of shape -/
theorem p_shape (I : Inv X v t) (i w : Int32) : ∃ r, fX9_shape v i w X = some r ∧ ((∃ a X1, r.1 = some a ∧ uL r.2 (v + 169) 0 a.toInt64 = some X1 ∧ (∃ b, aL X1 (v + 169) 0 = some b ∧ b = a.toInt64) ∧ ∃ X2, fX10_shape (v + 127) i w X1 = some (a, X2) ∧ Inv X2 v t ∧ xI X2 (v + 127) 0 = 0 ∧ aL X2 (v + 169) 0 = some a.toInt64) ∨ (r.1 = none ∧ ∀ n, r.2.1 ≤ n → ∃ X2, fX10_shape (v + 127) i w (wZ r.2 n) = some (0, X2) ∧ Inv X2 v t ∧ xI X2 (v + 127) 0 = 1)) := by
  by_cases h : i < 0 ∨ nI (dZ (tD t (tH t))) ≤ i ∨ w < 0 ∨ 5 < w
  · obtain ⟨X1, h1, I1⟩ := c_shape_f I h
    refine ⟨_, h1, Or.inr ⟨rfl, fun n hn => ?_⟩⟩
    obtain ⟨X2, g1, g2, g3⟩ := m_shape_f (I1.wz hn) h
    exact ⟨X2, g1, g2, g3⟩
  · have n1 : ¬ i < 0 := fun z => h (Or.inl z)
    have n3 : ¬ w < 0 := fun z => h (Or.inr (Or.inr (Or.inl z)))
    obtain ⟨i', hi', rfl⟩ := nI_of n1
    obtain ⟨w', hw', rfl⟩ := nI_of n3
    have W := I.2.2.1
    have W3 := W.2.2.1
    have W2 := W.2.1
    have W80 := (W.2.2.2.1 (tH t) (by omega)).z
    have hi : i' < dZ (tD t (tH t)) := by
      by_cases q : i' < dZ (tD t (tH t))
      · exact q
      · exact absurd (Or.inr (Or.inl (nI_le (by omega) hi'))) h
    have hw : w' ≤ 5 := by
      by_cases q : w' ≤ 5
      · exact q
      · exact absurd (Or.inr (Or.inr (Or.inr (show (5 : Int32) < nI w' from nI_lt (a := 5) (by omega) hw')))) h
    obtain ⟨X1, h1, I1⟩ := c_shape_t I hi hw
    have a169 := I1.2.2.2.2.2.1
    generalize hY : wL X1 (v + 169) 0 (shV t (tD t (tH t)) i' w').toInt64 = Y
    have IY : Inv Y v t := by rw [← hY]; exact I1.out
    have eL : xL Y (v + 169) 0 = (shV t (tD t (tH t)) i' w').toInt64 := by rw [← hY]; exact if_pos ⟨rfl, rfl⟩
    have rd : ∀ {Z : XW}, ar Z (v + 169) 22 1 → aL Z (v + 169) 0 = some (xL Z (v + 169) 0) := fun {Z} hZ => by
      unfold aL
      rw [if_pos ⟨hZ.1, by rw [hZ.2]; decide⟩]
      rfl
    obtain ⟨X2, g1, g2, g3, g4⟩ := m_shape_t2 IY hi hw
    refine ⟨_, h1, Or.inl ⟨_, Y, rfl, ?_, ⟨_, rd IY.2.2.2.2.2.1, eL⟩, X2, g1, g2, g3, ?_⟩⟩
    · have := uL_of (i := 0) (w := (shV t (tD t (tH t)) i' w').toInt64) a169.1 a169.2 (by decide) (by decide)
      rw [hY] at this
      exact this
    · rw [rd g2.2.2.2.2.2.1, g4, eL]
end Psh
