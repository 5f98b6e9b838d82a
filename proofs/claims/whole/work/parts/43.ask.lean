/-! ASKING: phrases, phrase, fit, shape, apart -/
def pers : List Nat := [1, 2, 9, 10, 11, 12, 13, 14, 15, 16, 17, 18, 19, 20, 28, 29, 30, 31, 32, 33, 34, 35, 36, 37, 38, 39, 40]
theorem MSt.mf {o : Nat} {X X1 : XW} {t : St} {K : List Nat} (M : MSt X o t) (F : mfm o K X X1) (hK : ∀ k, k ∈ K → k ∉ pers) : MSt X1 o t := by
  have e : ∀ k, k ∈ pers → k ∉ K := fun k hk q => hK k q hk
  have eA : ∀ k, k ∈ pers → k < 57 → tMt.getD k 0 ≠ 0 → xA X1 (mA o k) = xA X (mA o k) := fun k h0 h1 h2 => F.A (e k h0) h1 h2
  have eL : xL X1 (mA o 9) = xL X (mA o 9) := (F.2.2.2 9 (by decide) (by decide) (e 9 (by decide))).2
  obtain ⟨m1, m2⟩ := M
  refine ⟨m1.mf F, ?_⟩
  unfold MTp MRd MWd MMn MRu MLn MEx at *
  rw [F.I (k := 28) (e 28 (by decide)), F.I (k := 29) (e 29 (by decide)), F.I (k := 10) (e 10 (by decide)), F.I (k := 38) (e 38 (by decide)), F.I (k := 39) (e 39 (by decide)), F.I (k := 40) (e 40 (by decide)), F.I (k := 2) (e 2 (by decide)), eA 1 (by decide) (by decide) (by decide), eL, eA 11 (by decide) (by decide) (by decide), eA 12 (by decide) (by decide) (by decide), eA 13 (by decide) (by decide) (by decide), eA 14 (by decide) (by decide) (by decide), eA 15 (by decide) (by decide) (by decide), eA 16 (by decide) (by decide) (by decide), eA 17 (by decide) (by decide) (by decide), eA 18 (by decide) (by decide) (by decide), eA 19 (by decide) (by decide) (by decide), eA 20 (by decide) (by decide) (by decide), eA 30 (by decide) (by decide) (by decide), eA 31 (by decide) (by decide) (by decide), eA 32 (by decide) (by decide) (by decide), eA 33 (by decide) (by decide) (by decide), eA 34 (by decide) (by decide) (by decide), eA 35 (by decide) (by decide) (by decide), eA 36 (by decide) (by decide) (by decide), eA 37 (by decide) (by decide) (by decide)]
  exact m2
/-- a change in the reference's cells leaves the class's state -/
theorem CSt.mx {v : Nat} {X X1 : XW} {t : St} {K : List Nat} (C : CSt X v t) (F : mfm (v + 127) K X X1) : CSt X1 v t := by
  have G := F.xf
  obtain ⟨L, C1, C2, C3, C4, C5, C6, C7, C8, C9⟩ := C
  refine ⟨L.mv G, ?_⟩
  rw [(G.2 v (by omega)).1]
  exact ⟨C1, C2, C3, C4, C5, C6, C7.mf G (by omega) (by omega), fun r hr => (C8 r hr).mf G (fun a q1 q2 => by unfold cR at q1 q2; omega), fun m hm => (C9 m hm).mf G (by unfold cM; omega) (fun a ha => by omega)⟩
theorem Inv.mf {v : Nat} {X X1 : XW} {t : St} {K : List Nat} (I : Inv X v t) (F : mfm (v + 127) K X X1) (hK : ∀ k, k ∈ K → k ∉ pers) : Inv X1 v t := by
  obtain ⟨C, M, W, c1, c2, l1, z1⟩ := I
  exact ⟨C.mx F, M.mf F hK, W, c1.mf F.xf (fun a q1 q2 => by omega), c2.mf F.xf (fun a q1 q2 => by omega), l1.mv F.xf, by rw [F.xf.sz]; exact z1⟩
theorem iMn_nI {a b : Nat} (ha : a < 2 ^ 31) (hb : b < 2 ^ 31) : iMn (nI a) (nI b) = nI (min a b) := by
  unfold iMn
  by_cases h : b < a
  · rw [if_pos (nI_lt h ha), Nat.min_eq_right (by omega)]
  · rw [if_neg (nI_nlt (by omega) hb), Nat.min_eq_left (by omega)]
/-- the first place that is unlike: told by what holds of it -/
def fuP (c : Nat) (al : Nat → Prop) (r : Nat) : Prop := r ≤ c ∧ (∀ j, j < r → al j) ∧ (r < c → ¬ al r)
theorem fuP.un {c r r' : Nat} {al : Nat → Prop} (h : fuP c al r) (h' : fuP c al r') : r = r' := by
  obtain ⟨a1, a2, a3⟩ := h
  obtain ⟨b1, b2, b3⟩ := h'
  by_cases q : r < r'
  · exact absurd (b2 r q) (a3 (by omega))
  · by_cases q2 : r' < r
    · exact absurd (a2 r' q2) (b3 (by omega))
    · omega
section Ask
variable {X : XW} {v : Nat} {t : St}
theorem f_sih (I : Inv X v t) : ∃ X1, fX9_shapeInHand v X = some (v + 7, X1) ∧ Inv X1 v t ∧ CSh X1 (v + 7) (tD t (tH t)) t := by
  obtain ⟨X1, h1, F, h2, h3, I1⟩ := f_prepare I (s := v + 7) (Or.inl rfl) I.2.2.1.2.2.1
  refine ⟨X1, ?_, I1, h3⟩
  have L := I.1.1
  have L1 := I1.1.1
  unfold fX9_shapeInHand
  rw [gR_of L.1 L.2.2.2.2.2.1, sb, gI_of L.1, sb, I.1.2.2.1, gK_of' L.1, sb, h1, sb, gR_of L1.1 L1.2.2.2.2.2.1, sb]
theorem m_fp (I : Inv X v t) : ∃ X1, (∀ {β : Type} (f : XW → Option β), (pI X (v + 127) 10 0 0 >>= fun X1 => gI X1 (v + 127) 10 29 >>= fun v3 => gK X1 (v + 127) 10 >>= fun _ => fX10_findPhrases (v + 127) v3 X1 >>= f) = f X1) ∧ Inv X1 v t ∧ MPh X1 (v + 127) (tD t (tH t)) (tE t) := by
  obtain ⟨C, M, W, -⟩ := id I
  have L := M.1
  have W3 := W.2.2.1
  have W2 := W.2.1
  have F0 : mfm (v + 127) [0] X (wI X (v + 127) 0 0) := mfm.wI (by decide)
  have M0 := M.mf F0 (by decide)
  obtain ⟨X1, h1, F1, P⟩ := m_findPhrases M0.1 (show tH t < 4 by omega) (M0.2.2.2.2.2.2.2.2.1 (tH t) W3) (W.2.2.2.1 _ (by omega)) M0.2.2.2.2.1 W.2.2.2.2.2.2.2.2.1
  refine ⟨X1, fun f => ?_, (I.mf F0 (by decide)).mf F1 (by decide), P⟩
  rw [pI_M L, sb, gI_M M0.1, sb, M0.2.2.1, gK_M M0.1, sb, h1, sb]
theorem p_phrases (I : Inv X v t) : ∃ a X1 X2, fX9_phrases v X = some (a, X1) ∧ fX10_phrases (v + 127) X1 = some (a, X2) ∧ Inv X2 v t := by
  obtain ⟨X1, h1, I1, S1⟩ := f_sih I
  obtain ⟨X2, h2, I2, P2⟩ := m_fp I1
  refine ⟨nI (pN (tD t (tH t)) (tE t)), X1, X2, ?_, ?_, I2⟩
  · have L := I1.1.1.sh (Or.inl rfl)
    unfold fX9_phrases
    rw [gK_of' I.1.1.1, sb, h1, sb]
    dsimp only
    rw [sR0 L, sb, tI L, sb, S1.1.1]
  · unfold fX10_phrases
    rw [h2, gI_M I2.2.1.1, sb, P2.1]
theorem p_phrase (I : Inv X v t) (a b : Int32) : ∃ x X1 X2, fX9_phrase v a b X = some (x, X1) ∧ fX10_phrase (v + 127) a b X1 = some (x, X2) ∧ Inv X2 v t := by
  obtain ⟨X1, h1, I1, S1⟩ := f_sih I
  obtain ⟨X2, h2, I2, P2⟩ := m_fp I1
  obtain ⟨S0, -⟩ := S1
  have L := I1.1.1.sh (Or.inl rfl)
  have M := I2.2.1.1
  have W := I.2.2.1
  have W3 := W.2.2.1
  have W2 := W.2.1
  have Wd := W.2.2.2.1 (tH t) (by omega)
  have hpn := pN_le (tD t (tH t)) (tE t)
  have w16 := Wd.1
  have e1 : fX9_phrase v a b X = (if (a < 0 : Prop) then some ((-1), X1) else if (a < nI (pN (tD t (tH t)) (tE t)) : Prop) then (if b = 0 then (aI X1 (v + 7 + 2) 1 a >>= fun v11 => some (v11, X1)) else if b = 1 then (aI X1 (v + 7 + 3) 1 a >>= fun v11 => some (v11, X1)) else if b = 2 then (aI X1 (v + 7 + 4) 1 a >>= fun v11 => some (v11, X1)) else if b = 3 then (aI X1 (v + 7 + 5) 1 a >>= fun v11 => some (v11, X1)) else if b = 4 then some (nI (lC (tD t (tH t)) (tE t) 0), X1) else some ((-1), X1)) else some ((-1), X1)) := by
    have hz : aI X1 (v + 7 + 7) 1 0 = some (xA X1 (v + 7 + 7) 0) := tA5 L (i := 0) (by decide)
    have hz2 := S0.2.1 0 (Nat.zero_le _)
    unfold fX9_phrase
    rw [gK_of' I.1.1.1, sb, h1, sb]
    dsimp only
    rw [sR0 L, sb, tI L, sb, S0.1, tR0 L, sb, tR1 L, sb, tR2 L, sb, tR3 L, sb, tR5 L, sb, hz, sb, hz2]
  have e2 : fX10_phrase (v + 127) a b X1 = (if (a < 0 : Prop) then some ((-1), X2) else if (a < nI (pN (tD t (tH t)) (tE t)) : Prop) then (if b = 0 then (aI X2 (mA (v + 127) 43) 1 a >>= fun v11 => some (v11, X2)) else if b = 1 then (aI X2 (mA (v + 127) 44) 1 a >>= fun v11 => some (v11, X2)) else if b = 2 then (aI X2 (mA (v + 127) 45) 1 a >>= fun v11 => some (v11, X2)) else if b = 3 then (fX10_accents (v + 127) (nI (tH t)) a X2 >>= fun r19 => some (r19.1, r19.2)) else if b = 4 then some (nI (lC (tD t (tH t)) (tE t) 0), X2) else some ((-1), X2)) else some ((-1), X2)) := by
    have hz : aI X2 (mA (v + 127) 41) 1 0 = some (xA X2 (mA (v + 127) 41) 0) := aM41 M (i := 0) (by decide)
    have hz2 := P2.2.1 0 (Nat.zero_le _)
    unfold fX10_phrase
    rw [h2, gI_M M, sb, P2.1, rM43 M, sb, rM44 M, sb, rM45 M, sb, gI_M M, sb, I2.2.1.2.2.1, gK_M M, sb, rM41 M, sb, hz, sb, hz2]
  rw [e1]
  by_cases h0 : a < 0
  · exact ⟨_, X1, X2, if_pos h0, by rw [e2, if_pos h0], I2⟩
  rw [if_neg h0]
  by_cases h3 : a < nI (pN (tD t (tH t)) (tE t))
  rotate_left 1
  · exact ⟨_, X1, X2, if_neg h3, by rw [e2, if_neg h0, if_neg h3], I2⟩
  rw [if_pos h3]
  obtain ⟨k, hk, rfl⟩ := nI_of h0
  have hk2 := (nI_ltI hk (by omega)).mp h3
  obtain ⟨s2, s3, s4, s5, -⟩ := S0.2.2 k hk2
  obtain ⟨m3, m4, m5⟩ := P2.2.2 k hk2
  rw [if_neg h0, if_pos h3] at e2
  by_cases b0 : b = 0
  · exact ⟨_, X1, X2, by rw [if_pos b0, tA0 L (by omega), sb, s2], by rw [e2, if_pos b0, aM43 M (by omega), sb, m3], I2⟩
  by_cases b1 : b = 1
  · exact ⟨_, X1, X2, by rw [if_neg b0, if_pos b1, tA1 L (by omega), sb, s3], by rw [e2, if_neg b0, if_pos b1, aM44 M (by omega), sb, m4], I2⟩
  by_cases b2 : b = 2
  · exact ⟨_, X1, X2, by rw [if_neg b0, if_neg b1, if_pos b2, tA2 L (by omega), sb, s4], by rw [e2, if_neg b0, if_neg b1, if_pos b2, aM45 M (by omega), sb, m5], I2⟩
  by_cases b3 : b = 3
  · have ha := m_accents M (show tH t < 4 by omega) (I2.2.1.2.2.2.2.2.2.2.2.1 (tH t) W3) Wd P2 hk2
    exact ⟨_, X1, _, by rw [if_neg b0, if_neg b1, if_neg b2, if_pos b3, tA3 L (by omega), sb, s5], by rw [e2, if_neg b0, if_neg b1, if_neg b2, if_pos b3, ha, sb], I2.mf (mfm.wF (K := [46]) (by decide) (by decide) (by decide)) (by decide)⟩
  by_cases b4 : b = 4
  · exact ⟨_, X1, X2, by rw [if_neg b0, if_neg b1, if_neg b2, if_neg b3, if_pos b4], by rw [e2, if_neg b0, if_neg b1, if_neg b2, if_neg b3, if_pos b4], I2⟩
  · exact ⟨_, X1, X2, by rw [if_neg b0, if_neg b1, if_neg b2, if_neg b3, if_neg b4], by rw [e2, if_neg b0, if_neg b1, if_neg b2, if_neg b3, if_neg b4], I2⟩
theorem ft01 (sl : Nat) (h : Nat → Int32) : ∀ k, ft sl h k = 0 ∨ ft sl h k = 1
  | 0 => Or.inr rfl
  | k + 1 => b01_01 _
theorem p_fit (I : Inv X v t) : ∃ a X1 X2, fX9_fit v X = some (a, X1) ∧ fX10_fit (v + 127) X1 = some (a, X2) ∧ Inv X2 v t := by
  obtain ⟨X1, h1, I1, S1⟩ := f_sih I
  obtain ⟨M1, M2, M3, M4, M5, M6, M7, M8, M9, M10, M11⟩ := I1.2.1
  have W := I.2.2.1
  have W3 := W.2.2.1
  have W2 := W.2.1
  have W6 := W.2.2.2.2.2.1
  obtain ⟨k1, k2, k3, k4, k5⟩ := W.2.2.2.2.2.2.1 (tJ t) W6
  obtain ⟨X2, h2, F⟩ := m_fit M1 (show tH t < 4 by omega) M3 (M9 _ W3) (W.2.2.2.1 _ (by omega)) M5 W.2.2.2.2.2.2.2.2.1 W6 M4 (M10 _ W6).1 k1 k2 k4 (M10 _ W6).2 k5
  refine ⟨_, X1, X2, ?_, h2, I1.mf F (by decide)⟩
  have L := I1.1.1.sh (Or.inl rfl)
  have s4 := S1.2.2.2.2.2
  unfold fX9_fit
  rw [gK_of' I.1.1.1, sb, h1, sb]
  dsimp only
  rw [sI L, sb, s4]
  show _ = some (ft (qS (tM t (tJ t))) (fun i => gT t (tD t (tH t)) i 1) (dZ (tD t (tH t)) - 1), X1)
  rcases ft01 (qS (tM t (tJ t))) (fun i => gT t (tD t (tH t)) i 1) (dZ (tD t (tH t)) - 1) with e | e
  · rw [e, if_pos rfl]
  · rw [e, if_neg (by decide)]
/-- what shape answers -/
def shV (t : St) (d : Rd) (i w : Nat) : Int32 := if w = 0 then tl t d i else if w = 1 then gT t d i 1 else if w = 2 then gT t d i 2 else if w = 3 then kq d (tE t) i 11 else if w = 4 then kq d (tE t) i 9 else gT t d i 0
theorem m_shs (I : Inv X v t) {r : Nat} (hr : r < tC t) : ∃ X1, fX10_shapes (v + 127) (nI r) X = some X1 ∧ mfm (v + 127) [26, 27, 41, 42, 43, 44, 45, 46, 47, 48, 49, 50, 51, 52] X X1 ∧ Inv X1 v t ∧ MLay X1 (v + 127) (tD t r) (tE t) ∧ MVal X1 (v + 127) (tD t r) (gT t (tD t r)) := by
  obtain ⟨M1, M2, M3, M4, M5, M6, M7, M8, M9, M10, M11⟩ := I.2.1
  have W := I.2.2.1
  have W2 := W.2.1
  have W6 := W.2.2.2.2.2.1
  obtain ⟨k1, k2, k3, k4, k5⟩ := W.2.2.2.2.2.2.1 (tJ t) W6
  obtain ⟨X1, h1, F, P, V⟩ := m_shapes M1 (show r < 4 by omega) (M9 _ hr) (W.2.2.2.1 _ (by omega)) M5 W.2.2.2.2.2.2.2.2.1 W6 M4 (M10 _ W6).1 (M10 _ W6).2 k5
  exact ⟨X1, h1, F, I.mf F (by decide), P, V⟩
theorem m_tl (I : Inv X v t) {d : Rd} (W : WRd d) (V : MVal X (v + 127) d (gT t d)) {i : Nat} (hi : i < dZ d) : fX10_told (v + 127) (nI i) X = some (tl t d i, X) := by
  obtain ⟨M1, M2, M3, M4, M5, M6, M7, M8, M9, M10, M11⟩ := I.2.1
  have w := I.2.2.1
  exact m_told M1 W V M6 M7 w.2.2.2.2.2.2.2.2.2.2.2.1 w.2.2.2.2.2.2.2.2.2.2.2.2.1 hi
theorem m_shape_t (I : Inv X v t) {i w : Nat} (hi : i < dZ (tD t (tH t))) (hw : w ≤ 5) : ∃ X1, fX10_shape (v + 127) (nI i) (nI w) X = some (shV t (tD t (tH t)) i w, X1) ∧ Inv X1 v t ∧ xI X1 (v + 127) 0 = 0 := by
  have W := I.2.2.1
  have W3 := W.2.2.1
  have W2 := W.2.1
  have Wd := W.2.2.2.1 (tH t) (by omega)
  have W80 := Wd.z
  obtain ⟨M1, M2, M3, M4, M5, M6, M7, M8, M9, M10, M11⟩ := id I.2.1
  have hs := m_soundsOf M1 (show tH t < 4 by omega) (M9 _ W3) Wd
  have F0 : mfm (v + 127) [0] X (wI X (v + 127) 0 0) := mfm.wI (by decide)
  have I0 := I.mf F0 (by decide)
  obtain ⟨X1, h1, F, I1, P, V⟩ := m_shs I0 W3
  have L0 := I0.2.1.1
  have L1 := I1.2.1.1
  have i0 : xI (wI X (v + 127) 0 0) (v + 127) 0 = 0 := by rw [xI_wI, if_pos ⟨rfl, rfl⟩]
  refine ⟨X1, ?_, I1, by rw [F.I (by decide)]; exact i0⟩
  have ht := m_tl I1 Wd V hi
  obtain ⟨p, k, u, hp, e⟩ := plc_ex (tE t) hi
  have hpl := P.2.2.1 p k u hp (by rw [← e]; exact hi)
  rw [← e] at hpl
  have k11 : kq (tD t (tH t)) (tE t) i 11 = nI k := by rw [e, kq_e hp]; rfl
  have k9 : kq (tD t (tH t)) (tE t) i 9 = nI p := by rw [e, kq_e hp]; rfl
  have v0 : xA X1 (mA (v + 127) 52) (3 * i) = gT t (tD t (tH t)) i 0 := V i 0 hi (by decide)
  unfold fX10_shape fX10_shape_j31
  rw [if_neg (nI_pos (by omega)), gI_M M1, sb, M3, gK_M M1, sb, hs, sb]
  dsimp only
  rw [if_neg (nI_ge hi (by omega)), if_neg (nI_pos (by omega)), if_neg (show ¬ (5 : Int32) < nI w from nI_nlt (a := 5) hw (by decide)), pI_M M1, sb, gI_M L0, sb, i0, if_pos (by decide), gI_M L0, sb, I0.2.1.2.2.1, gK_M L0, sb, h1, sb]
  unfold shV
  match w, hw with
  | 0, _ =>
    rw [if_pos (by decide), gK_M L1, sb, ht, sb, if_pos rfl]
  | 1, _ =>
    rw [if_neg (by decide), if_pos (by decide), rM52 L1, sb, Lt3, nI_mul, nI_1, aM52 L1 (by omega), sb, V i 1 hi (by decide)]
    rfl
  | 2, _ =>
    rw [if_neg (by decide), if_neg (by decide), if_pos (by decide), rM52 L1, sb, Lt3, nI_mul, Lt2, nI_add, aM52 L1 (by omega), sb, V i 2 hi (by decide)]
    rfl
  | 3, _ =>
    rw [if_neg (by decide), if_neg (by decide), if_neg (by decide), if_pos (by decide), rM48 L1, sb, aM48 L1 (by omega), sb, hpl.1, k11]
    rfl
  | 4, _ =>
    rw [if_neg (by decide), if_neg (by decide), if_neg (by decide), if_neg (by decide), if_pos (by decide), rM49 L1, sb, aM49 L1 (by omega), sb, hpl.2.1, k9]
    rfl
  | 5, _ =>
    rw [if_neg (by decide), if_neg (by decide), if_neg (by decide), if_neg (by decide), if_neg (by decide), rM52 L1, sb, Lt3, nI_mul, aM52 L1 (by omega), sb, v0]
    rfl
theorem m_shape_f (I : Inv X v t) {i w : Int32} (h : i < 0 ∨ nI (dZ (tD t (tH t))) ≤ i ∨ w < 0 ∨ 5 < w) : ∃ X1, fX10_shape (v + 127) i w X = some (0, X1) ∧ Inv X1 v t ∧ xI X1 (v + 127) 0 = 1 := by
  have W := I.2.2.1
  have W3 := W.2.2.1
  have W2 := W.2.1
  have Wd := W.2.2.2.1 (tH t) (by omega)
  obtain ⟨M1, M2, M3, M4, M5, M6, M7, M8, M9, M10, M11⟩ := id I.2.1
  have hs := m_soundsOf M1 (show tH t < 4 by omega) (M9 _ W3) Wd
  have F0 : mfm (v + 127) [0] X (wI X (v + 127) 0 1) := mfm.wI (by decide)
  have I0 := I.mf F0 (by decide)
  have i0 : xI (wI X (v + 127) 0 1) (v + 127) 0 = 1 := by rw [xI_wI, if_pos ⟨rfl, rfl⟩]
  have L0 := I0.2.1.1
  have h30 : fX10_shape_j30 (v + 127) i w (v + 127) X = some (0, wI X (v + 127) 0 1) := by
    unfold fX10_shape_j30 fX10_shape_j31
    rw [pI_M M1, sb, gI_M L0, sb, i0, if_neg (by decide)]
  refine ⟨_, ?_, I0, i0⟩
  unfold fX10_shape
  by_cases h1 : i < 0
  · rw [if_pos h1, h30]
  rw [if_neg h1, gI_M M1, sb, M3, gK_M M1, sb, hs, sb]
  dsimp only
  by_cases h2 : nI (dZ (tD t (tH t))) ≤ i
  · rw [if_pos h2, h30]
  rw [if_neg h2]
  by_cases h3 : w < 0
  · rw [if_pos h3, h30]
  rw [if_neg h3]
  by_cases h4 : 5 < w
  · rw [if_pos h4, h30]
  · exact absurd h (fun q => q.elim h1 (fun q => q.elim h2 (fun q => q.elim h3 h4)))
/-- is the syllable its phrase's last -/
def eF (d : Rd) (id i : Nat) : Int32 := b01 (kq d id i 4 = 0)
theorem eF_m {o : Nat} {d : Rd} {id : Nat} (W : WRd d) (P : MLay X o d id) {i : Nat} (hi : i < dZ d) : xA X (mA o 51) i = eF d id i := by
  obtain ⟨p, k, u, hp, rfl⟩ := plc_ex id hi
  rw [(P.2.2.1 p k u hp hi).2.2.2]
  unfold eF
  rw [kq_e hp]
  obtain ⟨b1, b2⟩ := plc_b hp
  have W80 := W.z
  have ez : ps (dS d) (fs d id (p + 1)) ≤ dZ d := ps_mono (fs_le d id (p + 1))
  have e4b : pS d id p = ps (dS d) (fs d id (p + 1)) - ps (dS d) (fs d id p) := rfl
  have epl : plN d id p k u = ps (dS d) k + u - ps (dS d) (fs d id p) := rfl
  refine b01_c ?_
  show plN d id p k u = pS d id p - 1 ↔ nI (pS d id p - 1 - (ps (dS d) k + u - ps (dS d) (fs d id p))) = 0
  rw [nI_z (by omega)]
  omega
abbrev alk (t : St) (d e : Rd) (i : Nat) : Prop := tl t d i = tl t e i ∧ gT t d i 1 = gT t e i 1 ∧ gT t d i 2 = gT t e i 2 ∧ eF d (tE t) i = eF e (tE t) i
theorem f_alike {s s' : Nat} {d e : Rd} (L : LSh X s) (L' : LSh X s') (S : CSh X s d t) (S' : CSh X s' e t) (W : WRd d) {i : Nat} (hi : i < dZ d) (hi' : i < dZ e) : fX6_isAlikeAt s s' (nI i) X = some (b01 (alk t d e i), X) := by
  have W80 := W.z
  have i80 : i < 80 := by omega
  obtain ⟨-, -, s3, s4, s5, -⟩ := S
  obtain ⟨-, -, r3, r4, r5, -⟩ := S'
  have k1 : xA X (s + 10 + 4) i = kq d (tE t) i 4 := by
    obtain ⟨p, k, u, hp, rfl⟩ := plc_ex (tE t) hi
    rw [kq_e hp]
    exact s3 p k u hp hi 4 (by decide) (by decide)
  have k2 : xA X (s' + 10 + 4) i = kq e (tE t) i 4 := by
    obtain ⟨p, k, u, hp, rfl⟩ := plc_ex (tE t) hi'
    rw [kq_e hp]
    exact r3 p k u hp hi' 4 (by decide) (by decide)
  have h75 : ∀ x, fX6_isAlikeAt_j75 s' (nI i) x X = some (b01 (x = eF e (tE t) i), X) := by
    intro x
    unfold fX6_isAlikeAt_j75 fX6_isAlikeAt_j91
    rw [sR1 L', sb, rwQ4 L', sb, rwA L' (by decide) i80, sb, k2]
    unfold eF
    by_cases q : kq e (tE t) i 4 = 0
    · rw [if_pos q, b01_y q]
      by_cases q2 : x = 1
      · rw [if_pos q2, b01_y q2]
      · rw [if_neg q2, b01_n q2]
    · rw [if_neg q, b01_n q]
      by_cases q2 : x = 0
      · rw [if_pos q2, b01_y q2]
      · rw [if_neg q2, b01_n q2]
  unfold fX6_isAlikeAt
  rw [sR1 L, sb, rwQ13 L, sb, rwA L (by decide) i80, sb, s5 i hi, sR1 L', sb, rwQ13 L', sb, rwA L' (by decide) i80, sb, r5 i hi']
  by_cases c1 : tl t d i = tl t e i
  rotate_left 1
  · rw [if_neg c1, b01_n (fun q => c1 q.1)]
  rw [if_pos c1, sb, rwQ1 L, sb, rwA L (by decide) i80, sb, s4 i 1 hi (by decide), sb, rwQ1 L', sb, rwA L' (by decide) i80, sb, r4 i 1 hi' (by decide)]
  by_cases c2 : gT t d i 1 = gT t e i 1
  rotate_left 1
  · rw [if_neg c2, b01_n (fun q => c2 q.2.1)]
  rw [if_pos c2, sb, rwQ2 L, sb, rwA L (by decide) i80, sb, s4 i 2 hi (by decide), sb, rwQ2 L', sb, rwA L' (by decide) i80, sb, r4 i 2 hi' (by decide)]
  by_cases c3 : gT t d i 2 = gT t e i 2
  rotate_left 1
  · rw [if_neg c3, b01_n (fun q => c3 q.2.2.1)]
  rw [if_pos c3, sb, rwQ4 L, sb, rwA L (by decide) i80, sb, k1, h75, h75]
  have e1 : b01 (alk t d e i) = b01 (eF d (tE t) i = eF e (tE t) i) := b01_c ⟨fun q => q.2.2.2, fun q => ⟨c1, c2, c3, q⟩⟩
  rw [e1]
  by_cases q : kq d (tE t) i 4 = 0
  · rw [if_pos q, show eF d (tE t) i = 1 from b01_y q]
  · rw [if_neg q, show eF d (tE t) i = 0 from b01_n q]
/-- the answer of apart -/
def apV (n m r : Nat) : Int32 := if r = min n m then (if n = m then -1 else nI r) else nI r
theorem f_unlike {s s' : Nat} {d e : Rd} (L : LSh X s) (L' : LSh X s') (S : CSh X s d t) (S' : CSh X s' e t) (W : WRd d) (W' : WRd e) : ∃ r, fuP (min (dZ d) (dZ e)) (alk t d e) r ∧ fX6_firstUnlike s s' X = some (apV (dZ d) (dZ e) r, X) := by
  have W80 := W.z
  have W81 := W'.z
  generalize hc : min (dZ d) (dZ e) = c
  have c80 : c ≤ 80 := by omega
  have key := iterP2 (b := fun rec => fX6_firstUnlike_l14_b rec s s' (nI c)) (z := fun _ _ => none) (fun m a Z => ∃ i, i ≤ c ∧ m = c - i ∧ a = nI i ∧ Z = X ∧ ∀ j, j < i → alk t d e j) (fun y => ∃ r, fuP c (alk t d e) r ∧ y = (apV (dZ d) (dZ e) r, X)) ?_ FU c (nI 0) X (FUlt (by omega)) ⟨0, Nat.zero_le _, rfl, rfl, rfl, fun j hj => absurd hj (Nat.not_lt_zero _)⟩
  · obtain ⟨y, h1, r, h2, rfl⟩ := key
    refine ⟨r, h2, ?_⟩
    unfold fX6_firstUnlike
    rw [sI L, sb, sI L', sb, S.2.1, S'.2.1, iMn_nI (by omega) (by omega), hc]
    exact h1
  rintro m a Z ⟨i, hi, rfl, rfl, rfl, hal⟩
  by_cases hic : i = c
  · left
    refine ⟨_, fun rec => ?_, i, ⟨hi, hal, fun q => absurd q (by omega)⟩, rfl⟩
    unfold fX6_firstUnlike_l14_b
    rw [if_pos (nI_le (by omega) (by omega)), sI L, sb, sI L', sb, S.2.1, S'.2.1]
    unfold apV
    rw [if_pos (show i = min (dZ d) (dZ e) by omega)]
    by_cases q : dZ d = dZ e
    · rw [if_pos (by rw [q]), if_pos q]
    · rw [if_neg (fun z => q ((nI_eq (by omega) (by omega)).mp z)), if_neg q, hic]
  · have ha := f_alike L L' S S' W (i := i) (by omega) (by omega)
    by_cases q : alk t d e i
    · right
      refine ⟨c - (i + 1), nI (i + 1), Z, by omega, ⟨i + 1, by omega, rfl, rfl, rfl, fun j hj => ?_⟩, fun rec => ?_⟩
      · by_cases z : j = i
        · rw [z]; exact q
        · exact hal j (by omega)
      · unfold fX6_firstUnlike_l14_b
        rw [if_neg (nI_ge (by omega) (by omega)), sK L, sb, ha, sb, b01_y q]
        dsimp only
        rw [if_neg (by decide), nI_1]
    · left
      refine ⟨_, fun rec => ?_, i, ⟨hi, hal, fun _ => q⟩, rfl⟩
      unfold fX6_firstUnlike_l14_b
      rw [if_neg (nI_ge (by omega) (by omega)), sK L, sb, ha, sb, b01_n q]
      dsimp only
      rw [if_pos rfl]
      unfold apV
      rw [if_neg (by omega)]
end Ask
