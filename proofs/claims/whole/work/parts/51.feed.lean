/-! feed -/
theorem byt {x : Int64} {a : UInt64} {b : Int64} {s : Nat} (hs : s ≤ 56) (ha : a.toNat % 64 = s) (hb : (b.toBitVec.smod 64).toNat = s) : ((x.toUInt64 >>> a).toInt64.toInt32 &&& 255) = ((x >>> b).toInt32 &&& 255) := by
  have e1 : (x.toUInt64 >>> a).toInt64.toBitVec = x.toBitVec >>> s := by
    apply BitVec.eq_of_toNat_eq
    show (x.toUInt64 >>> a).toNat = _
    rw [UInt64.toNat_shiftRight, ha, BitVec.toNat_ushiftRight]
    rfl
  have e2 : (x >>> b).toBitVec = x.toBitVec.sshiftRight s := by
    rw [Int64.toBitVec_shiftRight]
    show x.toBitVec.sshiftRight (b.toBitVec.smod 64).toNat = _
    rw [hb]
  apply Int32.toBitVec_inj.1
  rw [Int32.toBitVec_and, Int32.toBitVec_and, Int64.toBitVec_toInt32, Int64.toBitVec_toInt32, e1, e2]
  apply BitVec.eq_of_getLsbD_eq
  intro i hi
  rw [BitVec.getLsbD_and, BitVec.getLsbD_and]
  by_cases h : i < 8
  · rw [BitVec.getLsbD_signExtend, BitVec.getLsbD_signExtend, if_pos (by omega), if_pos (by omega), BitVec.getLsbD_ushiftRight, BitVec.getLsbD_sshiftRight, if_pos (by omega), decide_eq_false (show ¬ 64 ≤ i by omega)]
    rfl
  · have e3 : (255 : Int32).toBitVec.getLsbD i = false := by
      show (BitVec.ofNat 32 255).getLsbD i = false
      rw [BitVec.getLsbD_ofNat, Nat.testBit_lt_two_pow (Nat.lt_of_lt_of_le (show 255 < 2 ^ 8 by decide) (Nat.pow_le_pow_right (by decide) (by omega))), Bool.and_false]
    rw [e3, Bool.and_false, Bool.and_false]
def bx (x : Int64) (k : Nat) : Nat := ((x.toUInt64 >>> ((nI (8 * (7 - k))).toInt64.toUInt64 &&& Int64.toUInt64 63)).toInt64.toInt32).toBitVec.toNat % 256
theorem bx_c (x : Int64) (k : Nat) : ((x.toUInt64 >>> ((nI (8 * (7 - k))).toInt64.toUInt64 &&& Int64.toUInt64 63)).toInt64.toInt32 &&& 255) = nI (bx x k) := pk_and _ 8 (by decide)
theorem bx_sh : ∀ j, j < 8 → ((nI (8 * j)).toInt64.toUInt64 &&& Int64.toUInt64 63).toNat % 64 = 8 * j ∧ (((nI (8 * j)).toInt64 &&& 63).toBitVec.smod 64).toNat = 8 * j := by decide
theorem bx_m (x : Int64) (k : Nat) : ((x >>> ((nI (8 * (7 - k))).toInt64 &&& 63)).toInt32 &&& 255) = nI (bx x k) := by
  rw [← bx_c]
  exact (byt (s := 8 * (7 - k)) (by omega) (bx_sh (7 - k) (by omega)).1 (bx_sh (7 - k) (by omega)).2).symm
theorem bx_lt (x : Int64) (k : Nat) : bx x k < 256 := Nat.mod_lt _ (by decide)
theorem n8 {a : Nat} (h : 8 ≤ a) : nI a + (-8) = nI (a - 8) := by
  rw [← nI_subI (b := 8) h, Int32.sub_eq_add_neg]
  rfl
theorem by8 : ∀ c, c < 127 → (nI c).toInt8.toInt32 = nI c := by decide
abbrev gch (c : Nat) : Prop := c = 10 ∨ (32 ≤ c ∧ c ≤ 126)
def lay1 (s : Nat × (Nat → Nat)) (c : Nat) : Nat × (Nat → Nat) := if gch c ∧ s.1 < 1000 then (s.1 + 1, fun j => if j = s.1 then c else s.2 j) else s
def lays (x : Int64) (s : Nat × (Nat → Nat)) : Nat → Nat × (Nat → Nat)
  | 0 => s
  | k + 1 => lay1 (lays x s k) (bx x k)
theorem lay1_ok {s : Nat × (Nat → Nat)} {c : Nat} (h : s.1 ≤ 1000 ∧ ∀ i, i < s.1 → gch (s.2 i)) : (lay1 s c).1 ≤ 1000 ∧ ∀ i, i < (lay1 s c).1 → gch ((lay1 s c).2 i) := by
  unfold lay1
  by_cases q : gch c ∧ s.1 < 1000
  · rw [if_pos q]
    refine ⟨q.2, fun i hi => ?_⟩
    show gch (if i = s.1 then c else s.2 i)
    by_cases e : i = s.1
    · rw [if_pos e]; exact q.1
    · rw [if_neg e]
      have hi' : i < s.1 + 1 := hi
      exact h.2 i (by omega)
  · rw [if_neg q]; exact h
theorem lays_ok {x : Int64} {s : Nat × (Nat → Nat)} (h : s.1 ≤ 1000 ∧ ∀ i, i < s.1 → gch (s.2 i)) : ∀ k, (lays x s k).1 ≤ 1000 ∧ ∀ i, i < (lays x s k).1 → gch ((lays x s k).2 i)
  | 0 => h
  | k + 1 => lay1_ok (lays_ok h k)
def Tpc (X : XW) (p : Nat) (s : Nat × (Nat → Nat)) : Prop := xI X p 1 = nI s.1 ∧ ∀ i, i < s.1 → xA X (p + 1) i = nI (s.2 i)
def Tpm (X : XW) (o : Nat) (s : Nat × (Nat → Nat)) : Prop := xI X o 2 = nI s.1 ∧ ∀ i, i < s.1 → xA X (mA o 1) i = nI (s.2 i)
section Fd
variable {X : XW}
theorem f_layB {p : Nat} (k1 : xKd X p = 8) (r1 : xR X p 0 = some (p + 1)) (a1 : ar X (p + 1) 20 1000) (x : Int64) {s : Nat × (Nat → Nat)} (h : Tpc X p s) (hs : s.1 ≤ 1000 ∧ ∀ i, i < s.1 → gch (s.2 i)) : ∃ X1, fX7_layBytes p x X = some X1 ∧ xfm (fun a => a = p ∨ a = p + 1) X X1 ∧ Tpc X1 p (lays x s 8) := by
  have key := iterP2 (b := fun rec => fX7_layBytes_l3_b rec p x) (z := fun _ _ => none) (fun m a Z => ∃ k, k ≤ 8 ∧ m = 8 - k ∧ a = nI (64 - 8 * k) + (-8) ∧ xfm (fun a => a = p ∨ a = p + 1) X Z ∧ Tpc Z p (lays x s k)) (fun X1 => xfm (fun a => a = p ∨ a = p + 1) X X1 ∧ Tpc X1 p (lays x s 8)) ?_ FU 8 (nI (64 - 8 * 0) + (-8)) X (FUlt (by decide)) ⟨0, by decide, rfl, rfl, xfm.rf _ _, h⟩
  · obtain ⟨X1, h1, h2⟩ := key
    refine ⟨X1, ?_, h2⟩
    unfold fX7_layBytes
    rw [show fX7_layBytes_l3 p x FU 56 X = some X1 from h1, sb]
  rintro m a Z ⟨k, hk, rfl, rfl, F, hT⟩
  by_cases hkk : k = 8
  · left
    subst hkk
    refine ⟨Z, fun rec => ?_, F, hT⟩
    unfold fX7_layBytes_l3_b
    rw [if_pos (by decide)]
  · right
    have hk' : k < 8 := by omega
    have e8 : nI (64 - 8 * k) + (-8) = nI (8 * (7 - k)) := by rw [n8 (by omega)]; exact congrArg nI (by omega)
    have en : nI (8 * (7 - k)) + (-8) = nI (64 - 8 * (k + 1)) + (-8) := by rw [show 64 - 8 * (k + 1) = 8 * (7 - k) by omega]
    have K1 : xKd Z p = 8 := (F.kd p).trans k1
    have R1 : xR Z p 0 = some (p + 1) := (F.rr p 0).trans r1
    have A1 := a1.mv F
    obtain ⟨o1, o2⟩ := lays_ok (x := x) hs k
    have hb := bx_lt x k
    have els : lays x s (k + 1) = lay1 (lays x s k) (bx x k) := rfl
    have j36 : gch (bx x k) → ∃ Z1, (∀ rec, fX7_layBytes_j36 rec p x (nI (8 * (7 - k))) (nI (bx x k)) Z = rec (nI (64 - 8 * (k + 1)) + (-8)) Z1) ∧ xfm (fun a => a = p ∨ a = p + 1) X Z1 ∧ Tpc Z1 p (lays x s (k + 1)) := fun hg => by
      by_cases q : (lays x s k).1 < 1000
      · generalize hZ1 : wF Z (p + 1) (va_up (xA Z (p + 1)) (lays x s k).1 (nI (bx x k))) = Z1
        have K2 : xKd Z1 p = 8 := by rw [← hZ1]; exact K1
        have i2 : xI Z1 p 1 = nI (lays x s k).1 := by rw [← hZ1]; exact hT.1
        refine ⟨wI Z1 p 1 (nI ((lays x s k).1 + 1)), fun rec => ?_, F.tr ?_, ?_⟩
        · unfold fX7_layBytes_j36 fX7_layBytes_j68
          rw [gI_of K1, sb, hT.1, if_neg (show ¬ (1000 : Int32) ≤ nI (lays x s k).1 from nI_ge (b := 1000) q (by decide)), gR_of K1 R1, sb, sb, uB_of A1.1 A1.2 q (by decide), sb, pk_vb, by8 _ (by have : gch (bx x k) := hg; omega), hZ1, gI_of K2, sb, i2, nI_1, pI_of K2, sb, en]
        · rw [← hZ1]
          exact (xfm.wF (Or.inr rfl)).tr (xfm.wI (Or.inl rfl))
        · rw [els]
          unfold lay1
          rw [if_pos ⟨hg, q⟩]
          refine ⟨xI_we, fun i hi => ?_⟩
          show xA (wI Z1 p 1 (nI ((lays x s k).1 + 1))) (p + 1) i = nI (if i = (lays x s k).1 then bx x k else (lays x s k).2 i)
          rw [xA_wI, ← hZ1, xA_wFe]
          have hi' : i < (lays x s k).1 + 1 := hi
          by_cases e : i = (lays x s k).1
          · rw [if_pos e, e, upE]
          · rw [if_neg e, upN e]
            exact hT.2 i (by omega)
      · refine ⟨Z, fun rec => ?_, F, ?_⟩
        · unfold fX7_layBytes_j36 fX7_layBytes_j68
          rw [gI_of K1, sb, hT.1, if_pos (show (1000 : Int32) ≤ nI (lays x s k).1 from nI_le (a := 1000) (by omega) (by omega)), en]
        · rw [els]
          unfold lay1
          rw [if_neg (fun z => q z.2)]
          exact hT
    have hbx := bx_c x k
    by_cases c1 : bx x k = 10
    · obtain ⟨Z1, g1, g2, g3⟩ := j36 (Or.inl c1)
      refine ⟨8 - (k + 1), _, Z1, by omega, ⟨k + 1, by omega, rfl, rfl, g2, g3⟩, fun rec => ?_⟩
      unfold fX7_layBytes_l3_b
      rw [e8, if_neg (nI_pos (by omega)), hbx, if_pos (by rw [c1]; rfl), g1]
    · by_cases c2 : 32 ≤ bx x k ∧ bx x k ≤ 126
      · obtain ⟨Z1, g1, g2, g3⟩ := j36 (Or.inr c2)
        refine ⟨8 - (k + 1), _, Z1, by omega, ⟨k + 1, by omega, rfl, rfl, g2, g3⟩, fun rec => ?_⟩
        unfold fX7_layBytes_l3_b
        rw [e8, if_neg (nI_pos (by omega)), hbx, if_neg (show ¬ nI (bx x k) = (10 : Int32) from fun z => c1 ((nI_eq (b := 10) (by omega) (by decide)).mp z)), f_isWithin, sb, show bw (nI (bx x k)) 32 126 = 1 from (if_neg (nI_nlt (b := 32) c2.1 (by omega))).trans (if_neg (nI_nlt (a := 126) c2.2 (by decide)))]
        dsimp only
        rw [if_neg (by decide), g1]
      · refine ⟨8 - (k + 1), _, Z, by omega, ⟨k + 1, by omega, rfl, rfl, F, ?_⟩, fun rec => ?_⟩
        · rw [els]
          unfold lay1
          rw [if_neg (fun z => z.1.elim c1 c2)]
          exact hT
        · unfold fX7_layBytes_l3_b fX7_layBytes_j68
          have hb0 : bw (nI (bx x k)) 32 126 = 0 := by
            unfold bw
            by_cases z : bx x k < 32
            · rw [if_pos (show nI (bx x k) < (32 : Int32) from nI_lt (b := 32) z (by decide))]
            · rw [if_neg (show ¬ nI (bx x k) < (32 : Int32) from nI_nlt (b := 32) (by omega) (by omega)), if_pos (show (126 : Int32) < nI (bx x k) from nI_lt (a := 126) (by omega) (by omega))]
          rw [e8, if_neg (nI_pos (by omega)), hbx, if_neg (show ¬ nI (bx x k) = (10 : Int32) from fun z => c1 ((nI_eq (b := 10) (by omega) (by decide)).mp z)), f_isWithin, sb, hb0]
          dsimp only
          rw [if_pos rfl, en]
theorem m_layB {o : Nat} (L : LM X o) (x : Int64) {s : Nat × (Nat → Nat)} (h : Tpm X o s) (hs : s.1 ≤ 1000 ∧ ∀ i, i < s.1 → gch (s.2 i)) : ∃ X1, fX10_lay o x X = some X1 ∧ mfm o [1, 2] X X1 ∧ Tpm X1 o (lays x s 8) := by
  have key := iterP2 (b := fun rec => fX10_lay_l3_b rec o x) (z := fun _ _ => none) (fun m a Z => ∃ k, k ≤ 8 ∧ m = 8 - k ∧ a = nI (64 - 8 * k) + (-8) ∧ mfm o [1, 2] X Z ∧ Tpm Z o (lays x s k)) (fun X1 => mfm o [1, 2] X X1 ∧ Tpm X1 o (lays x s 8)) ?_ FU 8 (nI (64 - 8 * 0) + (-8)) X (FUlt (by decide)) ⟨0, by decide, rfl, rfl, mfm.rf, h⟩
  · obtain ⟨X1, h1, h2⟩ := key
    refine ⟨X1, ?_, h2⟩
    unfold fX10_lay
    rw [show fX10_lay_l3 o x FU 56 X = some X1 from h1, sb]
  rintro m a Z ⟨k, hk, rfl, rfl, F, hT⟩
  by_cases hkk : k = 8
  · left
    subst hkk
    refine ⟨Z, fun rec => ?_, F, hT⟩
    unfold fX10_lay_l3_b
    rw [if_pos (by decide)]
  · right
    have hk' : k < 8 := by omega
    have e8 : nI (64 - 8 * k) + (-8) = nI (8 * (7 - k)) := by rw [n8 (by omega)]; exact congrArg nI (by omega)
    have en : nI (8 * (7 - k)) + (-8) = nI (64 - 8 * (k + 1)) + (-8) := by rw [show 64 - 8 * (k + 1) = 8 * (7 - k) by omega]
    have L1 := L.mf F
    obtain ⟨o1, o2⟩ := lays_ok (x := x) hs k
    have hb := bx_lt x k
    have els : lays x s (k + 1) = lay1 (lays x s k) (bx x k) := rfl
    have j38 : gch (bx x k) → ∃ Z1, (∀ rec, fX10_lay_j38 rec o x (nI (8 * (7 - k))) (nI (bx x k)) Z = rec (nI (64 - 8 * (k + 1)) + (-8)) Z1) ∧ mfm o [1, 2] X Z1 ∧ Tpm Z1 o (lays x s (k + 1)) := fun hg => by
      by_cases q : (lays x s k).1 < 1000
      · generalize hZ1 : wF Z (mA o 1) (va_up (xA Z (mA o 1)) (lays x s k).1 (nI (bx x k))) = Z1
        have F1 : mfm o [1, 2] Z Z1 := by rw [← hZ1]; exact mfm.wF (by decide) (by decide) (by decide)
        have L2 := L1.mf F1
        have i2 : xI Z1 o 2 = nI (lays x s k).1 := by rw [← hZ1]; exact hT.1
        refine ⟨wI Z1 o 2 (nI ((lays x s k).1 + 1)), fun rec => ?_, (F.tr F1).tr (mfm.wI (by decide)), ?_⟩
        · unfold fX10_lay_j38 fX10_lay_j69
          rw [gI_M L1, sb, hT.1, if_neg (show ¬ (1000 : Int32) ≤ nI (lays x s k).1 from nI_ge (b := 1000) q (by decide)), rM1 L1, sb, sb, uM1 L1 q, sb, hZ1, gI_M L2, sb, i2, nI_1, pI_M L2, sb, en]
        · rw [els]
          unfold lay1
          rw [if_pos ⟨hg, q⟩]
          refine ⟨xI_we, fun i hi => ?_⟩
          show xA (wI Z1 o 2 (nI ((lays x s k).1 + 1))) (mA o 1) i = nI (if i = (lays x s k).1 then bx x k else (lays x s k).2 i)
          rw [xA_wI, ← hZ1, xA_wFe]
          have hi' : i < (lays x s k).1 + 1 := hi
          by_cases e : i = (lays x s k).1
          · rw [if_pos e, e, upE]
          · rw [if_neg e, upN e]
            exact hT.2 i (by omega)
      · refine ⟨Z, fun rec => ?_, F, ?_⟩
        · unfold fX10_lay_j38 fX10_lay_j69
          rw [gI_M L1, sb, hT.1, if_pos (show (1000 : Int32) ≤ nI (lays x s k).1 from nI_le (a := 1000) (by omega) (by omega)), en]
        · rw [els]
          unfold lay1
          rw [if_neg (fun z => q z.2)]
          exact hT
    have hbx := bx_m x k
    by_cases c1 : bx x k = 10
    · obtain ⟨Z1, g1, g2, g3⟩ := j38 (Or.inl c1)
      refine ⟨8 - (k + 1), _, Z1, by omega, ⟨k + 1, by omega, rfl, rfl, g2, g3⟩, fun rec => ?_⟩
      unfold fX10_lay_l3_b
      rw [e8, if_neg (nI_pos (by omega)), hbx, if_pos (by rw [c1]; rfl), g1]
    · have hn10 : ¬ nI (bx x k) = (10 : Int32) := fun z => c1 ((nI_eq (b := 10) (by omega) (by decide)).mp z)
      by_cases c2 : 32 ≤ bx x k ∧ bx x k ≤ 126
      · obtain ⟨Z1, g1, g2, g3⟩ := j38 (Or.inr c2)
        refine ⟨8 - (k + 1), _, Z1, by omega, ⟨k + 1, by omega, rfl, rfl, g2, g3⟩, fun rec => ?_⟩
        unfold fX10_lay_l3_b
        rw [e8, if_neg (nI_pos (by omega)), hbx, if_neg hn10, if_neg (show ¬ nI (bx x k) < (32 : Int32) from nI_nlt (b := 32) c2.1 (by omega)), if_neg (show ¬ (126 : Int32) < nI (bx x k) from nI_nlt (a := 126) c2.2 (by decide)), g1]
      · refine ⟨8 - (k + 1), _, Z, by omega, ⟨k + 1, by omega, rfl, rfl, F, ?_⟩, fun rec => ?_⟩
        · rw [els]
          unfold lay1
          rw [if_neg (fun z => z.1.elim c1 c2)]
          exact hT
        · unfold fX10_lay_l3_b fX10_lay_j69
          rw [e8, if_neg (nI_pos (by omega)), hbx, if_neg hn10]
          by_cases z : bx x k < 32
          · rw [if_pos (show nI (bx x k) < (32 : Int32) from nI_lt (b := 32) z (by decide)), en]
          · rw [if_neg (show ¬ nI (bx x k) < (32 : Int32) from nI_nlt (b := 32) (by omega) (by omega)), if_pos (show (126 : Int32) < nI (bx x k) from nI_lt (a := 126) (by omega) (by omega)), en]
theorem LC.tp {v : Nat} (L : LC X v) : xKd X (v + 3) = 8 ∧ xR X (v + 3) 0 = some (v + 4) ∧ ar X (v + 4) 20 1000 := by
  obtain ⟨l1, l2, l3, l4, l5, l6, l7, l8, l9, l10, l11, l12, l13, l14, l15, l16, l17, l18, l19⟩ := L
  exact ⟨l12, l13, l14⟩
theorem p_feed {v : Nat} {t : St} (I : Inv X v t) (x y z : Int64) : ∃ a X1 X2 t', fX9_feed v x y z X = some (a, X1) ∧ fX10_feed (v + 127) x y z X1 = some (a, X2) ∧ Inv X2 v t' := by
  obtain ⟨W1, W2, W3, W4, W5, W6, W7, W8, W9, W10, W11, W12, W13, W14⟩ := id I.2.2.1
  obtain ⟨L, C1, C2, C3, C4, C5, C6, C7, C8, C9⟩ := id I.1
  have s0 : (tT t, tA t).1 ≤ 1000 ∧ ∀ i, i < (tT t, tA t).1 → gch ((tT t, tA t).2 i) := W14
  have s1 := lays_ok (x := x) s0 8
  have s2 := lays_ok (x := y) s1 8
  have s3 := lays_ok (x := z) s2 8
  obtain ⟨Y1, y1, F1, T1⟩ := f_layB L.tp.1 L.tp.2.1 L.tp.2.2 x (s := (tT t, tA t)) C7 s0
  have L1 := L.mv F1
  obtain ⟨Y2, y2, F2, T2⟩ := f_layB L1.tp.1 L1.tp.2.1 L1.tp.2.2 y T1 s1
  have L2 := L1.mv F2
  obtain ⟨Y3, y3, F3, T3⟩ := f_layB L2.tp.1 L2.tp.2.1 L2.tp.2.2 z T2 s2
  have L3 := L2.mv F3
  have FA : xfm (fun a => a = v + 3 ∨ a = v + 3 + 1) X Y3 := (F1.tr F2).tr F3
  have M := I.2.1.xf FA (fun a q1 q2 => by omega)
  obtain ⟨M1, M2, M3, M4, M5, M6, M7, M8, M9, M10, M11⟩ := id M
  have G0 : mfm (v + 127) [0, 1, 2] Y3 (wI Y3 (v + 127) 0 0) := mfm.wI (by decide)
  have N0 := M1.mf G0
  obtain ⟨Z1, z1, H1, U1⟩ := m_layB N0 x (s := (tT t, tA t)) ⟨(xI_wn (by decide)).trans M8.1, M8.2⟩ s0
  have N1 := N0.mf H1
  obtain ⟨Z2, z2, H2, U2⟩ := m_layB N1 y U1 s1
  have N2 := N1.mf H2
  obtain ⟨Z3, z3, H3, U3⟩ := m_layB N2 z U2 s2
  have N3 := N2.mf H3
  have F := ((G0.tr (H1.wk (by decide))).tr (H2.wk (by decide))).tr (H3.wk (by decide))
  generalize hs : lays z (lays y (lays x (tT t, tA t) 8) 8) 8 = s at *
  have hA : LC Y3 v ∧ True := ⟨L3, trivial⟩
  refine ⟨nI s.1, Y3, Z3, (t.1, t.2.1, t.2.2.1, t.2.2.2.1, t.2.2.2.2.1, t.2.2.2.2.2.1, t.2.2.2.2.2.2.1, t.2.2.2.2.2.2.2.1, s.1, s.2), ?_, ?_, ?_, ?_, ?_, ?_, ?_, (I.2.2.2.2.2.1.mv FA).mv F.xf, by rw [F.xf.sz, FA.sz]; exact I.2.2.2.2.2.2⟩
  · unfold fX9_feed
    rw [gR_of L.1 L.2.2.2.1, sb, gK_of' L.tp.1, sb, y1, sb, gR_of L1.1 L1.2.2.2.1, sb, gK_of' L1.tp.1, sb, y2, sb, gR_of L2.1 L2.2.2.2.1, sb, gK_of' L2.tp.1, sb, y3, sb, gR_of L3.1 L3.2.2.2.1, sb, gI_of L3.tp.1, sb, T3.1]
  · unfold fX10_feed
    rw [pI_M M1, sb, gK_M N0, sb, z1, sb, gK_M N1, sb, z2, sb, gK_M N2, sb, z3, sb, gI_M N3, sb, U3.1]
  · refine CSt.mx (X := Y3) ?_ F
    have ev : xI Y3 v = xI X v := (FA.2 v (by omega)).1
    exact ⟨L3, by rw [ev]; exact C1, by rw [ev]; exact C2, by rw [ev]; exact C3, by rw [ev]; exact C4, by rw [ev]; exact C5, by rw [ev]; exact C6, T3, fun r hr => (C8 r hr).mf FA (fun a q1 q2 => by unfold cR at q1; omega), fun m hm => (C9 m hm).mf FA (by unfold cM; omega) (fun a ha => by unfold SC; omega)⟩
  · exact ⟨N3, by rw [F.I (k := 28) (by decide)]; exact M2, by rw [F.I (k := 29) (by decide)]; exact M3, by rw [F.I (k := 10) (by decide)]; exact M4, by rw [F.I (k := 38) (by decide)]; exact M5, by rw [F.I (k := 39) (by decide)]; exact M6, by rw [F.I (k := 40) (by decide)]; exact M7, U3, fun r hr => (M9 r hr).mf F (by decide), fun m hm => ⟨(M10 m hm).1.mf F (by decide), (M10 m hm).2.mf F (by decide)⟩, fun k hk => by rw [(F.2.2.2 9 (by decide) (by decide) (by decide)).2]; exact M11 k hk⟩
  · exact ⟨W1, W2, W3, W4, W5, W6, W7, W8, W9, W10, W11, W12, W13, s3⟩
  · exact (I.2.2.2.1.mf FA (fun a q1 q2 => by omega)).mf F.xf (fun a q1 q2 => by omega)
  · exact (I.2.2.2.2.1.mf FA (fun a q1 q2 => by omega)).mf F.xf (fun a q1 q2 => by omega)
end Fd
