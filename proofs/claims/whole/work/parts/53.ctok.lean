/-! the class cuts the text -/
theorem sB0 : ∀ j, j < 136 → sB 0 (nI j) = some (nI (NM j)) := by decide +kernel
theorem sB0r : ∀ j, j < 136 → ¬ nI j < 0 ∧ nI j < sL 0 := by decide +kernel
theorem sB0c : ∀ j, j < 136 → (((nI (NM j) &&& 255)).toUInt32 % 65536).toInt32 = nI (NM j) ∧ vp_nar .char (nI (NM j)) = nI (NM j) := by decide +kernel
theorem NM_b : ∀ j, j < 136 → NM j < 127 := by decide +kernel
theorem j_charAt {j : Nat} (hj : j < 136) (X : XW) : fJ0_charAt_5068e_s0 (nI j) X = some (nI (NM j), X) := by
  obtain ⟨h1, h2⟩ := sB0r j hj
  obtain ⟨h3, h4⟩ := sB0c j hj
  have hn : nG .char (nI (NM j)) = some () := if_pos h4
  unfold fJ0_charAt_5068e_s0 fJ0_isLatin1_aae02_s0 fJ1_charAt_3b067_s0 fJ0_checkIndex_df160 fJ3_checkIndex_8e157N
  rw [if_neg (by decide), if_pos rfl, sb]
  dsimp only
  rw [if_neg (by decide), if_neg h1, if_pos h2, sb, sb, sB0 j hj, sb, h3, hn, sb, sb]
  dsimp only
  rw [hn, sb]
theorem j_len (X : XW) : fJ0_length_8abf5_s0 X = some (nI 136, X) := by
  unfold fJ0_length_8abf5_s0 fJ0_coder_7d493_s0
  rw [if_neg (by decide), show nG .byte 0 = some () by decide, sb, sb]
  dsimp only
  rw [show sL 0 >>> ((0 : Int32) &&& 31) = nI 136 by decide]
theorem sB1 : ∀ i, i < 7 → sB 1 (nI i) = some (nI (SG i)) := by decide +kernel
theorem SG_b : ∀ i, i < 7 → SG i < 127 := by decide
theorem j_indexOf {x : Nat} (hx : x < 127) (X : XW) : ∃ r : Int32, fJ0_indexOf_0f7a4_s1 (nI x) X = some (r, X) ∧ ((∃ s, s < 7 ∧ r = nI s ∧ x = SG s) ∨ (r = -1 ∧ ∀ s, s < 7 → x ≠ SG s)) := by
  have key := iterP2 (b := fun rec => fJ1_indexOfChar_4cfef_s1_l7_b rec (nI 7) (nI x)) (z := fun _ _ => none) (fun m a Z => ∃ i, i ≤ 7 ∧ m = 7 - i ∧ a = nI i ∧ Z = X ∧ ∀ j, j < i → x ≠ SG j) (fun y => ∃ r : Int32, y = (r, X) ∧ ((∃ s, s < 7 ∧ r = nI s ∧ x = SG s) ∨ (r = -1 ∧ ∀ s, s < 7 → x ≠ SG s))) ?_ FU 7 (nI 0) X (FUlt (by decide)) ⟨0, by decide, rfl, rfl, rfl, fun j hj => absurd hj (Nat.not_lt_zero _)⟩
  · obtain ⟨y, h1, r, rfl, h2⟩ := key
    refine ⟨r, ?_, h2⟩
    have h1' : fJ1_indexOfChar_4cfef_s1_l7 (nI 7) (nI x) FU (nI 0) X = some (r, X) := h1
    unfold fJ0_indexOf_0f7a4_s1 fJ0_indexOf_7cf53_s1 fJ0_isLatin1_aae02_s1 fJ0_length_8abf5_s1 fJ0_coder_7d493_s1 fJ1_indexOf_4cfef_s1 fJ1_canEncode_9a6ad fJ1_indexOfChar_4cfef_s1
    rw [if_neg (by decide), if_pos rfl, sb]
    dsimp only
    rw [if_neg (by decide), if_neg (by decide), show nG .byte 0 = some () by decide, sb, sb, sb]
    dsimp only
    rw [if_neg (nI_pos (by omega)), if_neg (show ¬ (255 : Int32) < nI x from nI_nlt (a := 255) (by omega) (by decide)), sb]
    dsimp only
    rw [if_neg (by decide), show sL 1 >>> ((0 : Int32) &&& 31) = nI 7 by decide, show iMx (0 : Int32) 0 = nI 0 by decide, show iMn (nI 7) (sL 1) = nI 7 by decide, if_pos (by decide), by8 x hx, h1', sb, sb, sb]
  rintro m a Z ⟨i, hi, rfl, rfl, rfl, hne⟩
  by_cases h7 : i = 7
  · left
    subst h7
    refine ⟨_, fun rec => ?_, -1, rfl, Or.inr ⟨rfl, hne⟩⟩
    unfold fJ1_indexOfChar_4cfef_s1_l7_b
    rw [if_pos (by decide)]
  · have h7' : i < 7 := by omega
    by_cases e : SG i = x
    · left
      refine ⟨_, fun rec => ?_, nI i, rfl, Or.inl ⟨i, h7', rfl, e.symm⟩⟩
      unfold fJ1_indexOfChar_4cfef_s1_l7_b
      rw [if_neg (nI_ge h7' (by decide)), sB1 i h7', sb, if_pos (by rw [e])]
    · right
      have hb := SG_b i h7'
      refine ⟨7 - (i + 1), nI (i + 1), Z, by omega, ⟨i + 1, by omega, rfl, rfl, rfl, fun j hj => ?_⟩, fun rec => ?_⟩
      · by_cases z : j = i
        · rw [z]; exact fun y => e y.symm
        · exact hne j (by omega)
      · unfold fJ1_indexOfChar_4cfef_s1_l7_b
        rw [if_neg (nI_ge h7' (by decide)), sB1 i h7', sb, if_neg (fun z => e ((nI_eq (by omega) (by omega)).mp z)), nI_1]
/-- the tape of the class holds the text -/
def CTx (X : XW) (p T : Nat) (c : Nat → Nat) : Prop := xKd X p = 8 ∧ xR X p 0 = some (p + 1) ∧ ar X (p + 1) 20 1000 ∧ xI X p 1 = nI T ∧ T ≤ 1000 ∧ ∀ i, i < T → xA X (p + 1) i = nI (c i) ∧ gch (c i)
theorem CTx.mf {X X1 : XW} {p T : Nat} {c : Nat → Nat} {S : Nat → Prop} (h : CTx X p T c) (F : xfm S X X1) (h1 : ¬ S p) (h2 : ¬ S (p + 1)) : CTx X1 p T c := by
  obtain ⟨a1, a2, a3, a4, a5, a6⟩ := h
  refine ⟨(F.kd _).trans a1, (F.rr _ _).trans a2, a3.mv F, ?_, a5, ?_⟩
  · rw [(F.2 p h1).1]; exact a4
  · rw [(F.2 (p + 1) h2).2.1]; exact a6
section CTk
variable {X : XW} {p T : Nat} {c : Nat → Nat}
theorem cx (h : CTx X p T c) {i : Nat} (hi : i < T) : aI X (p + 1) 0 (nI i) = some (nI (c i)) := by
  have := h.2.2.2.2.1
  rw [aI_of h.2.2.1.1 h.2.2.1.2 (show i < 1000 by omega) (by decide), (h.2.2.2.2.2 i hi).1]
theorem cx_b (h : CTx X p T c) {i : Nat} (hi : i < T) : c i < 127 := by
  have := (h.2.2.2.2.2 i hi).2
  omega
theorem bw_r {x lo hi : Nat} (hx : x < 127) (h1 : lo < 127) (h2 : hi < 127) : bw (nI x) (nI lo) (nI hi) = b01 (inR lo hi x) := by
  unfold bw
  by_cases a : x < lo
  · rw [if_pos (nI_lt a (by omega)), b01_n (fun q => by have := q.1; omega)]
  · rw [if_neg (nI_nlt (by omega) (by omega))]
    by_cases b : hi < x
    · rw [if_pos (nI_lt b (by omega)), b01_n (fun q => by have := q.2; omega)]
    · rw [if_neg (nI_nlt (by omega) (by omega)), b01_y ⟨by omega, by omega⟩]
theorem f_run (h : CTx X p T c) {lo hi k : Nat} (h1 : lo < 127) (h2 : hi < 127) (hk : k ≤ T) : fX8_endOfRun p (nI k) (nI lo) (nI hi) X = some (nI (rE c T lo hi k), X) := by
  have hT := h.2.2.2.2.1
  have key := iterP2 (b := fun rec => fX8_endOfRun_l3_b rec p (nI lo) (nI hi)) (z := fun _ _ => none) (fun m a Z => ∃ e, k ≤ e ∧ e ≤ T ∧ m = T - e ∧ a = nI e ∧ Z = X ∧ ∀ j, k ≤ j → j < e → inR lo hi (c j)) (fun y => ∃ e, EP c T lo hi k e ∧ y = (nI e, X)) ?_ FU (T - k) (nI k) X (FUlt (by omega)) ⟨k, Nat.le_refl _, hk, rfl, rfl, rfl, fun j q1 q2 => absurd q2 (by omega)⟩
  · obtain ⟨y, g1, e, g2, rfl⟩ := key
    rw [← g2.un (rE_p hk)]
    exact g1
  rintro m a Z ⟨e, g1, g2, rfl, rfl, rfl, g3⟩
  by_cases q : e = T
  · left
    refine ⟨(nI e, Z), fun rec => ?_, e, ⟨g1, g2, g3, fun z => absurd z (by omega)⟩, rfl⟩
    unfold fX8_endOfRun_l3_b
    rw [gI_of h.1, sb, h.2.2.2.1, if_pos (nI_le (by omega) (by omega)), sb, q]
  · have hb := cx_b h (i := e) (by omega)
    by_cases z : inR lo hi (c e)
    · right
      refine ⟨T - (e + 1), nI (e + 1), Z, by omega, ⟨e + 1, by omega, by omega, rfl, rfl, rfl, fun j q1 q2 => ?_⟩, fun rec => ?_⟩
      · by_cases y : j = e
        · rw [y]; exact z
        · exact g3 j q1 (by omega)
      · unfold fX8_endOfRun_l3_b
        rw [gI_of h.1, sb, h.2.2.2.1, if_neg (nI_ge (by omega) (by omega)), gR_of h.1 h.2.1, sb, cx h (by omega), sb, f_isWithin, sb, bw_r hb h1 h2, b01_y z]
        dsimp only
        rw [if_neg (by decide), nI_1]
    · left
      refine ⟨(nI e, Z), fun rec => ?_, e, ⟨g1, g2, g3, fun _ => z⟩, rfl⟩
      unfold fX8_endOfRun_l3_b
      rw [gI_of h.1, sb, h.2.2.2.1, if_neg (nI_ge (by omega) (by omega)), gR_of h.1 h.2.1, sb, cx h (by omega), sb, f_isWithin, sb, bw_r hb h1 h2, b01_n z]
      dsimp only
      rw [if_pos rfl]
theorem eqN_pad {k e n : Nat} (hke : k ≤ e) (hc : ∀ j, k ≤ j → j < e → inR 97 122 (c j)) (h8 : e - k ≤ 8) (hn : n < 17) : (∀ i, i < 8 → nmf n i = (if k + i < e then c (k + i) else 32)) ↔ eqN c k e n := by
  have hl := nm_le n hn
  constructor
  · intro h
    have hlen : e - k = nml n := by
      by_cases q : e - k < nml n
      · have h1 := h (e - k) (by omega)
        have h2 := nm_let n hn (e - k) q
        rw [if_neg (by omega)] at h1
        omega
      · by_cases q2 : nml n < e - k
        · have h1 := h (nml n) (by omega)
          have h2 := nm_sp n hn (nml n) (by omega) (Nat.le_refl _)
          have h3 := hc (k + nml n) (by omega) (by omega)
          rw [if_pos (by omega)] at h1
          omega
        · omega
    refine ⟨hlen, fun i hi => ?_⟩
    rw [h i (by omega), if_pos (by omega)]
  · rintro ⟨h1, h2⟩ i hi
    by_cases q : i < nml n
    · rw [if_pos (by omega), h2 i q]
    · rw [if_neg (by omega), nm_sp n hn i hi (by omega)]
theorem f_isName (h : CTx X p T c) {k e n : Nat} (hke : k ≤ e) (heT : e ≤ T) (hc : ∀ j, k ≤ j → j < e → inR 97 122 (c j)) (h8 : e - k ≤ 8) (hn : n < 17) : ∃ b : Int32, fX8_isName (nI n) p (nI k) (nI e) X = some (b, X) ∧ ((b = 1 ∧ eqN c k e n) ∨ (b = 0 ∧ ¬ eqN c k e n)) := by
  have hT := h.2.2.2.2.1
  have key := iterP2 (b := fun rec => fX8_isName_l3_b rec (nI n) p (nI k) (nI e)) (z := fun _ _ => none) (fun m a Z => ∃ i, i ≤ 8 ∧ m = 8 - i ∧ a = nI i ∧ Z = X ∧ ∀ j, j < i → nmf n j = (if k + j < e then c (k + j) else 32)) (fun y => ∃ b : Int32, y = (b, X) ∧ ((b = 1 ∧ eqN c k e n) ∨ (b = 0 ∧ ¬ eqN c k e n))) ?_ FU 8 (nI 0) X (FUlt (by decide)) ⟨0, by decide, rfl, rfl, rfl, fun j hj => absurd hj (Nat.not_lt_zero _)⟩
  · obtain ⟨y, g1, b, rfl, g2⟩ := key
    exact ⟨b, g1, g2⟩
  rintro m a Z ⟨i, hi, rfl, rfl, rfl, hj⟩
  by_cases q : i = 8
  · left
    subst q
    refine ⟨_, fun rec => ?_, 1, rfl, Or.inl ⟨rfl, (eqN_pad hke hc h8 hn).mp hj⟩⟩
    unfold fX8_isName_l3_b
    rw [if_pos (by decide)]
  · have hi8 : i < 8 := by omega
    have hca : fJ0_charAt_5068e_s0 (nI (8 * n + i)) Z = some (nI (nmf n i), Z) := j_charAt (j := 8 * n + i) (by omega) Z
    have hnb : nmf n i < 127 := NM_b (8 * n + i) (by omega)
    have hpb : (if k + i < e then c (k + i) else 32) < 127 := by
      split
      · exact cx_b h (by omega)
      · decide
    have hst : ∀ rec, fX8_isName_l3_b rec (nI n) p (nI k) (nI e) (nI i) Z = fX8_isName_j32 rec (nI n) p (nI k) (nI e) (nI i) (nI (if k + i < e then c (k + i) else 32)) Z := fun rec => by
      unfold fX8_isName_l3_b
      rw [if_neg (show ¬ (8 : Int32) ≤ nI i from nI_ge (b := 8) hi8 (by decide)), nI_add]
      by_cases z : k + i < e
      · rw [if_neg (nI_ge z (by omega)), gR_of h.1 h.2.1, sb, cx h (by omega), sb, if_pos z]
      · rw [if_pos (nI_le (by omega) (by omega)), if_neg z]
        rfl
    have e8 : nI n * 8 + nI i = nI (8 * n + i) := by
      rw [show (8 : Int32) = nI 8 from rfl, nI_mul, nI_add, Nat.mul_comm]
    by_cases z : nmf n i = (if k + i < e then c (k + i) else 32)
    · right
      refine ⟨8 - (i + 1), nI (i + 1), Z, by omega, ⟨i + 1, by omega, rfl, rfl, rfl, fun j q1 => ?_⟩, fun rec => ?_⟩
      · by_cases y : j = i
        · rw [y]; exact z
        · exact hj j (by omega)
      · show fX8_isName_l3_b rec (nI n) p (nI k) (nI e) (nI i) Z = _
        rw [hst]
        unfold fX8_isName_j32
        rw [e8, hca, sb]
        dsimp only
        rw [if_pos (congrArg nI z), nI_1]
    · left
      refine ⟨_, fun rec => ?_, 0, rfl, Or.inr ⟨rfl, fun y => z ((eqN_pad hke hc h8 hn).mpr y i hi8)⟩⟩
      show fX8_isName_l3_b rec (nI n) p (nI k) (nI e) (nI i) Z = _
      rw [hst]
      unfold fX8_isName_j32
      rw [e8, hca, sb]
      dsimp only
      rw [if_neg (fun y => z ((nI_eq (by omega) (by omega)).mp y))]
theorem f_nameAt (h : CTx X p T c) {k e : Nat} (hke : k ≤ e) (heT : e ≤ T) (hc : ∀ j, k ≤ j → j < e → inR 97 122 (c j)) : fX8_nameAt p (nI k) (nI e) X = some (nI (nmK c k e), X) := by
  have hT := h.2.2.2.2.1
  unfold fX8_nameAt
  rw [nI_subI hke]
  by_cases h8 : 8 < e - k
  · rw [if_pos (show (8 : Int32) < nI (e - k) from nI_lt (a := 8) h8 (by omega))]
    have : NP c k e 25 := Or.inr ⟨rfl, fun m hm z => by
      have := nm_le m hm
      have := z.1
      omega⟩
    rw [← this.un (nmK_p c k e)]
    rfl
  · rw [if_neg (show ¬ (8 : Int32) < nI (e - k) from nI_nlt (a := 8) (by omega) (by decide))]
    have key := iterP2 (b := fun rec => fX8_nameAt_l10_b rec p (nI k) (nI e)) (z := fun _ _ => none) (fun m a Z => ∃ n, n ≤ 17 ∧ m = 17 - n ∧ a = nI n ∧ Z = X ∧ ∀ j, j < n → ¬ eqN c k e j) (fun y => ∃ r, y = (nI r, X) ∧ NP c k e r) ?_ FU 17 (nI 0) X (FUlt (by decide)) ⟨0, by decide, rfl, rfl, rfl, fun j hj => absurd hj (Nat.not_lt_zero _)⟩
    · obtain ⟨y, g1, r, rfl, g2⟩ := key
      rw [← g2.un (nmK_p c k e)]
      exact g1
    rintro m a Z ⟨n, hn, rfl, rfl, rfl, hj⟩
    by_cases q : n = 17
    · left
      subst q
      refine ⟨_, fun rec => ?_, 25, rfl, Or.inr ⟨rfl, hj⟩⟩
      unfold fX8_nameAt_l10_b
      rw [j_len, sb]
      dsimp only
      rw [show iD (nI 136) 8 = some (nI 17) by decide, sb, if_pos (by decide)]
      rfl
    · have hn' : n < 17 := by omega
      obtain ⟨b, b1, b2⟩ := f_isName h hke heT hc (by omega) hn'
      rcases b2 with ⟨rfl, b3⟩ | ⟨rfl, b3⟩
      · left
        refine ⟨_, fun rec => ?_, n, rfl, Or.inl ⟨hn', b3⟩⟩
        unfold fX8_nameAt_l10_b
        rw [j_len, sb]
        dsimp only
        rw [show iD (nI 136) 8 = some (nI 17) by decide, sb, if_neg (nI_ge hn' (by decide)), b1, sb]
        rfl
      · right
        refine ⟨17 - (n + 1), nI (n + 1), Z, by omega, ⟨n + 1, by omega, rfl, rfl, rfl, fun j q1 => ?_⟩, fun rec => ?_⟩
        · by_cases y : j = n
          · rw [y]; exact b3
          · exact hj j (by omega)
        · unfold fX8_nameAt_l10_b
          rw [j_len, sb]
          dsimp only
          rw [show iD (nI 136) 8 = some (nI 17) by decide, sb, if_neg (nI_ge hn' (by decide)), b1, sb]
          dsimp only
          rw [if_pos rfl, nI_1]
theorem f_numberAt (h : CTx X p T c) {k e : Nat} (hke : k ≤ e) (heT : e ≤ T) (hc : ∀ j, k ≤ j → j < e → inR 48 57 (c j)) : fX8_numberAt p (nI k) (nI e) X = some (nI (numK c k e), X) := by
  have hT := h.2.2.2.2.1
  unfold fX8_numberAt numK
  rw [nI_subI hke]
  by_cases h4 : e - k ≤ 4
  · rw [if_pos (show nI (e - k) ≤ (4 : Int32) from nI_le (b := 4) h4 (by decide)), if_pos h4]
    have hl := iter3 (b := fun rec => fX8_numberAt_l15_b rec p (nI e)) (z := fun _ _ _ => none) (s1 := fun i => nI (nmv (fun i => c (k + i)) i)) (s2 := fun i => nI (k + i)) (sX := fun _ => X) (N := e - k) (res := (nI (nmv (fun i => c (k + i)) (e - k)), X))
      (fun i hi rec => by
        have hd := hc (k + i) (by omega) (by omega)
        unfold fX8_numberAt_l15_b
        rw [if_neg (nI_ge (by omega) (by omega)), gR_of h.1 h.2.1, sb, cx h (by omega), sb, show (10 : Int32) = nI 10 from rfl, nI_mul, nI_add, show (48 : Int32) = nI 48 from rfl, nI_subI (by omega), nI_1]
        have e2 : nmv (fun i => c (k + i)) (i + 1) = 10 * nmv (fun i => c (k + i)) i + (c (k + i) - 48) := rfl
        rw [e2, show nmv (fun i => c (k + i)) i * 10 + c (k + i) - 48 = 10 * nmv (fun i => c (k + i)) i + (c (k + i) - 48) by omega]
        rfl)
      (fun rec => by
        unfold fX8_numberAt_l15_b
        rw [show k + (e - k) = e by omega, if_pos (nI_le (Nat.le_refl _) (by omega))]) (n := FU) (FUlt (by omega))
    simp only [Nat.add_zero] at hl
    rw [show fX8_numberAt_l15 p (nI e) FU 0 (nI k) X = _ from hl, sb]
    dsimp only
    rw [show (26 : Int32) = nI 26 from rfl, nI_add]
  · rw [if_neg (show ¬ nI (e - k) ≤ (4 : Int32) from nI_ge (a := 4) (by omega) (by omega)), if_neg h4]
    rfl
/-- the tokens' object q with rows ka, pa -/
def LTk (X : XW) (q ka pa T : Nat) : Prop := xKd X q = 9 ∧ xR X q 0 = some ka ∧ xR X q 1 = some pa ∧ ar X ka 21 (T + 1) ∧ ar X pa 21 (T + 1)
theorem LTk.mv {X1 : XW} {S : Nat → Prop} {q ka pa : Nat} (l : LTk X q ka pa T) (h : xfm S X X1) : LTk X1 q ka pa T := ⟨(h.kd _).trans l.1, (h.rr _ _).trans l.2.1, (h.rr _ _).trans l.2.2.1, l.2.2.2.1.mv h, l.2.2.2.2.mv h⟩
def CTo (X : XW) (q ka pa n : Nat) (kd pl : Nat → Nat) : Prop := xI X q 2 = nI n ∧ ∀ j, j < n → xA X ka j = nI (kd j) ∧ xA X pa j = nI (pl j)
def SQ (q ka pa a : Nat) : Prop := a = q ∨ a = ka ∨ a = pa
theorem f_addToken {q ka pa n : Nat} {kd pl : Nat → Nat} (L : LTk X q ka pa T) (hT : T ≤ 1000) (hne : ka ≠ pa) (C : CTo X q ka pa n kd pl) (hn : n ≤ T) (x y : Nat) : ∃ X1, fX8_addToken q (nI x) (nI y) X = some X1 ∧ xfm (SQ q ka pa) X X1 ∧ CTo X1 q ka pa (n + 1) (fun j => if j = n then x else kd j) (fun j => if j = n then y else pl j) := by
  generalize hX1 : wF X ka (va_up (xA X ka) n (nI x)) = X1
  have F1 : xfm (SQ q ka pa) X X1 := by rw [← hX1]; exact xfm.wF (Or.inr (Or.inl rfl))
  have L1 := L.mv F1
  have i1 : xI X1 q 2 = nI n := by rw [← hX1]; exact C.1
  generalize hX2 : wF X1 pa (va_up (xA X1 pa) n (nI y)) = X2
  have F2 : xfm (SQ q ka pa) X1 X2 := by rw [← hX2]; exact xfm.wF (Or.inr (Or.inr rfl))
  have L2 := L1.mv F2
  have i2 : xI X2 q 2 = nI n := by rw [← hX2]; exact i1
  have hE : aE X ka 1 = some (nI (T + 1)) := by
    unfold aE
    rw [if_pos L.2.2.2.1.1, L.2.2.2.1.2]
    rfl
  refine ⟨wI X2 q 2 (nI (n + 1)), ?_, (F1.tr F2).tr (xfm.wI (Or.inl rfl)), xI_we, fun j hj => ?_⟩
  · unfold fX8_addToken
    rw [gI_of L.1, sb, C.1, gR_of L.1 L.2.1, sb, hE, sb, if_neg (nI_ge (by omega) (by omega)), sb, sb, uI_of L.2.2.2.1.1 L.2.2.2.1.2 (show n < T + 1 by omega) (by omega), sb, hX1, gR_of L1.1 L1.2.2.1, sb, gI_of L1.1, sb, i1, uI_of L1.2.2.2.2.1 L1.2.2.2.2.2 (show n < T + 1 by omega) (by omega), sb, hX2, gI_of L2.1, sb, i2, nI_1, pI_of L2.1, sb]
  · rw [xA_wI, ← hX2, xA_wFe, xA_wFn hne, ← hX1, xA_wFe, xA_wFn (fun e => hne e.symm)]
    show va_up (xA X ka) n (nI x) j = nI (if j = n then x else kd j) ∧ va_up (xA X pa) n (nI y) j = nI (if j = n then y else pl j)
    by_cases e : j = n
    · rw [e, upE, upE, if_pos rfl, if_pos rfl]
      exact ⟨rfl, rfl⟩
    · rw [upN e, upN e, if_neg e, if_neg e]
      exact C.2 j (by omega)
theorem c16 {x : Nat} (hx : x < 127) : ((nI x).toUInt32 % 65536).toInt32 = nI x := by
  rw [pk_char, pk_tn (by omega), Nat.mod_eq_of_lt (by omega)]
theorem f_cutOne {q ka pa : Nat} {s : TS} (h : CTx X p T c) (hp : ¬ SQ q ka pa p ∧ ¬ SQ q ka pa (p + 1)) (L : LTk X q ka pa T) (hne : ka ≠ pa) (C : CTo X q ka pa s.2.1 s.2.2.1 s.2.2.2) (hs : TSo T s) (hk : s.1 < T) : ∃ X1, fX8_cutOne q p (nI s.1) X = some (nI (tstp c T s).1, X1) ∧ xfm (SQ q ka pa) X X1 ∧ CTo X1 q ka pa (tstp c T s).2.1 (tstp c T s).2.2.1 (tstp c T s).2.2.2 := by
  have hT := h.2.2.2.2.1
  have hb := cx_b h hk
  obtain ⟨t1, t2, -⟩ := hs
  have hlet : fX8_isLetter (nI (c s.1)) X = some (b01 (inR 97 122 (c s.1)), X) := by
    unfold fX8_isLetter
    rw [f_isWithin, sb]
    dsimp only
    rw [show bw (nI (c s.1)) 97 122 = b01 (inR 97 122 (c s.1)) from bw_r (lo := 97) (hi := 122) hb (by decide) (by decide), show zG (b01 (inR 97 122 (c s.1))) = some () from if_pos (b01_01 _), sb]
  have hdig : bw (nI (c s.1)) 48 57 = b01 (inR 48 57 (c s.1)) := bw_r (lo := 48) (hi := 57) hb (by decide) (by decide)
  have fin : ¬ ws (c s.1) → ∃ X1, fX8_addToken q (nI (tkd c T s.1)) (nI s.1) X = some X1 ∧ xfm (SQ q ka pa) X X1 ∧ CTo X1 q ka pa (tstp c T s).2.1 (tstp c T s).2.2.1 (tstp c T s).2.2.2 ∧ (tstp c T s).1 = nxt c T s.1 := fun hw => by
    obtain ⟨X1, g1, g2, g3⟩ := f_addToken L hT hne C (by omega) (tkd c T s.1) s.1
    unfold tstp
    rw [if_neg hw]
    exact ⟨X1, g1, g2, g3, rfl⟩
  unfold fX8_cutOne
  rw [gR_of h.1 h.2.1, sb, cx h hk, sb, hlet, sb]
  dsimp only
  by_cases c1 : inR 97 122 (c s.1)
  · have hw : ¬ ws (c s.1) := fun z => by have := c1.1; omega
    obtain ⟨X1, g1, g2, g3, g4⟩ := fin hw
    have hE := rE_p (c := c) (lo := 97) (hi := 122) (Nat.le_of_lt hk)
    rw [b01_y c1, if_neg (by decide), show fX8_endOfRun p (nI s.1) 97 122 X = some (nI (rE c T 97 122 s.1), X) from f_run (lo := 97) (hi := 122) h (by decide) (by decide) (Nat.le_of_lt hk), sb]
    dsimp only
    rw [f_nameAt h hE.1 hE.2.1 hE.2.2.1, sb]
    dsimp only
    rw [show nmK c s.1 (rE c T 97 122 s.1) = tkd c T s.1 from (if_pos c1).symm, gK_of' L.1, sb, g1, sb]
    refine ⟨X1, ?_, g2, g3⟩
    rw [g4, show nxt c T s.1 = rE c T 97 122 s.1 from if_pos c1]
  · rw [b01_n c1, if_pos rfl, f_isWithin, sb]
    dsimp only
    rw [hdig]
    by_cases c2 : inR 48 57 (c s.1)
    · have hw : ¬ ws (c s.1) := fun z => by have := c2.1; omega
      obtain ⟨X1, g1, g2, g3, g4⟩ := fin hw
      have hE := rE_p (c := c) (lo := 48) (hi := 57) (Nat.le_of_lt hk)
      rw [b01_y c2, if_neg (by decide), show fX8_endOfRun p (nI s.1) 48 57 X = some (nI (rE c T 48 57 s.1), X) from f_run (lo := 48) (hi := 57) h (by decide) (by decide) (Nat.le_of_lt hk), sb]
      dsimp only
      rw [f_numberAt h hE.1 hE.2.1 hE.2.2.1, sb]
      dsimp only
      rw [show numK c s.1 (rE c T 48 57 s.1) = tkd c T s.1 from ((if_neg c1).trans (if_pos c2)).symm, gK_of' L.1, sb, g1, sb]
      refine ⟨X1, ?_, g2, g3⟩
      rw [g4, show nxt c T s.1 = rE c T 48 57 s.1 from (if_neg c1).trans (if_pos c2)]
    · rw [b01_n c2, if_pos rfl]
      by_cases hw : ws (c s.1)
      · have e : tstp c T s = (s.1 + 1, s.2) := if_pos hw
        refine ⟨X, ?_, xfm.rf _ _, by rw [e]; exact C⟩
        unfold fX8_cutOne_j118
        rw [e, nI_1]
        rcases hw with z | z
        · rw [if_pos (by rw [z]; rfl)]
        · rw [if_pos (c := nI (c s.1) = 32) (by rw [z]; rfl), ite_self]
      · obtain ⟨X1, g1, g2, g3, g4⟩ := fin hw
        have n1 : ¬ nI (c s.1) = 10 := fun z => hw (Or.inl ((nI_eq (b := 10) (by omega) (by decide)).mp z))
        have n2 : ¬ nI (c s.1) = 32 := fun z => hw (Or.inr ((nI_eq (b := 32) (by omega) (by decide)).mp z))
        have ek : tkd c T s.1 = sgK (c s.1) := (if_neg c1).trans (if_neg c2)
        have en : nxt c T s.1 = s.1 + 1 := (if_neg c1).trans (if_neg c2)
        have j114 : ∀ x : Int32, x = nI (sgK (c s.1)) → fX8_cutOne_j114 (nI s.1) x q X = some (nI (tstp c T s).1, X1) := by
          rintro x rfl
          unfold fX8_cutOne_j114 fX8_cutOne_j118
          rw [gK_of' L.1, sb, ← ek, g1, sb, nI_1, g4, en]
        obtain ⟨r, r1, r2⟩ := j_indexOf hb X
        rw [if_neg n1, if_neg n2, c16 hb, r1, sb]
        dsimp only
        refine ⟨X1, ?_, g2, g3⟩
        rcases r2 with ⟨i, hi, rfl, he⟩ | ⟨rfl, he⟩
        · rw [if_pos (nI_pos' (by omega))]
          refine j114 _ ?_
          rw [(sgK_p (c s.1) hb i hi).mp he]
          exact nI_add 17 i
        · rw [if_neg (by decide)]
          refine j114 _ ?_
          have : sgK (c s.1) = 25 := by
            rcases sgK_b (c s.1) hb with z | z
            · exact absurd ((sgK_p (c s.1) hb (sgK (c s.1) - 17) (by omega)).mpr (by omega)) (he _ (by omega))
            · exact z
          rw [this]
          rfl
theorem f_cutText {q ka pa : Nat} (h : CTx X p T c) (hp : ¬ SQ q ka pa p ∧ ¬ SQ q ka pa (p + 1)) (L : LTk X q ka pa T) (hne : ka ≠ pa) : ∃ X1, fX8_cutText q p X = some X1 ∧ xfm (SQ q ka pa) X X1 ∧ TSo T (tfin c T) ∧ CTo X1 q ka pa ((tfin c T).2.1 + 1) (fun j => if j = (tfin c T).2.1 then 24 else (tfin c T).2.2.1 j) (fun j => if j = (tfin c T).2.1 then T else (tfin c T).2.2.2 j) := by
  have hT := h.2.2.2.2.1
  have F0 : xfm (SQ q ka pa) X (wI X q 2 0) := xfm.wI (Or.inl rfl)
  have key := iterP2 (b := fun rec => fX8_cutText_l7_b rec q p) (z := fun _ _ => none) (fun m a Z => ∃ s : TS, m = T - s.1 ∧ a = nI s.1 ∧ xfm (SQ q ka pa) X Z ∧ CTo Z q ka pa s.2.1 s.2.2.1 s.2.2.2 ∧ TSo T s ∧ trun c T (T - s.1) s = tfin c T) (fun Z => xfm (SQ q ka pa) X Z ∧ CTo Z q ka pa (tfin c T).2.1 (tfin c T).2.2.1 (tfin c T).2.2.2 ∧ TSo T (tfin c T)) ?_ FU T (nI 0) (wI X q 2 0) (FUlt (by omega)) ⟨ts0, rfl, rfl, F0, ⟨xI_we, fun j hj => absurd hj (Nat.not_lt_zero _)⟩, ⟨Nat.zero_le _, Nat.le_refl _, fun j hj => absurd hj (Nat.not_lt_zero _)⟩, rfl⟩
  · obtain ⟨Z, g1, g2, g3, g4⟩ := key
    have hz := h.mf g2 hp.1 hp.2
    have L1 := L.mv g2
    obtain ⟨X1, x1, x2, x3⟩ := f_addToken L1 hT hne g3 (by have := g4.1; have := g4.2.1; omega) 24 T
    refine ⟨X1, ?_, g2.tr x2, g4, x3⟩
    unfold fX8_cutText
    rw [pI_of L.1, sb, show fX8_cutText_l7 q p FU 0 (wI X q 2 0) = some Z from g1, sb, gI_of hz.1, sb, hz.2.2.2.1, gK_of' L1.1, sb, show fX8_addToken q 24 (nI T) Z = some X1 from x1, sb]
  rintro m a Z ⟨s, rfl, rfl, F, C, hs, hr⟩
  have hz := h.mf F hp.1 hp.2
  have L1 := L.mv F
  by_cases e : s.1 = T
  · left
    have ef : s = tfin c T := by
      rw [← hr, e, Nat.sub_self]
      rfl
    refine ⟨Z, fun rec => ?_, F, by rw [← ef]; exact C, by rw [← ef]; exact hs⟩
    unfold fX8_cutText_l7_b
    rw [gI_of hz.1, sb, hz.2.2.2.1, if_pos (nI_le (by omega) (by omega))]
  · right
    have hk : s.1 < T := by
      have := hs.1
      omega
    have hb := tstp_b (c := c) (T := T) (s := s) hk
    obtain ⟨X1, x1, x2, x3⟩ := f_cutOne hz hp L1 hne C hs hk
    refine ⟨T - (tstp c T s).1, nI (tstp c T s).1, X1, by omega, ⟨tstp c T s, rfl, rfl, F.tr x2, x3, hs.stp hk (cx_b hz hk), by rw [← trun_s hk]; exact hr⟩, fun rec => ?_⟩
    unfold fX8_cutText_l7_b
    rw [gI_of hz.1, sb, hz.2.2.2.1, if_neg (nI_ge hk (by omega)), gK_of' L1.1, sb, x1, sb]
    dsimp only
    rw [nI_1, show iMx (nI (s.1 + 1)) (nI (tstp c T s).1) = nI (tstp c T s).1 from ?_]
    unfold iMx
    by_cases z : s.1 + 1 < (tstp c T s).1
    · rw [if_pos (nI_lt z (by omega))]
    · rw [if_neg (nI_nlt (by omega) (by omega)), show s.1 + 1 = (tstp c T s).1 by omega]
end CTk
