/-! CHANGING: ideal, speed, take, manner, tune, hand -/
theorem xI_wn {X : XW} {a k j : Nat} {x : Int32} (h : j ≠ k) : xI (wI X a k x) a j = xI X a j := by rw [xI_wI, if_neg (fun e => h e.2)]
theorem xI_we {X : XW} {a k : Nat} {x : Int32} : xI (wI X a k x) a k = x := by rw [xI_wI, if_pos ⟨rfl, rfl⟩]
theorem xI_wa {X : XW} {a b k : Nat} {x : Int32} (h : a ≠ b) : xI (wI X b k x) a = xI X a := by
  funext j
  rw [xI_wI, if_neg (fun e => h e.1)]
theorem wFs_f (X : XW) (v : Nat) : xfm (fun a => a = v + 7 ∨ a = v + 31) X (wFs X v) := (xfm.wI (Or.inl rfl)).tr (xfm.wI (Or.inr rfl))
theorem wFs_7 (X : XW) (v : Nat) : xI (wFs X v) (v + 7) 2 = -1 := by
  unfold wFs
  rw [xI_wa (by omega), xI_we]
theorem wFs_31 (X : XW) (v : Nat) : xI (wFs X v) (v + 31) 2 = -1 := by
  unfold wFs
  rw [xI_we]
theorem CSt.xf {X X1 : XW} {v : Nat} {t : St} {S : Nat → Prop} (C : CSt X v t) (F : xfm S X X1) (h0 : ¬ S v) (h3 : ¬ S (v + 3)) (h4 : ¬ S (v + 4)) (hR : ∀ a, v + 55 ≤ a → a < v + 95 → ¬ S a) (hM : ∀ m, m < 4 → ¬ S (cM v m)) (hS : ∀ a, S a → SC v a ∨ v + 127 ≤ a ∧ a ≤ v + 169) : CSt X1 v t := by
  obtain ⟨L, C1, C2, C3, C4, C5, C6, C7, C8, C9⟩ := C
  refine ⟨L.mv F, ?_⟩
  rw [(F.2 v h0).1]
  exact ⟨C1, C2, C3, C4, C5, C6, C7.mf F h3 h4, fun r hr => (C8 r hr).mf F (fun a q1 q2 => hR a (by unfold cR at q1; omega) (by unfold cR at q2; omega)), fun m hm => (C9 m hm).mf F (hM m hm) hS⟩
theorem inv_op {X X0 X2 : XW} {v : Nat} {t t' : St} {K : List Nat} (I : Inv X v t) (F : xfm (SC v) X X0) (C : CSt X0 v t') (W : WSt t') (G : mfm (v + 127) K (wFs X0 v) X2) (M : MSt (wFs X0 v) (v + 127) t → MSt X2 (v + 127) t') : Inv X2 v t' := by
  have F1 := wFs_f X0 v
  have F2 : xfm (SC v) X (wFs X0 v) := F.tr (F1.wk (fun a ha => by unfold SC; omega))
  have C1 : CSt (wFs X0 v) v t' := C.xf F1 (by omega) (by omega) (by omega) (by omega) (by unfold cM; omega) (fun a ha => by unfold SC; omega)
  have G1 := G.xf
  refine ⟨C1.mx G, M (I.2.1.xf F2 (fun a q1 q2 => by unfold SC; omega)), W, Or.inl ?_, Or.inl ?_, (I.2.2.2.2.2.1.mv F2).mv G1, by rw [G1.sz, F2.sz]; exact I.2.2.2.2.2.2⟩
  · rw [(G1.2 (v + 7) (by omega)).1]
    exact wFs_7 X0 v
  · rw [(G1.2 (v + 31) (by omega)).1]
    exact wFs_31 X0 v
theorem bw_1 {n a b : Int32} (h : bw n a b = 1) : ¬ n < a ∧ n ≤ b := by
  unfold bw at h
  by_cases h1 : n < a
  · rw [if_pos h1] at h
    exact absurd h (by decide)
  · rw [if_neg h1] at h
    by_cases h2 : b < n
    · rw [if_pos h2] at h
      exact absurd h (by decide)
    · exact ⟨h1, Int32.not_lt.mp h2⟩
theorem bw_0 {n a b : Int32} (h : bw n a b = 0) : n < a ∨ ¬ n ≤ b := by
  unfold bw at h
  by_cases h1 : n < a
  · exact Or.inl h1
  · rw [if_neg h1] at h
    by_cases h2 : b < n
    · exact Or.inr (Int32.not_le.mpr h2)
    · rw [if_neg h2] at h
      exact absurd h (by decide)
theorem bw_n {n : Int32} (A B : Nat) (hB : B < 2 ^ 31) (hA : A < 2 ^ 31) (h : bw n (nI A) (nI B) = 1) : ∃ k : Nat, A ≤ k ∧ k ≤ B ∧ n = nI k := by
  obtain ⟨h1, h2⟩ := bw_1 h
  have h0 : ¬ n < 0 := fun q => by
    have q1 := Int32.lt_iff_toInt_lt.mp q
    have q2 : ¬ n.toInt < (nI A).toInt := fun z => h1 (Int32.lt_iff_toInt_lt.mpr z)
    rw [nI_toInt hA] at q2
    rw [show (0 : Int32).toInt = 0 by decide] at q1
    omega
  obtain ⟨k, hk, rfl⟩ := nI_of h0
  refine ⟨k, ?_, (nI_leI hk hB).mp h2, rfl⟩
  by_cases q : A ≤ k
  · exact q
  · exact absurd (nI_lt (by omega) hA) h1
theorem MTp.mf {o : Nat} {X X1 : XW} {t : St} {K : List Nat} (M : MTp X o t) (F : mfm o K X X1) (hK : ∀ k, k ∈ K → k ∉ [1, 2]) : MTp X1 o t := by
  unfold MTp
  rw [F.I (k := 2) (fun q => hK 2 q (by decide)), F.A (k := 1) (fun q => hK 1 q (by decide)) (by decide) (by decide)]
  exact M
section Ops
variable {X : XW} {v : Nat} {t : St}
theorem p_ideal (I : Inv X v t) (n : Int32) : ∃ a X1 X2 t', fX9_ideal v n X = some (a, X1) ∧ fX10_ideal (v + 127) n X1 = some (a, X2) ∧ Inv X2 v t' := by
  rcases bw01 n 1 20 with h | h
  · refine ⟨0, X, wI X (v + 127) 0 0, t, f_ideal_f h, ?_, I.mf (K := [0]) (mfm.wI (by decide)) (by decide)⟩
    unfold fX10_ideal
    rw [pI_M I.2.1.1, sb]
    rcases bw_0 h with q | q
    · rw [if_pos q]
    · rw [if_neg q, ite_self]
  · obtain ⟨q1, q2⟩ := bw_1 h
    obtain ⟨k, k1, k2, rfl⟩ := bw_n 1 20 (by decide) (by decide) h
    have F0 : xfm (SC v) X (wI X v 5 (nI k)) := xfm.wI (by unfold SC; omega)
    have F1 : xfm (SC v) X (wFs (wI X v 5 (nI k)) v) := F0.tr ((wFs_f _ v).wk (fun a ha => by unfold SC; omega))
    have M := I.2.1.xf F1 (fun a q1 q2 => by unfold SC; omega)
    have G0 : mfm (v + 127) [0, 38] (wFs (wI X v 5 (nI k)) v) (wI (wFs (wI X v 5 (nI k)) v) (v + 127) 0 0) := mfm.wI (by decide)
    have F := G0.tr (mfm.wI (k := 38) (v := nI k) (by decide))
    have L0 := M.1.mf G0
    refine ⟨1, _, _, (t.1, t.2.1, t.2.2.1, t.2.2.2.1, t.2.2.2.2.1, k, t.2.2.2.2.2.2), f_ideal_t I.1.1 h, ?_, inv_op I F0 ?_ ?_ F ?_⟩
    · unfold fX10_ideal
      rw [pI_M M.1, sb, if_neg q1, if_pos q2, pI_M L0, sb]
    · obtain ⟨L, C1, C2, C3, C4, C5, C6, C7, C8, C9⟩ := I.1
      exact ⟨L.mv F0, (xI_wn (by decide)).trans C1, (xI_wn (by decide)).trans C2, (xI_wn (by decide)).trans C3, xI_we, (xI_wn (by decide)).trans C5, (xI_wn (by decide)).trans C6, C7.mf (S := fun a => a = v) (xfm.wI rfl) (by omega) (by omega), fun r hr => (C8 r hr).mf (S := fun a => a = v) (xfm.wI rfl) (fun a q1 q2 => by unfold cR at q1; omega), fun m hm => (C9 m hm).mf (S := fun a => a = v) (xfm.wI rfl) (by unfold cM; omega) (fun a ha => by unfold SC; omega)⟩
    · obtain ⟨W1, W2, W3, W4, W5, W6, W7, W8, W9, W10⟩ := I.2.2.1
      exact ⟨W1, W2, W3, W4, W5, W6, W7, k1, k2, W10⟩
    · intro M
      obtain ⟨M1, M2, M3, M4, M5, M6, M7, M8, M9, M10, M11⟩ := M
      exact ⟨M1.mf F, by rw [F.I (k := 28) (by decide)]; exact M2, by rw [F.I (k := 29) (by decide)]; exact M3, by rw [F.I (k := 10) (by decide)]; exact M4, xI_we, by rw [F.I (k := 39) (by decide)]; exact M6, by rw [F.I (k := 40) (by decide)]; exact M7, M8.mf F (by decide), fun r hr => (M9 r hr).mf F (by decide), fun m hm => ⟨(M10 m hm).1.mf F (by decide), (M10 m hm).2.mf F (by decide)⟩, fun k hk => by rw [(F.2.2.2 9 (by decide) (by decide) (by decide)).2]; exact M11 k hk⟩
theorem p_speed (I : Inv X v t) (p q : Int32) : ∃ a X1 X2 t', fX9_speed v p q X = some (a, X1) ∧ fX10_speed (v + 127) p q X1 = some (a, X2) ∧ Inv X2 v t' := by
  by_cases h : bw p 1 100 = 1 ∧ bw q 1 100 = 1
  rotate_left 1
  · have h' : bw p 1 100 = 0 ∨ bw q 1 100 = 0 := by
      rcases bw01 p 1 100 with z | z
      · exact Or.inl z
      · rcases bw01 q 1 100 with y | y
        · exact Or.inr y
        · exact absurd ⟨z, y⟩ h
    refine ⟨0, X, wI X (v + 127) 0 0, t, f_speed_f h', ?_, I.mf (K := [0]) (mfm.wI (by decide)) (by decide)⟩
    unfold fX10_speed
    rw [pI_M I.2.1.1, sb]
    by_cases q1 : p < 1
    · rw [if_pos q1]
    rw [if_neg q1]
    by_cases q2 : 100 < p
    · rw [if_pos q2]
    rw [if_neg q2]
    by_cases q3 : q < 1
    · rw [if_pos q3]
    rw [if_neg q3]
    by_cases q4 : q ≤ 100
    · exact absurd h' (fun z => z.elim (fun z => (bw_0 z).elim q1 (fun y => y (Int32.not_lt.mp q2))) (fun z => (bw_0 z).elim q3 (fun y => y q4)))
    · rw [if_neg q4]
  · obtain ⟨h, h'⟩ := h
    obtain ⟨q1, q2⟩ := bw_1 h
    obtain ⟨q3, q4⟩ := bw_1 h'
    obtain ⟨k, k1, k2, rfl⟩ := bw_n 1 100 (by decide) (by decide) h
    obtain ⟨j, j1, j2, rfl⟩ := bw_n 1 100 (by decide) (by decide) h'
    generalize hX0 : wI (wI X v 6 (nI k)) v 7 (nI j) = X0
    have F0 : xfm (fun a => a = v) X X0 := by rw [← hX0]; exact (xfm.wI (S := fun a => a = v) rfl).tr (xfm.wI rfl)
    have F0' : xfm (SC v) X X0 := F0.wk (fun a ha => by unfold SC; omega)
    have F1 : xfm (SC v) X (wFs X0 v) := F0'.tr ((wFs_f _ v).wk (fun a ha => by unfold SC; omega))
    have M := I.2.1.xf F1 (fun a q1 q2 => by unfold SC; omega)
    have G0 : mfm (v + 127) [0, 39, 40] (wFs X0 v) (wI (wFs X0 v) (v + 127) 0 0) := mfm.wI (by decide)
    have G1 := G0.tr (mfm.wI (k := 39) (v := nI k) (by decide))
    have F := G1.tr (mfm.wI (k := 40) (v := nI j) (by decide))
    have hc := f_speed_t I.1.1 h h'
    rw [hX0] at hc
    refine ⟨1, _, _, (t.1, t.2.1, t.2.2.1, t.2.2.2.1, t.2.2.2.2.1, t.2.2.2.2.2.1, k, j, t.2.2.2.2.2.2.2.2), hc, ?_, inv_op I F0' ?_ ?_ F ?_⟩
    · unfold fX10_speed
      rw [pI_M M.1, sb, if_neg q1, if_neg (Int32.not_lt.mpr q2), if_neg q3, if_pos q4, pI_M (M.1.mf G0), sb, pI_M (M.1.mf G1), sb]
    · obtain ⟨L, C1, C2, C3, C4, C5, C6, C7, C8, C9⟩ := I.1
      exact ⟨L.mv F0, by rw [← hX0, xI_wn (by decide), xI_wn (by decide)]; exact C1, by rw [← hX0, xI_wn (by decide), xI_wn (by decide)]; exact C2, by rw [← hX0, xI_wn (by decide), xI_wn (by decide)]; exact C3, by rw [← hX0, xI_wn (by decide), xI_wn (by decide)]; exact C4, by rw [← hX0, xI_wn (by decide), xI_we]; rfl, by rw [← hX0, xI_we]; rfl, C7.mf F0 (by omega) (by omega), fun r hr => (C8 r hr).mf F0 (fun a q1 q2 => by unfold cR at q1; omega), fun m hm => (C9 m hm).mf F0 (by unfold cM; omega) (fun a ha => by unfold SC; omega)⟩
    · obtain ⟨W1, W2, W3, W4, W5, W6, W7, W8, W9, W10, W11, W12, W13, W14⟩ := I.2.2.1
      exact ⟨W1, W2, W3, W4, W5, W6, W7, W8, W9, k1, k2, j1, j2, W14⟩
    · intro M
      obtain ⟨M1, M2, M3, M4, M5, M6, M7, M8, M9, M10, M11⟩ := M
      exact ⟨M1.mf F, by rw [F.I (k := 28) (by decide)]; exact M2, by rw [F.I (k := 29) (by decide)]; exact M3, by rw [F.I (k := 10) (by decide)]; exact M4, by rw [F.I (k := 38) (by decide)]; exact M5, by rw [xI_wn (by decide), xI_we]; rfl, xI_we, M8.mf F (by decide), fun r hr => (M9 r hr).mf F (by decide), fun m hm => ⟨(M10 m hm).1.mf F (by decide), (M10 m hm).2.mf F (by decide)⟩, fun k hk => by rw [(F.2.2.2 9 (by decide) (by decide) (by decide)).2]; exact M11 k hk⟩
theorem p_take (I : Inv X v t) (n : Int32) : ∃ a X1 X2 t', fX9_take v n X = some (a, X1) ∧ fX10_take (v + 127) n X1 = some (a, X2) ∧ Inv X2 v t' := by
  have W2 := I.2.2.1.2.1
  rcases rd01 (n := n) W2 with ⟨r, hr, rfl, ea⟩ | ea
  rotate_left 1
  · refine ⟨0, X, wI X (v + 127) 0 0, t, ?_, ?_, I.mf (K := [0]) (mfm.wI (by decide)) (by decide)⟩
    · unfold fX9_take
      rw [gK_of' I.1.1.1, sb, f_isReading I.1.1 I.1.2.1, sb, ea]
      dsimp only
      rw [if_pos rfl]
    · have I0 : Inv (wI X (v + 127) 0 0) v t := I.mf (K := [0]) (mfm.wI (by decide)) (by decide)
      unfold fX10_take
      rw [pI_M I.2.1.1, sb, gK_M I0.2.1.1, sb, m_isReading I0.2.1.1 I0.2.1.2.1, sb, ea]
      dsimp only
      rw [if_pos rfl]
  · have F0 : xfm (fun a => a = v) X (wI X v 2 (nI r)) := xfm.wI rfl
    have M := I.2.1.xf F0 (fun a q1 q2 => by omega)
    have G0 : mfm (v + 127) [0, 29] (wI X v 2 (nI r)) (wI (wI X v 2 (nI r)) (v + 127) 0 0) := mfm.wI (by decide)
    have F := G0.tr (mfm.wI (k := 29) (v := nI r) (by decide))
    have L0 := M.1.mf G0
    have e28 : xI (wI (wI X v 2 (nI r)) (v + 127) 0 0) (v + 127) 28 = nI (tC t) := by rw [xI_wn (by decide)]; exact M.2.1
    obtain ⟨C, -, W, c1, c2, l1, z1⟩ := id I
    refine ⟨1, wI X v 2 (nI r), wI (wI (wI X v 2 (nI r)) (v + 127) 0 0) (v + 127) 29 (nI r), (t.1, t.2.1, r, t.2.2.2), f_take_t I.1.1 I.1.2.1 (by omega) hr, ?_, ?_, ?_, ?_, (c1.mf F0 (fun a q1 q2 => by omega)).mf F.xf (fun a q1 q2 => by omega), (c2.mf F0 (fun a q1 q2 => by omega)).mf F.xf (fun a q1 q2 => by omega), (l1.mv F0).mv F.xf, by rw [F.xf.sz, F0.sz]; exact z1⟩
    · unfold fX10_take
      rw [pI_M M.1, sb, gK_M L0, sb, m_isReading L0 e28, sb, ea]
      dsimp only
      rw [if_neg (by decide), pI_M L0, sb]
    · have C' : CSt (wI X v 2 (nI r)) v (t.1, t.2.1, r, t.2.2.2) := by
        obtain ⟨L, C1, C2, C3, C4, C5, C6, C7, C8, C9⟩ := C
        exact ⟨L.mv F0, (xI_wn (by decide)).trans C1, xI_we, (xI_wn (by decide)).trans C3, (xI_wn (by decide)).trans C4, (xI_wn (by decide)).trans C5, (xI_wn (by decide)).trans C6, C7.mf F0 (by omega) (by omega), fun r hr => (C8 r hr).mf F0 (fun a q1 q2 => by unfold cR at q1; omega), fun m hm => (C9 m hm).mf F0 (by unfold cM; omega) (fun a ha => by unfold SC; omega)⟩
      exact C'.mx F
    · obtain ⟨M1, M2, M3, M4, M5, M6, M7, M8, M9, M10, M11⟩ := M
      exact ⟨M1.mf F, by rw [F.I (k := 28) (by decide)]; exact M2, xI_we, by rw [F.I (k := 10) (by decide)]; exact M4, by rw [F.I (k := 38) (by decide)]; exact M5, by rw [F.I (k := 39) (by decide)]; exact M6, by rw [F.I (k := 40) (by decide)]; exact M7, M8.mf F (by decide), fun r hr => (M9 r hr).mf F (by decide), fun m hm => ⟨(M10 m hm).1.mf F (by decide), (M10 m hm).2.mf F (by decide)⟩, fun k hk => by rw [(F.2.2.2 9 (by decide) (by decide) (by decide)).2]; exact M11 k hk⟩
    · obtain ⟨W1, W2, W3, W4⟩ := W
      exact ⟨W1, W2, hr, W4⟩
theorem p_manner (I : Inv X v t) (m lo hi sl : Int32) : ∃ a X1 X2 t', fX9_manner v m lo hi sl X = some (a, X1) ∧ fX10_manner (v + 127) m lo hi sl X1 = some (a, X2) ∧ Inv X2 v t' := by
  by_cases h : mannerOk m lo hi sl
  rotate_left 1
  · refine ⟨0, X, wI X (v + 127) 0 0, t, f_manner_f h, ?_, I.mf (K := [0]) (mfm.wI (by decide)) (by decide)⟩
    unfold fX10_manner
    rw [pI_M I.2.1.1, sb]
    by_cases q1 : m < 0
    · rw [if_pos q1]
    rw [if_neg q1]
    by_cases q2 : 3 < m
    · rw [if_pos q2]
    rw [if_neg q2]
    by_cases q3 : lo < 0
    · rw [if_pos q3]
    rw [if_neg q3]
    by_cases q4 : 99 < hi
    · rw [if_pos q4]
    rw [if_neg q4]
    by_cases q5 : hi < lo
    · rw [if_pos q5]
    rw [if_neg q5]
    by_cases q6 : sl < 1
    · rw [if_pos q6]
    rw [if_neg q6]
    by_cases q7 : sl ≤ 99
    · refine absurd ⟨q1, ?_, q3, q5, q4, ?_⟩ h
      · intro z
        obtain ⟨k, hk, rfl⟩ := nI_of q1
        have z1 : ¬ 3 < k := fun y => q2 (nI_lt (a := 3) y hk)
        have z2 := (nI_leI (a := 4) (by decide) hk).mp z
        omega
      · exact (if_neg q6).trans (if_neg (Int32.not_lt.mpr q7))
    · rw [if_neg q7]
  · obtain ⟨q1, q2, q3, q4, q5, q6⟩ := h
    obtain ⟨q7, q8⟩ := bw_1 q6
    obtain ⟨k, hk, rfl⟩ := nI_of q1
    have k4 : k < 4 := by
      by_cases z : k < 4
      · exact z
      · exact absurd (nI_le (a := 4) (by omega) hk) q2
    obtain ⟨a, ha, rfl⟩ := nI_of q3
    have q9 : nI a ≤ hi := Int32.not_lt.mp q4
    have q10 : hi ≤ 99 := Int32.not_lt.mp q5
    have h0 : ¬ hi < 0 := fun z => nI_pos ha (Int32.lt_of_le_of_lt q9 z)
    obtain ⟨b, hb, rfl⟩ := nI_of h0
    have hab : a ≤ b := (nI_leI ha hb).mp q9
    have hb99 : b ≤ 99 := (nI_leI (b := 99) hb (by decide)).mp q10
    obtain ⟨c, c1, c2, rfl⟩ := bw_n 1 99 (by decide) (by decide) q6
    have hc := f_manner_t I.1.1 k4 ⟨q1, q2, q3, q4, q5, q6⟩
    generalize hX0 : wI (wI (wI (wI X v 4 (nI k)) (cM v k) 1 (nI a)) (cM v k) 2 (nI b)) (cM v k) 3 (nI c) = X0 at hc
    have F0 : xfm (fun x => x = v ∨ x = cM v k) X X0 := by
      rw [← hX0]
      exact (((xfm.wI (Or.inl rfl)).tr (xfm.wI (Or.inr rfl))).tr (xfm.wI (Or.inr rfl))).tr (xfm.wI (Or.inr rfl))
    have F0' : xfm (SC v) X X0 := F0.wk (fun x hx => by unfold SC; unfold cM at hx; omega)
    have F1 : xfm (SC v) X (wFs X0 v) := F0'.tr ((wFs_f _ v).wk (fun a ha => by unfold SC; omega))
    have M := I.2.1.xf F1 (fun a q1 q2 => by unfold SC; omega)
    have hvm : v ≠ cM v k := by unfold cM; omega
    have ev : ∀ j, j ≠ 4 → xI X0 v j = xI X v j := fun j hj => by
      rw [← hX0, xI_wa hvm, xI_wa hvm, xI_wa hvm, xI_wn hj]
    have ev4 : xI X0 v 4 = nI k := by rw [← hX0, xI_wa hvm, xI_wa hvm, xI_wa hvm, xI_we]
    generalize hY : wFs X0 v = Y at *
    have G0 : mfm (v + 127) [0, 10, 11, 12, 13] Y (wI Y (v + 127) 0 0) := mfm.wI (by decide)
    have G1 := G0.tr (mfm.wI (k := 10) (v := nI k) (by decide))
    generalize hY1 : wI (wI Y (v + 127) 0 0) (v + 127) 10 (nI k) = Y1 at *
    have G2 : mfm (v + 127) [0, 10, 11, 12, 13] Y1 (wF Y1 (mA (v + 127) 11) (va_up (xA Y1 (mA (v + 127) 11)) k (nI a))) := mfm.wF (by decide) (by decide) (by decide)
    generalize hY2 : wF Y1 (mA (v + 127) 11) (va_up (xA Y1 (mA (v + 127) 11)) k (nI a)) = Y2 at *
    have G3 : mfm (v + 127) [0, 10, 11, 12, 13] Y2 (wF Y2 (mA (v + 127) 12) (va_up (xA Y2 (mA (v + 127) 12)) k (nI b))) := mfm.wF (by decide) (by decide) (by decide)
    generalize hY3 : wF Y2 (mA (v + 127) 12) (va_up (xA Y2 (mA (v + 127) 12)) k (nI b)) = Y3 at *
    have G4 : mfm (v + 127) [0, 10, 11, 12, 13] Y3 (wF Y3 (mA (v + 127) 13) (va_up (xA Y3 (mA (v + 127) 13)) k (nI c))) := mfm.wF (by decide) (by decide) (by decide)
    generalize hY4 : wF Y3 (mA (v + 127) 13) (va_up (xA Y3 (mA (v + 127) 13)) k (nI c)) = Y4 at *
    have F := ((G1.tr G2).tr G3).tr G4
    have L1 := M.1.mf G1
    have L2 := L1.mf G2
    have L3 := L2.mf G3
    have a11 : xA Y4 (mA (v + 127) 11) = va_up (xA Y (mA (v + 127) 11)) k (nI a) := by
      rw [← hY4, xA_wFm (by decide) (by decide) (by decide), ← hY3, xA_wFm (by decide) (by decide) (by decide), ← hY2, xA_wFe, ← hY1]
      rfl
    have a12 : xA Y4 (mA (v + 127) 12) = va_up (xA Y (mA (v + 127) 12)) k (nI b) := by
      rw [← hY4, xA_wFm (by decide) (by decide) (by decide), ← hY3, xA_wFe, ← hY2, xA_wFm (by decide) (by decide) (by decide), ← hY1]
      rfl
    have a13 : xA Y4 (mA (v + 127) 13) = va_up (xA Y (mA (v + 127) 13)) k (nI c) := by
      rw [← hY4, xA_wFe, ← hY3, xA_wFm (by decide) (by decide) (by decide), ← hY2, xA_wFm (by decide) (by decide) (by decide), ← hY1]
      rfl
    refine ⟨1, Y, Y4, (t.1, t.2.1, t.2.2.1, (fun j => if j = k then (a, b, c, qN (tM t k), qF (tM t k)) else tM t j), k, t.2.2.2.2.2), hc, ?_, ?_⟩
    · unfold fX10_manner
      rw [pI_M M.1, sb, if_neg q1, if_neg (show ¬ (3 : Int32) < nI k from nI_nlt (a := 3) (by omega) (by decide)), if_neg q3, if_neg q5, if_neg q4, if_neg q7, if_pos q8, pI_M (M.1.mf G0), sb, hY1, rM11 L1, sb, uM11 L1 k4, sb, hY2, rM12 L2, sb, uM12 L2 k4, sb, hY3, rM13 L3, sb, uM13 L3 k4, sb, hY4]
    · subst hY
      refine inv_op I F0' ?_ ?_ F ?_
      · obtain ⟨L, C1, C2, C3, C4, C5, C6, C7, C8, C9⟩ := I.1
        refine ⟨L.mv F0, (ev 1 (by decide)).trans C1, (ev 2 (by decide)).trans C2, ev4, (ev 5 (by decide)).trans C4, (ev 6 (by decide)).trans C5, (ev 7 (by decide)).trans C6, C7.mf F0 (by unfold cM; omega) (by unfold cM; omega), fun r hr => (C8 r hr).mf F0 (fun x y1 y2 => by unfold cR at y1 y2; unfold cM; omega), fun j hj => ?_⟩
        show CMn X0 v j (if j = k then (a, b, c, qN (tM t k), qF (tM t k)) else tM t j)
        by_cases e : j = k
        · subst e
          rw [if_pos rfl]
          obtain ⟨-, R, r2, r3, r4⟩ := C9 j hj
          refine ⟨⟨(F0.kd _).trans (L.mn hj).2, ?_, ?_, ?_⟩, R, (F0.rr _ _).trans r2, by rw [F0.sz]; exact r3, r4.mf F0 (fun x y1 y2 => by unfold RAd at r3; unfold cM; omega)⟩
          · rw [← hX0, xI_wn (by decide), xI_wn (by decide), xI_we]; rfl
          · rw [← hX0, xI_wn (by decide), xI_we]; rfl
          · rw [← hX0, xI_we]; rfl
        · rw [if_neg e]
          exact (C9 j hj).mf F0 (by unfold cM; omega) (fun x hx => by unfold cM at hx; unfold SC; omega)
      · obtain ⟨W1, W2, W3, W4, W5, W6, W7, W8⟩ := I.2.2.1
        refine ⟨W1, W2, W3, W4, W5, k4, fun j hj => ?_, W8⟩
        show okM (if j = k then (a, b, c, qN (tM t k), qF (tM t k)) else tM t j)
        by_cases e : j = k
        · rw [if_pos e]
          exact ⟨hab, hb99, c1, c2, (W7 k k4).2.2.2.2⟩
        · rw [if_neg e]
          exact W7 j hj
      · intro M
        obtain ⟨M1, M2, M3, M4, M5, M6, M7, M8, M9, M10, M11⟩ := M
        have i10 : xI Y4 (v + 127) 10 = nI k := by
          rw [← hY4, xI_wF, ← hY3, xI_wF, ← hY2, xI_wF, ← hY1, xI_we]
        refine ⟨M1.mf F, by rw [F.I (k := 28) (by decide)]; exact M2, by rw [F.I (k := 29) (by decide)]; exact M3, i10, by rw [F.I (k := 38) (by decide)]; exact M5, by rw [F.I (k := 39) (by decide)]; exact M6, by rw [F.I (k := 40) (by decide)]; exact M7, M8.mf F (by decide), fun r hr => (M9 r hr).mf F (by decide), fun j hj => ⟨?_, ?_⟩, fun k hk => by rw [(F.2.2.2 9 (by decide) (by decide) (by decide)).2]; exact M11 k hk⟩
        · show MMn Y4 (v + 127) j (qL (if j = k then (a, b, c, qN (tM t k), qF (tM t k)) else tM t j)) (qH (if j = k then (a, b, c, qN (tM t k), qF (tM t k)) else tM t j)) (qS (if j = k then (a, b, c, qN (tM t k), qF (tM t k)) else tM t j))
          unfold MMn
          rw [a11, a12, a13]
          by_cases e : j = k
          · subst e
            rw [if_pos rfl, upE, upE, upE]
            exact ⟨rfl, rfl, rfl⟩
          · rw [if_neg e, upN e, upN e, upN e]
            exact (M10 j hj).1
        · show MRu Y4 (v + 127) j (qN (if j = k then (a, b, c, qN (tM t k), qF (tM t k)) else tM t j)) (qF (if j = k then (a, b, c, qN (tM t k), qF (tM t k)) else tM t j))
          have h2 := (M10 j hj).2.mf F (by decide)
          by_cases e : j = k
          · subst e
            rw [if_pos rfl]
            exact h2
          · rw [if_neg e]
            exact h2
end Ops
