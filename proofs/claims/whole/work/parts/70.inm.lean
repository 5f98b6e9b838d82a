/-! THE BEGINNING: the reference (written by mkinm.py) -/
section Inm
variable {X X1 : XW} {o : Nat}
theorem OB.nw {a ci t M k : Nat} {n : Int32} {L : List (Nat × Nat × Nat)} (O : OB X a ci L) (hn : ¬ n < 0) (hM : n.toNatClampNeg ≤ M) (hk : ∀ e, e ∈ L → e.1 ≠ k) : (∀ (f : XW → Option XW), (nA X t M n >>= fun r => pR r.2 a ci k r.1 >>= f) = f (nAR X a k t n.toNatClampNeg)) ∧ OB (nAR X a k t n.toNatClampNeg) a ci (L ++ [(k, t, n.toNatClampNeg)]) ∧ xI (nAR X a k t n.toNatClampNeg) a = xI X a ∧ xag a X (nAR X a k t n.toNatClampNeg) := by
  obtain ⟨X1, e, O1, i1, g1⟩ := O.new (t := t) (k := k) hn hM hk
  have k1 : xKd (wN X (20 + t) n.toNatClampNeg) a = ci + 1 := by rw [kd_wN, if_neg (by have := O.2.1; omega)]; exact O.1
  have h := e some
  unfold nA pR at h
  rw [if_pos ⟨hn, hM⟩, sb] at h
  dsimp only at h
  rw [if_pos k1, sb] at h
  have h' : nAR X a k t n.toNatClampNeg = X1 := Option.some.inj h
  rw [h']
  exact ⟨e, O1, i1, g1⟩
theorem OB.nx {a ci t M k : Nat} {n : Int32} {L : List (Nat × Nat × Nat)} (O : OB X a ci L) (hn : ¬ n < 0) (hM : n.toNatClampNeg ≤ M) (hk : ∀ e, e ∈ L → e.1 ≠ k) : ∃ X1, (∀ (f : XW → Option XW), (nA X t M n >>= fun r => pR r.2 a ci k r.1 >>= f) = f X1) ∧ OB X1 a ci (L ++ [(k, t, n.toNatClampNeg)]) ∧ xI X1 a = xI X a ∧ xag a X X1 ∧ ∀ b, b < X.1 → xL X1 b = xL X b := by
  obtain ⟨e, O1, i1, g1⟩ := O.nw (t := t) (k := k) hn hM hk
  exact ⟨_, e, O1, i1, g1, fun b hb => funext fun j => if_neg (by omega)⟩
theorem uL_of {a n i : Nat} {w : Int64} (h : xKd X a = 22) (hl : xLn X a = n) (hi : i < n) (hn : n < 2 ^ 31) : uL X a (nI i) w = some (wL X a i w) := by
  unfold uL
  rw [if_pos ⟨h, by rw [hl]; exact in_nI hi hn⟩, nI_clamp (by omega)]

theorem m_in1 (O : OB X o 10 []) : ∃ X1, (∀ f : XW → Option XW, (nA X 1 1000 1000 >>= fun r1 => pR r1.2 o 10 1 r1.1 >>= fun X3 => nA X3 1 1002 1002 >>= fun r5 => pR r5.2 o 10 4 r5.1 >>= fun X7 => nA X7 1 1002 1002 >>= fun r9 => pR r9.2 o 10 5 r9.1 >>= fun X11 => nA X11 2 1002 1002 >>= fun r13 => pR r13.2 o 10 6 r13.1 >>= f) = f X1) ∧ OB X1 o 10 [(1, 1, 1000), (4, 1, 1002), (5, 1, 1002), (6, 2, 1002)] ∧ (xI X1 o = xI X o) ∧ xag o X X1 ∧ ∀ b, b < X.1 → xL X1 b = xL X b := by
  obtain ⟨A1, e1, O1, i1, g1, x1⟩ := O.nx (t := 1) (M := 1000) (n := 1000) (k := 1) (by decide) (by decide) (by decide)
  have z1 : X.1 ≤ A1.1 := g1.1
  obtain ⟨A2, e2, O2, i2, g2, x2⟩ := O1.nx (t := 1) (M := 1002) (n := 1002) (k := 4) (by decide) (by decide) (by decide)
  have z2 : A1.1 ≤ A2.1 := g2.1
  obtain ⟨A3, e3, O3, i3, g3, x3⟩ := O2.nx (t := 1) (M := 1002) (n := 1002) (k := 5) (by decide) (by decide) (by decide)
  have z3 : A2.1 ≤ A3.1 := g3.1
  obtain ⟨A4, e4, O4, i4, g4, x4⟩ := O3.nx (t := 2) (M := 1002) (n := 1002) (k := 6) (by decide) (by decide) (by decide)
  have z4 : A3.1 ≤ A4.1 := g4.1
  have zz : ∀ b, b < X.1 → b < A1.1 ∧ b < A2.1 ∧ b < A3.1 ∧ b < A4.1 := fun b hb => ⟨by omega, by omega, by omega, by omega⟩
  refine ⟨A4, fun f => ?_, O4, ?_, (((g1).tr g2).tr g3).tr g4, fun b hb => ?_⟩
  · rw [e1, e2, e3, e4]
  · rw [i4, i3, i2, i1]
  · have q := zz b hb
    rw [x4 b (by omega), x3 b (by omega), x2 b (by omega), x1 b (by omega)]
theorem m_in2 (O : OB X o 10 [(1, 1, 1000), (4, 1, 1002), (5, 1, 1002), (6, 2, 1002)]) : ∃ X1, (∀ f : XW → Option XW, (nA X 2 17 17 >>= fun r17 => uL r17.2 r17.1 0 26216 >>= fun X19 => uL X19 r17.1 1 1521 >>= fun X21 => uL X21 r17.1 2 1176170 >>= fun X23 => uL X23 r17.1 3 1891 >>= fun X25 => uL X25 r17.1 4 842217762 >>= fun X27 => uL X27 r17.1 5 564588237 >>= fun X29 => uL X29 r17.1 6 30778061 >>= fun X31 => uL X31 r17.1 7 30595897 >>= fun X33 => uL X33 r17.1 8 614923 >>= fun X35 => uL X35 r17.1 9 1355937724 >>= fun X37 => uL X37 r17.1 10 75125782 >>= fun X39 => uL X39 r17.1 11 19374 >>= fun X41 => uL X41 r17.1 12 324290739998 >>= fun X43 => uL X43 r17.1 13 1125410431 >>= fun X45 => uL X45 r17.1 14 11720058 >>= fun X47 => uL X47 r17.1 15 1186224 >>= fun X49 => uL X49 r17.1 16 1042332 >>= fun X51 => pR X51 o 10 9 r17.1 >>= f) = f X1) ∧ OB X1 o 10 [(1, 1, 1000), (4, 1, 1002), (5, 1, 1002), (6, 2, 1002), (9, 2, 17)] ∧ xI X1 o = xI X o ∧ xag o X X1 ∧ ∀ k, k < 17 → xL X1 (o + 5) k = wds k := by
  obtain ⟨-, O1, i1, g1⟩ := O.nw (t := 2) (M := 17) (n := 17) (k := 9) (by decide) (by decide) (by decide)
  have hz : X.1 = o + 5 := O.2.1
  have hko : xKd (wN X 22 17) o = 10 + 1 := by rw [kd_wN, if_neg (by omega)]; exact O.1
  have k0 : xKd (wN X 22 17) (o + 5) = 22 := by rw [kd_wN, if_pos hz.symm]
  have l0 : xLn (wN X 22 17) (o + 5) = 17 := by rw [ln_wN, if_pos hz.symm]
  have step : ∀ (i : Nat) (w : Int64) (Y : XW), i < 17 → xKd Y (o + 5) = 22 → xLn Y (o + 5) = 17 → uL Y (o + 5) (nI i) w = some (wL Y (o + 5) i w) := fun i w Y hi h1 h2 => uL_of h1 h2 hi (by decide)
  generalize hW : (wL (wL (wL (wL (wL (wL (wL (wL (wL (wL (wL (wL (wL (wL (wL (wL (wL (wN X 22 17) (o + 5) 0 26216) (o + 5) 1 1521) (o + 5) 2 1176170) (o + 5) 3 1891) (o + 5) 4 842217762) (o + 5) 5 564588237) (o + 5) 6 30778061) (o + 5) 7 30595897) (o + 5) 8 614923) (o + 5) 9 1355937724) (o + 5) 10 75125782) (o + 5) 11 19374) (o + 5) 12 324290739998) (o + 5) 13 1125410431) (o + 5) 14 11720058) (o + 5) 15 1186224) (o + 5) 16 1042332 : XW) = W
  have W5 : ∀ k, k < 17 → xL W (o + 5) k = wds k := fun k hk => by
    rw [← hW]
    match k, hk with
    | 0, _ => exact (if_neg (fun z => absurd z.2 (by decide))).trans ((if_neg (fun z => absurd z.2 (by decide))).trans ((if_neg (fun z => absurd z.2 (by decide))).trans ((if_neg (fun z => absurd z.2 (by decide))).trans ((if_neg (fun z => absurd z.2 (by decide))).trans ((if_neg (fun z => absurd z.2 (by decide))).trans ((if_neg (fun z => absurd z.2 (by decide))).trans ((if_neg (fun z => absurd z.2 (by decide))).trans ((if_neg (fun z => absurd z.2 (by decide))).trans ((if_neg (fun z => absurd z.2 (by decide))).trans ((if_neg (fun z => absurd z.2 (by decide))).trans ((if_neg (fun z => absurd z.2 (by decide))).trans ((if_neg (fun z => absurd z.2 (by decide))).trans ((if_neg (fun z => absurd z.2 (by decide))).trans ((if_neg (fun z => absurd z.2 (by decide))).trans ((if_neg (fun z => absurd z.2 (by decide))).trans (if_pos ⟨rfl, rfl⟩))))))))))))))))
    | 1, _ => exact (if_neg (fun z => absurd z.2 (by decide))).trans ((if_neg (fun z => absurd z.2 (by decide))).trans ((if_neg (fun z => absurd z.2 (by decide))).trans ((if_neg (fun z => absurd z.2 (by decide))).trans ((if_neg (fun z => absurd z.2 (by decide))).trans ((if_neg (fun z => absurd z.2 (by decide))).trans ((if_neg (fun z => absurd z.2 (by decide))).trans ((if_neg (fun z => absurd z.2 (by decide))).trans ((if_neg (fun z => absurd z.2 (by decide))).trans ((if_neg (fun z => absurd z.2 (by decide))).trans ((if_neg (fun z => absurd z.2 (by decide))).trans ((if_neg (fun z => absurd z.2 (by decide))).trans ((if_neg (fun z => absurd z.2 (by decide))).trans ((if_neg (fun z => absurd z.2 (by decide))).trans ((if_neg (fun z => absurd z.2 (by decide))).trans (if_pos ⟨rfl, rfl⟩)))))))))))))))
    | 2, _ => exact (if_neg (fun z => absurd z.2 (by decide))).trans ((if_neg (fun z => absurd z.2 (by decide))).trans ((if_neg (fun z => absurd z.2 (by decide))).trans ((if_neg (fun z => absurd z.2 (by decide))).trans ((if_neg (fun z => absurd z.2 (by decide))).trans ((if_neg (fun z => absurd z.2 (by decide))).trans ((if_neg (fun z => absurd z.2 (by decide))).trans ((if_neg (fun z => absurd z.2 (by decide))).trans ((if_neg (fun z => absurd z.2 (by decide))).trans ((if_neg (fun z => absurd z.2 (by decide))).trans ((if_neg (fun z => absurd z.2 (by decide))).trans ((if_neg (fun z => absurd z.2 (by decide))).trans ((if_neg (fun z => absurd z.2 (by decide))).trans ((if_neg (fun z => absurd z.2 (by decide))).trans (if_pos ⟨rfl, rfl⟩))))))))))))))
    | 3, _ => exact (if_neg (fun z => absurd z.2 (by decide))).trans ((if_neg (fun z => absurd z.2 (by decide))).trans ((if_neg (fun z => absurd z.2 (by decide))).trans ((if_neg (fun z => absurd z.2 (by decide))).trans ((if_neg (fun z => absurd z.2 (by decide))).trans ((if_neg (fun z => absurd z.2 (by decide))).trans ((if_neg (fun z => absurd z.2 (by decide))).trans ((if_neg (fun z => absurd z.2 (by decide))).trans ((if_neg (fun z => absurd z.2 (by decide))).trans ((if_neg (fun z => absurd z.2 (by decide))).trans ((if_neg (fun z => absurd z.2 (by decide))).trans ((if_neg (fun z => absurd z.2 (by decide))).trans ((if_neg (fun z => absurd z.2 (by decide))).trans (if_pos ⟨rfl, rfl⟩)))))))))))))
    | 4, _ => exact (if_neg (fun z => absurd z.2 (by decide))).trans ((if_neg (fun z => absurd z.2 (by decide))).trans ((if_neg (fun z => absurd z.2 (by decide))).trans ((if_neg (fun z => absurd z.2 (by decide))).trans ((if_neg (fun z => absurd z.2 (by decide))).trans ((if_neg (fun z => absurd z.2 (by decide))).trans ((if_neg (fun z => absurd z.2 (by decide))).trans ((if_neg (fun z => absurd z.2 (by decide))).trans ((if_neg (fun z => absurd z.2 (by decide))).trans ((if_neg (fun z => absurd z.2 (by decide))).trans ((if_neg (fun z => absurd z.2 (by decide))).trans ((if_neg (fun z => absurd z.2 (by decide))).trans (if_pos ⟨rfl, rfl⟩))))))))))))
    | 5, _ => exact (if_neg (fun z => absurd z.2 (by decide))).trans ((if_neg (fun z => absurd z.2 (by decide))).trans ((if_neg (fun z => absurd z.2 (by decide))).trans ((if_neg (fun z => absurd z.2 (by decide))).trans ((if_neg (fun z => absurd z.2 (by decide))).trans ((if_neg (fun z => absurd z.2 (by decide))).trans ((if_neg (fun z => absurd z.2 (by decide))).trans ((if_neg (fun z => absurd z.2 (by decide))).trans ((if_neg (fun z => absurd z.2 (by decide))).trans ((if_neg (fun z => absurd z.2 (by decide))).trans ((if_neg (fun z => absurd z.2 (by decide))).trans (if_pos ⟨rfl, rfl⟩)))))))))))
    | 6, _ => exact (if_neg (fun z => absurd z.2 (by decide))).trans ((if_neg (fun z => absurd z.2 (by decide))).trans ((if_neg (fun z => absurd z.2 (by decide))).trans ((if_neg (fun z => absurd z.2 (by decide))).trans ((if_neg (fun z => absurd z.2 (by decide))).trans ((if_neg (fun z => absurd z.2 (by decide))).trans ((if_neg (fun z => absurd z.2 (by decide))).trans ((if_neg (fun z => absurd z.2 (by decide))).trans ((if_neg (fun z => absurd z.2 (by decide))).trans ((if_neg (fun z => absurd z.2 (by decide))).trans (if_pos ⟨rfl, rfl⟩))))))))))
    | 7, _ => exact (if_neg (fun z => absurd z.2 (by decide))).trans ((if_neg (fun z => absurd z.2 (by decide))).trans ((if_neg (fun z => absurd z.2 (by decide))).trans ((if_neg (fun z => absurd z.2 (by decide))).trans ((if_neg (fun z => absurd z.2 (by decide))).trans ((if_neg (fun z => absurd z.2 (by decide))).trans ((if_neg (fun z => absurd z.2 (by decide))).trans ((if_neg (fun z => absurd z.2 (by decide))).trans ((if_neg (fun z => absurd z.2 (by decide))).trans (if_pos ⟨rfl, rfl⟩)))))))))
    | 8, _ => exact (if_neg (fun z => absurd z.2 (by decide))).trans ((if_neg (fun z => absurd z.2 (by decide))).trans ((if_neg (fun z => absurd z.2 (by decide))).trans ((if_neg (fun z => absurd z.2 (by decide))).trans ((if_neg (fun z => absurd z.2 (by decide))).trans ((if_neg (fun z => absurd z.2 (by decide))).trans ((if_neg (fun z => absurd z.2 (by decide))).trans ((if_neg (fun z => absurd z.2 (by decide))).trans (if_pos ⟨rfl, rfl⟩))))))))
    | 9, _ => exact (if_neg (fun z => absurd z.2 (by decide))).trans ((if_neg (fun z => absurd z.2 (by decide))).trans ((if_neg (fun z => absurd z.2 (by decide))).trans ((if_neg (fun z => absurd z.2 (by decide))).trans ((if_neg (fun z => absurd z.2 (by decide))).trans ((if_neg (fun z => absurd z.2 (by decide))).trans ((if_neg (fun z => absurd z.2 (by decide))).trans (if_pos ⟨rfl, rfl⟩)))))))
    | 10, _ => exact (if_neg (fun z => absurd z.2 (by decide))).trans ((if_neg (fun z => absurd z.2 (by decide))).trans ((if_neg (fun z => absurd z.2 (by decide))).trans ((if_neg (fun z => absurd z.2 (by decide))).trans ((if_neg (fun z => absurd z.2 (by decide))).trans ((if_neg (fun z => absurd z.2 (by decide))).trans (if_pos ⟨rfl, rfl⟩))))))
    | 11, _ => exact (if_neg (fun z => absurd z.2 (by decide))).trans ((if_neg (fun z => absurd z.2 (by decide))).trans ((if_neg (fun z => absurd z.2 (by decide))).trans ((if_neg (fun z => absurd z.2 (by decide))).trans ((if_neg (fun z => absurd z.2 (by decide))).trans (if_pos ⟨rfl, rfl⟩)))))
    | 12, _ => exact (if_neg (fun z => absurd z.2 (by decide))).trans ((if_neg (fun z => absurd z.2 (by decide))).trans ((if_neg (fun z => absurd z.2 (by decide))).trans ((if_neg (fun z => absurd z.2 (by decide))).trans (if_pos ⟨rfl, rfl⟩))))
    | 13, _ => exact (if_neg (fun z => absurd z.2 (by decide))).trans ((if_neg (fun z => absurd z.2 (by decide))).trans ((if_neg (fun z => absurd z.2 (by decide))).trans (if_pos ⟨rfl, rfl⟩)))
    | 14, _ => exact (if_neg (fun z => absurd z.2 (by decide))).trans ((if_neg (fun z => absurd z.2 (by decide))).trans (if_pos ⟨rfl, rfl⟩))
    | 15, _ => exact (if_neg (fun z => absurd z.2 (by decide))).trans (if_pos ⟨rfl, rfl⟩)
    | 16, _ => exact if_pos ⟨rfl, rfl⟩
    | n + 17, h => exact absurd h (by omega)
  refine ⟨wR W o 9 (some (o + 5)), fun f => ?_, ?_, ?_, ?_, W5⟩
  · have hA : nA X 2 17 17 = some (o + 5, wN X 22 17) := by
      unfold nA
      rw [if_pos (by decide), hz]
      rfl
    rw [hA, sb]
    dsimp only
    rw [show uL (wN X 22 17) (o + 5) 0 26216 = some (wL (wN X 22 17) (o + 5) 0 26216) from step 0 26216 _ (by decide) k0 l0, sb]
    rw [show uL (wL (wN X 22 17) (o + 5) 0 26216) (o + 5) 1 1521 = some (wL (wL (wN X 22 17) (o + 5) 0 26216) (o + 5) 1 1521) from step 1 1521 _ (by decide) k0 l0, sb]
    rw [show uL (wL (wL (wN X 22 17) (o + 5) 0 26216) (o + 5) 1 1521) (o + 5) 2 1176170 = some (wL (wL (wL (wN X 22 17) (o + 5) 0 26216) (o + 5) 1 1521) (o + 5) 2 1176170) from step 2 1176170 _ (by decide) k0 l0, sb]
    rw [show uL (wL (wL (wL (wN X 22 17) (o + 5) 0 26216) (o + 5) 1 1521) (o + 5) 2 1176170) (o + 5) 3 1891 = some (wL (wL (wL (wL (wN X 22 17) (o + 5) 0 26216) (o + 5) 1 1521) (o + 5) 2 1176170) (o + 5) 3 1891) from step 3 1891 _ (by decide) k0 l0, sb]
    rw [show uL (wL (wL (wL (wL (wN X 22 17) (o + 5) 0 26216) (o + 5) 1 1521) (o + 5) 2 1176170) (o + 5) 3 1891) (o + 5) 4 842217762 = some (wL (wL (wL (wL (wL (wN X 22 17) (o + 5) 0 26216) (o + 5) 1 1521) (o + 5) 2 1176170) (o + 5) 3 1891) (o + 5) 4 842217762) from step 4 842217762 _ (by decide) k0 l0, sb]
    rw [show uL (wL (wL (wL (wL (wL (wN X 22 17) (o + 5) 0 26216) (o + 5) 1 1521) (o + 5) 2 1176170) (o + 5) 3 1891) (o + 5) 4 842217762) (o + 5) 5 564588237 = some (wL (wL (wL (wL (wL (wL (wN X 22 17) (o + 5) 0 26216) (o + 5) 1 1521) (o + 5) 2 1176170) (o + 5) 3 1891) (o + 5) 4 842217762) (o + 5) 5 564588237) from step 5 564588237 _ (by decide) k0 l0, sb]
    rw [show uL (wL (wL (wL (wL (wL (wL (wN X 22 17) (o + 5) 0 26216) (o + 5) 1 1521) (o + 5) 2 1176170) (o + 5) 3 1891) (o + 5) 4 842217762) (o + 5) 5 564588237) (o + 5) 6 30778061 = some (wL (wL (wL (wL (wL (wL (wL (wN X 22 17) (o + 5) 0 26216) (o + 5) 1 1521) (o + 5) 2 1176170) (o + 5) 3 1891) (o + 5) 4 842217762) (o + 5) 5 564588237) (o + 5) 6 30778061) from step 6 30778061 _ (by decide) k0 l0, sb]
    rw [show uL (wL (wL (wL (wL (wL (wL (wL (wN X 22 17) (o + 5) 0 26216) (o + 5) 1 1521) (o + 5) 2 1176170) (o + 5) 3 1891) (o + 5) 4 842217762) (o + 5) 5 564588237) (o + 5) 6 30778061) (o + 5) 7 30595897 = some (wL (wL (wL (wL (wL (wL (wL (wL (wN X 22 17) (o + 5) 0 26216) (o + 5) 1 1521) (o + 5) 2 1176170) (o + 5) 3 1891) (o + 5) 4 842217762) (o + 5) 5 564588237) (o + 5) 6 30778061) (o + 5) 7 30595897) from step 7 30595897 _ (by decide) k0 l0, sb]
    rw [show uL (wL (wL (wL (wL (wL (wL (wL (wL (wN X 22 17) (o + 5) 0 26216) (o + 5) 1 1521) (o + 5) 2 1176170) (o + 5) 3 1891) (o + 5) 4 842217762) (o + 5) 5 564588237) (o + 5) 6 30778061) (o + 5) 7 30595897) (o + 5) 8 614923 = some (wL (wL (wL (wL (wL (wL (wL (wL (wL (wN X 22 17) (o + 5) 0 26216) (o + 5) 1 1521) (o + 5) 2 1176170) (o + 5) 3 1891) (o + 5) 4 842217762) (o + 5) 5 564588237) (o + 5) 6 30778061) (o + 5) 7 30595897) (o + 5) 8 614923) from step 8 614923 _ (by decide) k0 l0, sb]
    rw [show uL (wL (wL (wL (wL (wL (wL (wL (wL (wL (wN X 22 17) (o + 5) 0 26216) (o + 5) 1 1521) (o + 5) 2 1176170) (o + 5) 3 1891) (o + 5) 4 842217762) (o + 5) 5 564588237) (o + 5) 6 30778061) (o + 5) 7 30595897) (o + 5) 8 614923) (o + 5) 9 1355937724 = some (wL (wL (wL (wL (wL (wL (wL (wL (wL (wL (wN X 22 17) (o + 5) 0 26216) (o + 5) 1 1521) (o + 5) 2 1176170) (o + 5) 3 1891) (o + 5) 4 842217762) (o + 5) 5 564588237) (o + 5) 6 30778061) (o + 5) 7 30595897) (o + 5) 8 614923) (o + 5) 9 1355937724) from step 9 1355937724 _ (by decide) k0 l0, sb]
    rw [show uL (wL (wL (wL (wL (wL (wL (wL (wL (wL (wL (wN X 22 17) (o + 5) 0 26216) (o + 5) 1 1521) (o + 5) 2 1176170) (o + 5) 3 1891) (o + 5) 4 842217762) (o + 5) 5 564588237) (o + 5) 6 30778061) (o + 5) 7 30595897) (o + 5) 8 614923) (o + 5) 9 1355937724) (o + 5) 10 75125782 = some (wL (wL (wL (wL (wL (wL (wL (wL (wL (wL (wL (wN X 22 17) (o + 5) 0 26216) (o + 5) 1 1521) (o + 5) 2 1176170) (o + 5) 3 1891) (o + 5) 4 842217762) (o + 5) 5 564588237) (o + 5) 6 30778061) (o + 5) 7 30595897) (o + 5) 8 614923) (o + 5) 9 1355937724) (o + 5) 10 75125782) from step 10 75125782 _ (by decide) k0 l0, sb]
    rw [show uL (wL (wL (wL (wL (wL (wL (wL (wL (wL (wL (wL (wN X 22 17) (o + 5) 0 26216) (o + 5) 1 1521) (o + 5) 2 1176170) (o + 5) 3 1891) (o + 5) 4 842217762) (o + 5) 5 564588237) (o + 5) 6 30778061) (o + 5) 7 30595897) (o + 5) 8 614923) (o + 5) 9 1355937724) (o + 5) 10 75125782) (o + 5) 11 19374 = some (wL (wL (wL (wL (wL (wL (wL (wL (wL (wL (wL (wL (wN X 22 17) (o + 5) 0 26216) (o + 5) 1 1521) (o + 5) 2 1176170) (o + 5) 3 1891) (o + 5) 4 842217762) (o + 5) 5 564588237) (o + 5) 6 30778061) (o + 5) 7 30595897) (o + 5) 8 614923) (o + 5) 9 1355937724) (o + 5) 10 75125782) (o + 5) 11 19374) from step 11 19374 _ (by decide) k0 l0, sb]
    rw [show uL (wL (wL (wL (wL (wL (wL (wL (wL (wL (wL (wL (wL (wN X 22 17) (o + 5) 0 26216) (o + 5) 1 1521) (o + 5) 2 1176170) (o + 5) 3 1891) (o + 5) 4 842217762) (o + 5) 5 564588237) (o + 5) 6 30778061) (o + 5) 7 30595897) (o + 5) 8 614923) (o + 5) 9 1355937724) (o + 5) 10 75125782) (o + 5) 11 19374) (o + 5) 12 324290739998 = some (wL (wL (wL (wL (wL (wL (wL (wL (wL (wL (wL (wL (wL (wN X 22 17) (o + 5) 0 26216) (o + 5) 1 1521) (o + 5) 2 1176170) (o + 5) 3 1891) (o + 5) 4 842217762) (o + 5) 5 564588237) (o + 5) 6 30778061) (o + 5) 7 30595897) (o + 5) 8 614923) (o + 5) 9 1355937724) (o + 5) 10 75125782) (o + 5) 11 19374) (o + 5) 12 324290739998) from step 12 324290739998 _ (by decide) k0 l0, sb]
    rw [show uL (wL (wL (wL (wL (wL (wL (wL (wL (wL (wL (wL (wL (wL (wN X 22 17) (o + 5) 0 26216) (o + 5) 1 1521) (o + 5) 2 1176170) (o + 5) 3 1891) (o + 5) 4 842217762) (o + 5) 5 564588237) (o + 5) 6 30778061) (o + 5) 7 30595897) (o + 5) 8 614923) (o + 5) 9 1355937724) (o + 5) 10 75125782) (o + 5) 11 19374) (o + 5) 12 324290739998) (o + 5) 13 1125410431 = some (wL (wL (wL (wL (wL (wL (wL (wL (wL (wL (wL (wL (wL (wL (wN X 22 17) (o + 5) 0 26216) (o + 5) 1 1521) (o + 5) 2 1176170) (o + 5) 3 1891) (o + 5) 4 842217762) (o + 5) 5 564588237) (o + 5) 6 30778061) (o + 5) 7 30595897) (o + 5) 8 614923) (o + 5) 9 1355937724) (o + 5) 10 75125782) (o + 5) 11 19374) (o + 5) 12 324290739998) (o + 5) 13 1125410431) from step 13 1125410431 _ (by decide) k0 l0, sb]
    rw [show uL (wL (wL (wL (wL (wL (wL (wL (wL (wL (wL (wL (wL (wL (wL (wN X 22 17) (o + 5) 0 26216) (o + 5) 1 1521) (o + 5) 2 1176170) (o + 5) 3 1891) (o + 5) 4 842217762) (o + 5) 5 564588237) (o + 5) 6 30778061) (o + 5) 7 30595897) (o + 5) 8 614923) (o + 5) 9 1355937724) (o + 5) 10 75125782) (o + 5) 11 19374) (o + 5) 12 324290739998) (o + 5) 13 1125410431) (o + 5) 14 11720058 = some (wL (wL (wL (wL (wL (wL (wL (wL (wL (wL (wL (wL (wL (wL (wL (wN X 22 17) (o + 5) 0 26216) (o + 5) 1 1521) (o + 5) 2 1176170) (o + 5) 3 1891) (o + 5) 4 842217762) (o + 5) 5 564588237) (o + 5) 6 30778061) (o + 5) 7 30595897) (o + 5) 8 614923) (o + 5) 9 1355937724) (o + 5) 10 75125782) (o + 5) 11 19374) (o + 5) 12 324290739998) (o + 5) 13 1125410431) (o + 5) 14 11720058) from step 14 11720058 _ (by decide) k0 l0, sb]
    rw [show uL (wL (wL (wL (wL (wL (wL (wL (wL (wL (wL (wL (wL (wL (wL (wL (wN X 22 17) (o + 5) 0 26216) (o + 5) 1 1521) (o + 5) 2 1176170) (o + 5) 3 1891) (o + 5) 4 842217762) (o + 5) 5 564588237) (o + 5) 6 30778061) (o + 5) 7 30595897) (o + 5) 8 614923) (o + 5) 9 1355937724) (o + 5) 10 75125782) (o + 5) 11 19374) (o + 5) 12 324290739998) (o + 5) 13 1125410431) (o + 5) 14 11720058) (o + 5) 15 1186224 = some (wL (wL (wL (wL (wL (wL (wL (wL (wL (wL (wL (wL (wL (wL (wL (wL (wN X 22 17) (o + 5) 0 26216) (o + 5) 1 1521) (o + 5) 2 1176170) (o + 5) 3 1891) (o + 5) 4 842217762) (o + 5) 5 564588237) (o + 5) 6 30778061) (o + 5) 7 30595897) (o + 5) 8 614923) (o + 5) 9 1355937724) (o + 5) 10 75125782) (o + 5) 11 19374) (o + 5) 12 324290739998) (o + 5) 13 1125410431) (o + 5) 14 11720058) (o + 5) 15 1186224) from step 15 1186224 _ (by decide) k0 l0, sb]
    rw [show uL (wL (wL (wL (wL (wL (wL (wL (wL (wL (wL (wL (wL (wL (wL (wL (wL (wN X 22 17) (o + 5) 0 26216) (o + 5) 1 1521) (o + 5) 2 1176170) (o + 5) 3 1891) (o + 5) 4 842217762) (o + 5) 5 564588237) (o + 5) 6 30778061) (o + 5) 7 30595897) (o + 5) 8 614923) (o + 5) 9 1355937724) (o + 5) 10 75125782) (o + 5) 11 19374) (o + 5) 12 324290739998) (o + 5) 13 1125410431) (o + 5) 14 11720058) (o + 5) 15 1186224) (o + 5) 16 1042332 = some (wL (wL (wL (wL (wL (wL (wL (wL (wL (wL (wL (wL (wL (wL (wL (wL (wL (wN X 22 17) (o + 5) 0 26216) (o + 5) 1 1521) (o + 5) 2 1176170) (o + 5) 3 1891) (o + 5) 4 842217762) (o + 5) 5 564588237) (o + 5) 6 30778061) (o + 5) 7 30595897) (o + 5) 8 614923) (o + 5) 9 1355937724) (o + 5) 10 75125782) (o + 5) 11 19374) (o + 5) 12 324290739998) (o + 5) 13 1125410431) (o + 5) 14 11720058) (o + 5) 15 1186224) (o + 5) 16 1042332) from step 16 1042332 _ (by decide) k0 l0, sb]
    rw [hW, pR_w (show xKd W o = 10 + 1 by rw [← hW]; exact hko), sb]
  · rw [← hW, ← hz]
    exact O1
  · rw [← hW]
    exact i1
  · rw [← hW, ← hz]
    refine ⟨g1.1, fun a ha => ?_⟩
    obtain ⟨b1, b2, b3, b4, b5, b6⟩ := g1.2 a ha
    refine ⟨b1, b2, b3, b4, ?_, b6⟩
    rw [← b5]
    funext j
    exact (if_neg (fun z => by omega)).trans ((if_neg (fun z => by omega)).trans ((if_neg (fun z => by omega)).trans ((if_neg (fun z => by omega)).trans ((if_neg (fun z => by omega)).trans ((if_neg (fun z => by omega)).trans ((if_neg (fun z => by omega)).trans ((if_neg (fun z => by omega)).trans ((if_neg (fun z => by omega)).trans ((if_neg (fun z => by omega)).trans ((if_neg (fun z => by omega)).trans ((if_neg (fun z => by omega)).trans ((if_neg (fun z => by omega)).trans ((if_neg (fun z => by omega)).trans ((if_neg (fun z => by omega)).trans ((if_neg (fun z => by omega)).trans ((if_neg (fun z => by omega)).trans (rfl)))))))))))))))))
theorem m_in3 (O : OB X o 10 [(1, 1, 1000), (4, 1, 1002), (5, 1, 1002), (6, 2, 1002), (9, 2, 17)]) : ∃ X1, (∀ f : XW → Option XW, (nA X 1 4 4 >>= fun r55 => pR r55.2 o 10 11 r55.1 >>= fun X57 => nA X57 1 4 4 >>= fun r59 => pR r59.2 o 10 12 r59.1 >>= fun X61 => nA X61 1 4 4 >>= fun r63 => pR r63.2 o 10 13 r63.1 >>= fun X65 => nA X65 1 5 5 >>= fun r67 => pR r67.2 o 10 14 r67.1 >>= fun X69 => nA X69 3 120 120 >>= fun r71 => pR r71.2 o 10 15 r71.1 >>= fun X73 => nA X73 1 120 120 >>= fun r75 => pR r75.2 o 10 16 r75.1 >>= fun X77 => nA X77 1 120 120 >>= fun r79 => pR r79.2 o 10 17 r79.1 >>= fun X81 => nA X81 1 120 120 >>= fun r83 => pR r83.2 o 10 18 r83.1 >>= fun X85 => nA X85 1 5300 5300 >>= fun r87 => pR r87.2 o 10 19 r87.1 >>= f) = f X1) ∧ OB X1 o 10 [(1, 1, 1000), (4, 1, 1002), (5, 1, 1002), (6, 2, 1002), (9, 2, 17), (11, 1, 4), (12, 1, 4), (13, 1, 4), (14, 1, 5), (15, 3, 120), (16, 1, 120), (17, 1, 120), (18, 1, 120), (19, 1, 5300)] ∧ (xI X1 o = xI X o) ∧ xag o X X1 ∧ ∀ b, b < X.1 → xL X1 b = xL X b := by
  obtain ⟨A1, e1, O1, i1, g1, x1⟩ := O.nx (t := 1) (M := 4) (n := 4) (k := 11) (by decide) (by decide) (by decide)
  have z1 : X.1 ≤ A1.1 := g1.1
  obtain ⟨A2, e2, O2, i2, g2, x2⟩ := O1.nx (t := 1) (M := 4) (n := 4) (k := 12) (by decide) (by decide) (by decide)
  have z2 : A1.1 ≤ A2.1 := g2.1
  obtain ⟨A3, e3, O3, i3, g3, x3⟩ := O2.nx (t := 1) (M := 4) (n := 4) (k := 13) (by decide) (by decide) (by decide)
  have z3 : A2.1 ≤ A3.1 := g3.1
  obtain ⟨A4, e4, O4, i4, g4, x4⟩ := O3.nx (t := 1) (M := 5) (n := 5) (k := 14) (by decide) (by decide) (by decide)
  have z4 : A3.1 ≤ A4.1 := g4.1
  obtain ⟨A5, e5, O5, i5, g5, x5⟩ := O4.nx (t := 3) (M := 120) (n := 120) (k := 15) (by decide) (by decide) (by decide)
  have z5 : A4.1 ≤ A5.1 := g5.1
  obtain ⟨A6, e6, O6, i6, g6, x6⟩ := O5.nx (t := 1) (M := 120) (n := 120) (k := 16) (by decide) (by decide) (by decide)
  have z6 : A5.1 ≤ A6.1 := g6.1
  obtain ⟨A7, e7, O7, i7, g7, x7⟩ := O6.nx (t := 1) (M := 120) (n := 120) (k := 17) (by decide) (by decide) (by decide)
  have z7 : A6.1 ≤ A7.1 := g7.1
  obtain ⟨A8, e8, O8, i8, g8, x8⟩ := O7.nx (t := 1) (M := 120) (n := 120) (k := 18) (by decide) (by decide) (by decide)
  have z8 : A7.1 ≤ A8.1 := g8.1
  obtain ⟨A9, e9, O9, i9, g9, x9⟩ := O8.nx (t := 1) (M := 5300) (n := 5300) (k := 19) (by decide) (by decide) (by decide)
  have z9 : A8.1 ≤ A9.1 := g9.1
  have zz : ∀ b, b < X.1 → b < A1.1 ∧ b < A2.1 ∧ b < A3.1 ∧ b < A4.1 ∧ b < A5.1 ∧ b < A6.1 ∧ b < A7.1 ∧ b < A8.1 ∧ b < A9.1 := fun b hb => ⟨by omega, by omega, by omega, by omega, by omega, by omega, by omega, by omega, by omega⟩
  refine ⟨A9, fun f => ?_, O9, ?_, ((((((((g1).tr g2).tr g3).tr g4).tr g5).tr g6).tr g7).tr g8).tr g9, fun b hb => ?_⟩
  · rw [e1, e2, e3, e4, e5, e6, e7, e8, e9]
  · rw [i9, i8, i7, i6, i5, i4, i3, i2, i1]
  · have q := zz b hb
    rw [x9 b (by omega), x8 b (by omega), x7 b (by omega), x6 b (by omega), x5 b (by omega), x4 b (by omega), x3 b (by omega), x2 b (by omega), x1 b (by omega)]
theorem m_in4 (O : OB X o 10 [(1, 1, 1000), (4, 1, 1002), (5, 1, 1002), (6, 2, 1002), (9, 2, 17), (11, 1, 4), (12, 1, 4), (13, 1, 4), (14, 1, 5), (15, 3, 120), (16, 1, 120), (17, 1, 120), (18, 1, 120), (19, 1, 5300)]) : ∃ X1, (∀ f : XW → Option XW, (nA X 1 5300 5300 >>= fun r91 => pR r91.2 o 10 20 r91.1 >>= fun X93 => nA X93 1 7 7 >>= fun r95 => pR r95.2 o 10 23 r95.1 >>= fun X97 => nA X97 1 7 7 >>= fun r99 => pR r99.2 o 10 24 r99.1 >>= fun X101 => nA X101 1 7 7 >>= fun r103 => pR r103.2 o 10 25 r103.1 >>= fun X105 => nA X105 1 13 13 >>= fun r107 => pR r107.2 o 10 26 r107.1 >>= fun X109 => nA X109 1 1060 1060 >>= fun r111 => pR r111.2 o 10 27 r111.1 >>= fun X113 => pI X113 o 10 28 1 >>= fun X115 => nA X115 1 4 4 >>= fun r117 => pR r117.2 o 10 30 r117.1 >>= fun X119 => nA X119 1 64 64 >>= fun r121 => pR r121.2 o 10 31 r121.1 >>= f) = f X1) ∧ OB X1 o 10 [(1, 1, 1000), (4, 1, 1002), (5, 1, 1002), (6, 2, 1002), (9, 2, 17), (11, 1, 4), (12, 1, 4), (13, 1, 4), (14, 1, 5), (15, 3, 120), (16, 1, 120), (17, 1, 120), (18, 1, 120), (19, 1, 5300), (20, 1, 5300), (23, 1, 7), (24, 1, 7), (25, 1, 7), (26, 1, 13), (27, 1, 1060), (30, 1, 4), (31, 1, 64)] ∧ (xI X1 o 28 = 1 ∧ ∀ k, k ∉ [28] → xI X1 o k = xI X o k) ∧ xag o X X1 ∧ ∀ b, b < X.1 → xL X1 b = xL X b := by
  obtain ⟨A1, e1, O1, i1, g1, x1⟩ := O.nx (t := 1) (M := 5300) (n := 5300) (k := 20) (by decide) (by decide) (by decide)
  have z1 : X.1 ≤ A1.1 := g1.1
  obtain ⟨A2, e2, O2, i2, g2, x2⟩ := O1.nx (t := 1) (M := 7) (n := 7) (k := 23) (by decide) (by decide) (by decide)
  have z2 : A1.1 ≤ A2.1 := g2.1
  obtain ⟨A3, e3, O3, i3, g3, x3⟩ := O2.nx (t := 1) (M := 7) (n := 7) (k := 24) (by decide) (by decide) (by decide)
  have z3 : A2.1 ≤ A3.1 := g3.1
  obtain ⟨A4, e4, O4, i4, g4, x4⟩ := O3.nx (t := 1) (M := 7) (n := 7) (k := 25) (by decide) (by decide) (by decide)
  have z4 : A3.1 ≤ A4.1 := g4.1
  obtain ⟨A5, e5, O5, i5, g5, x5⟩ := O4.nx (t := 1) (M := 13) (n := 13) (k := 26) (by decide) (by decide) (by decide)
  have z5 : A4.1 ≤ A5.1 := g5.1
  obtain ⟨A6, e6, O6, i6, g6, x6⟩ := O5.nx (t := 1) (M := 1060) (n := 1060) (k := 27) (by decide) (by decide) (by decide)
  have z6 : A5.1 ≤ A6.1 := g6.1
  generalize hA7 : wI A6 o 28 1 = A7
  have O7 := O6.wI (k := 28) (x := 1)
  rw [hA7] at O7
  have g7 : xag o A6 A7 := by rw [← hA7]; exact xag.wI (Nat.le_refl _)
  have x7 : ∀ b, b < A6.1 → xL A7 b = xL A6 b := fun b _ => by rw [← hA7]; rfl
  have z7 : A6.1 ≤ A7.1 := g7.1
  obtain ⟨A8, e8, O8, i8, g8, x8⟩ := O7.nx (t := 1) (M := 4) (n := 4) (k := 30) (by decide) (by decide) (by decide)
  have z8 : A7.1 ≤ A8.1 := g8.1
  obtain ⟨A9, e9, O9, i9, g9, x9⟩ := O8.nx (t := 1) (M := 64) (n := 64) (k := 31) (by decide) (by decide) (by decide)
  have z9 : A8.1 ≤ A9.1 := g9.1
  have zz : ∀ b, b < X.1 → b < A1.1 ∧ b < A2.1 ∧ b < A3.1 ∧ b < A4.1 ∧ b < A5.1 ∧ b < A6.1 ∧ b < A7.1 ∧ b < A8.1 ∧ b < A9.1 := fun b hb => ⟨by omega, by omega, by omega, by omega, by omega, by omega, by omega, by omega, by omega⟩
  refine ⟨A9, fun f => ?_, O9, ?_, ((((((((g1).tr g2).tr g3).tr g4).tr g5).tr g6).tr g7).tr g8).tr g9, fun b hb => ?_⟩
  · rw [e1, e2, e3, e4, e5, e6, pI_of O6.1, sb, hA7, e8, e9]
  · refine ⟨by rw [i9, i8, ← hA7, xI_we], fun k hk => ?_⟩
    simp only [List.mem_cons, List.not_mem_nil, or_false, not_or] at hk
    rw [i9, i8, ← hA7, xI_wn (by omega), i6, i5, i4, i3, i2, i1]
  · have q := zz b hb
    rw [x9 b (by omega), x8 b (by omega), x7 b (by omega), x6 b (by omega), x5 b (by omega), x4 b (by omega), x3 b (by omega), x2 b (by omega), x1 b (by omega)]
theorem m_in5 (O : OB X o 10 [(1, 1, 1000), (4, 1, 1002), (5, 1, 1002), (6, 2, 1002), (9, 2, 17), (11, 1, 4), (12, 1, 4), (13, 1, 4), (14, 1, 5), (15, 3, 120), (16, 1, 120), (17, 1, 120), (18, 1, 120), (19, 1, 5300), (20, 1, 5300), (23, 1, 7), (24, 1, 7), (25, 1, 7), (26, 1, 13), (27, 1, 1060), (30, 1, 4), (31, 1, 64)]) : ∃ X1, (∀ f : XW → Option XW, (nA X 1 64 64 >>= fun r125 => pR r125.2 o 10 32 r125.1 >>= fun X127 => nA X127 1 64 64 >>= fun r129 => pR r129.2 o 10 33 r129.1 >>= fun X131 => nA X131 3 64 64 >>= fun r133 => pR r133.2 o 10 34 r133.1 >>= fun X135 => nA X135 3 64 64 >>= fun r137 => pR r137.2 o 10 35 r137.1 >>= fun X139 => nA X139 1 4 4 >>= fun r141 => pR r141.2 o 10 36 r141.1 >>= fun X143 => nA X143 1 960 960 >>= fun r145 => pR r145.2 o 10 37 r145.1 >>= fun X147 => pI X147 o 10 38 6 >>= fun X149 => pI X149 o 10 39 1 >>= fun X151 => pI X151 o 10 40 1 >>= f) = f X1) ∧ OB X1 o 10 [(1, 1, 1000), (4, 1, 1002), (5, 1, 1002), (6, 2, 1002), (9, 2, 17), (11, 1, 4), (12, 1, 4), (13, 1, 4), (14, 1, 5), (15, 3, 120), (16, 1, 120), (17, 1, 120), (18, 1, 120), (19, 1, 5300), (20, 1, 5300), (23, 1, 7), (24, 1, 7), (25, 1, 7), (26, 1, 13), (27, 1, 1060), (30, 1, 4), (31, 1, 64), (32, 1, 64), (33, 1, 64), (34, 3, 64), (35, 3, 64), (36, 1, 4), (37, 1, 960)] ∧ (xI X1 o 38 = 6 ∧ xI X1 o 39 = 1 ∧ xI X1 o 40 = 1 ∧ ∀ k, k ∉ [38, 39, 40] → xI X1 o k = xI X o k) ∧ xag o X X1 ∧ ∀ b, b < X.1 → xL X1 b = xL X b := by
  obtain ⟨A1, e1, O1, i1, g1, x1⟩ := O.nx (t := 1) (M := 64) (n := 64) (k := 32) (by decide) (by decide) (by decide)
  have z1 : X.1 ≤ A1.1 := g1.1
  obtain ⟨A2, e2, O2, i2, g2, x2⟩ := O1.nx (t := 1) (M := 64) (n := 64) (k := 33) (by decide) (by decide) (by decide)
  have z2 : A1.1 ≤ A2.1 := g2.1
  obtain ⟨A3, e3, O3, i3, g3, x3⟩ := O2.nx (t := 3) (M := 64) (n := 64) (k := 34) (by decide) (by decide) (by decide)
  have z3 : A2.1 ≤ A3.1 := g3.1
  obtain ⟨A4, e4, O4, i4, g4, x4⟩ := O3.nx (t := 3) (M := 64) (n := 64) (k := 35) (by decide) (by decide) (by decide)
  have z4 : A3.1 ≤ A4.1 := g4.1
  obtain ⟨A5, e5, O5, i5, g5, x5⟩ := O4.nx (t := 1) (M := 4) (n := 4) (k := 36) (by decide) (by decide) (by decide)
  have z5 : A4.1 ≤ A5.1 := g5.1
  obtain ⟨A6, e6, O6, i6, g6, x6⟩ := O5.nx (t := 1) (M := 960) (n := 960) (k := 37) (by decide) (by decide) (by decide)
  have z6 : A5.1 ≤ A6.1 := g6.1
  generalize hA7 : wI A6 o 38 6 = A7
  have O7 := O6.wI (k := 38) (x := 6)
  rw [hA7] at O7
  have g7 : xag o A6 A7 := by rw [← hA7]; exact xag.wI (Nat.le_refl _)
  have x7 : ∀ b, b < A6.1 → xL A7 b = xL A6 b := fun b _ => by rw [← hA7]; rfl
  have z7 : A6.1 ≤ A7.1 := g7.1
  generalize hA8 : wI A7 o 39 1 = A8
  have O8 := O7.wI (k := 39) (x := 1)
  rw [hA8] at O8
  have g8 : xag o A7 A8 := by rw [← hA8]; exact xag.wI (Nat.le_refl _)
  have x8 : ∀ b, b < A7.1 → xL A8 b = xL A7 b := fun b _ => by rw [← hA8]; rfl
  have z8 : A7.1 ≤ A8.1 := g8.1
  generalize hA9 : wI A8 o 40 1 = A9
  have O9 := O8.wI (k := 40) (x := 1)
  rw [hA9] at O9
  have g9 : xag o A8 A9 := by rw [← hA9]; exact xag.wI (Nat.le_refl _)
  have x9 : ∀ b, b < A8.1 → xL A9 b = xL A8 b := fun b _ => by rw [← hA9]; rfl
  have z9 : A8.1 ≤ A9.1 := g9.1
  have zz : ∀ b, b < X.1 → b < A1.1 ∧ b < A2.1 ∧ b < A3.1 ∧ b < A4.1 ∧ b < A5.1 ∧ b < A6.1 ∧ b < A7.1 ∧ b < A8.1 ∧ b < A9.1 := fun b hb => ⟨by omega, by omega, by omega, by omega, by omega, by omega, by omega, by omega, by omega⟩
  refine ⟨A9, fun f => ?_, O9, ?_, ((((((((g1).tr g2).tr g3).tr g4).tr g5).tr g6).tr g7).tr g8).tr g9, fun b hb => ?_⟩
  · rw [e1, e2, e3, e4, e5, e6, pI_of O6.1, sb, hA7, pI_of O7.1, sb, hA8, pI_of O8.1, sb, hA9]
  · refine ⟨by rw [← hA9, xI_wn (by decide), ← hA8, xI_wn (by decide), ← hA7, xI_we], by rw [← hA9, xI_wn (by decide), ← hA8, xI_we], by rw [← hA9, xI_we], fun k hk => ?_⟩
    simp only [List.mem_cons, List.not_mem_nil, or_false, not_or] at hk
    rw [← hA9, xI_wn (by omega), ← hA8, xI_wn (by omega), ← hA7, xI_wn (by omega), i6, i5, i4, i3, i2, i1]
  · have q := zz b hb
    rw [x9 b (by omega), x8 b (by omega), x7 b (by omega), x6 b (by omega), x5 b (by omega), x4 b (by omega), x3 b (by omega), x2 b (by omega), x1 b (by omega)]
theorem m_in6 (O : OB X o 10 [(1, 1, 1000), (4, 1, 1002), (5, 1, 1002), (6, 2, 1002), (9, 2, 17), (11, 1, 4), (12, 1, 4), (13, 1, 4), (14, 1, 5), (15, 3, 120), (16, 1, 120), (17, 1, 120), (18, 1, 120), (19, 1, 5300), (20, 1, 5300), (23, 1, 7), (24, 1, 7), (25, 1, 7), (26, 1, 13), (27, 1, 1060), (30, 1, 4), (31, 1, 64), (32, 1, 64), (33, 1, 64), (34, 3, 64), (35, 3, 64), (36, 1, 4), (37, 1, 960)]) : ∃ X1, (∀ f : XW → Option XW, (nA X 1 17 17 >>= fun r155 => pR r155.2 o 10 41 r155.1 >>= fun X157 => nA X157 1 16 16 >>= fun r159 => pR r159.2 o 10 43 r159.1 >>= fun X161 => nA X161 1 16 16 >>= fun r163 => pR r163.2 o 10 44 r163.1 >>= fun X165 => nA X165 1 16 16 >>= fun r167 => pR r167.2 o 10 45 r167.1 >>= fun X169 => nA X169 3 16 16 >>= fun r171 => pR r171.2 o 10 46 r171.1 >>= fun X173 => nA X173 1 80 80 >>= fun r175 => pR r175.2 o 10 48 r175.1 >>= fun X177 => nA X177 1 80 80 >>= fun r179 => pR r179.2 o 10 49 r179.1 >>= fun X181 => nA X181 1 80 80 >>= fun r183 => pR r183.2 o 10 50 r183.1 >>= fun X185 => nA X185 3 80 80 >>= fun r187 => pR r187.2 o 10 51 r187.1 >>= f) = f X1) ∧ OB X1 o 10 [(1, 1, 1000), (4, 1, 1002), (5, 1, 1002), (6, 2, 1002), (9, 2, 17), (11, 1, 4), (12, 1, 4), (13, 1, 4), (14, 1, 5), (15, 3, 120), (16, 1, 120), (17, 1, 120), (18, 1, 120), (19, 1, 5300), (20, 1, 5300), (23, 1, 7), (24, 1, 7), (25, 1, 7), (26, 1, 13), (27, 1, 1060), (30, 1, 4), (31, 1, 64), (32, 1, 64), (33, 1, 64), (34, 3, 64), (35, 3, 64), (36, 1, 4), (37, 1, 960), (41, 1, 17), (43, 1, 16), (44, 1, 16), (45, 1, 16), (46, 3, 16), (48, 1, 80), (49, 1, 80), (50, 1, 80), (51, 3, 80)] ∧ (xI X1 o = xI X o) ∧ xag o X X1 ∧ ∀ b, b < X.1 → xL X1 b = xL X b := by
  obtain ⟨A1, e1, O1, i1, g1, x1⟩ := O.nx (t := 1) (M := 17) (n := 17) (k := 41) (by decide) (by decide) (by decide)
  have z1 : X.1 ≤ A1.1 := g1.1
  obtain ⟨A2, e2, O2, i2, g2, x2⟩ := O1.nx (t := 1) (M := 16) (n := 16) (k := 43) (by decide) (by decide) (by decide)
  have z2 : A1.1 ≤ A2.1 := g2.1
  obtain ⟨A3, e3, O3, i3, g3, x3⟩ := O2.nx (t := 1) (M := 16) (n := 16) (k := 44) (by decide) (by decide) (by decide)
  have z3 : A2.1 ≤ A3.1 := g3.1
  obtain ⟨A4, e4, O4, i4, g4, x4⟩ := O3.nx (t := 1) (M := 16) (n := 16) (k := 45) (by decide) (by decide) (by decide)
  have z4 : A3.1 ≤ A4.1 := g4.1
  obtain ⟨A5, e5, O5, i5, g5, x5⟩ := O4.nx (t := 3) (M := 16) (n := 16) (k := 46) (by decide) (by decide) (by decide)
  have z5 : A4.1 ≤ A5.1 := g5.1
  obtain ⟨A6, e6, O6, i6, g6, x6⟩ := O5.nx (t := 1) (M := 80) (n := 80) (k := 48) (by decide) (by decide) (by decide)
  have z6 : A5.1 ≤ A6.1 := g6.1
  obtain ⟨A7, e7, O7, i7, g7, x7⟩ := O6.nx (t := 1) (M := 80) (n := 80) (k := 49) (by decide) (by decide) (by decide)
  have z7 : A6.1 ≤ A7.1 := g7.1
  obtain ⟨A8, e8, O8, i8, g8, x8⟩ := O7.nx (t := 1) (M := 80) (n := 80) (k := 50) (by decide) (by decide) (by decide)
  have z8 : A7.1 ≤ A8.1 := g8.1
  obtain ⟨A9, e9, O9, i9, g9, x9⟩ := O8.nx (t := 3) (M := 80) (n := 80) (k := 51) (by decide) (by decide) (by decide)
  have z9 : A8.1 ≤ A9.1 := g9.1
  have zz : ∀ b, b < X.1 → b < A1.1 ∧ b < A2.1 ∧ b < A3.1 ∧ b < A4.1 ∧ b < A5.1 ∧ b < A6.1 ∧ b < A7.1 ∧ b < A8.1 ∧ b < A9.1 := fun b hb => ⟨by omega, by omega, by omega, by omega, by omega, by omega, by omega, by omega, by omega⟩
  refine ⟨A9, fun f => ?_, O9, ?_, ((((((((g1).tr g2).tr g3).tr g4).tr g5).tr g6).tr g7).tr g8).tr g9, fun b hb => ?_⟩
  · rw [e1, e2, e3, e4, e5, e6, e7, e8, e9]
  · rw [i9, i8, i7, i6, i5, i4, i3, i2, i1]
  · have q := zz b hb
    rw [x9 b (by omega), x8 b (by omega), x7 b (by omega), x6 b (by omega), x5 b (by omega), x4 b (by omega), x3 b (by omega), x2 b (by omega), x1 b (by omega)]
theorem m_in7 (O : OB X o 10 [(1, 1, 1000), (4, 1, 1002), (5, 1, 1002), (6, 2, 1002), (9, 2, 17), (11, 1, 4), (12, 1, 4), (13, 1, 4), (14, 1, 5), (15, 3, 120), (16, 1, 120), (17, 1, 120), (18, 1, 120), (19, 1, 5300), (20, 1, 5300), (23, 1, 7), (24, 1, 7), (25, 1, 7), (26, 1, 13), (27, 1, 1060), (30, 1, 4), (31, 1, 64), (32, 1, 64), (33, 1, 64), (34, 3, 64), (35, 3, 64), (36, 1, 4), (37, 1, 960), (41, 1, 17), (43, 1, 16), (44, 1, 16), (45, 1, 16), (46, 3, 16), (48, 1, 80), (49, 1, 80), (50, 1, 80), (51, 3, 80)]) : ∃ X1, (∀ f : XW → Option XW, (nA X 1 240 240 >>= fun r191 => pR r191.2 o 10 52 r191.1 >>= fun X193 => nA X193 1 16 16 >>= fun r195 => pR r195.2 o 10 53 r195.1 >>= fun X197 => nA X197 1 16 16 >>= fun r199 => pR r199.2 o 10 54 r199.1 >>= fun X201 => nA X201 1 320 320 >>= fun r203 => pR r203.2 o 10 56 r203.1 >>= f) = f X1) ∧ OB X1 o 10 [(1, 1, 1000), (4, 1, 1002), (5, 1, 1002), (6, 2, 1002), (9, 2, 17), (11, 1, 4), (12, 1, 4), (13, 1, 4), (14, 1, 5), (15, 3, 120), (16, 1, 120), (17, 1, 120), (18, 1, 120), (19, 1, 5300), (20, 1, 5300), (23, 1, 7), (24, 1, 7), (25, 1, 7), (26, 1, 13), (27, 1, 1060), (30, 1, 4), (31, 1, 64), (32, 1, 64), (33, 1, 64), (34, 3, 64), (35, 3, 64), (36, 1, 4), (37, 1, 960), (41, 1, 17), (43, 1, 16), (44, 1, 16), (45, 1, 16), (46, 3, 16), (48, 1, 80), (49, 1, 80), (50, 1, 80), (51, 3, 80), (52, 1, 240), (53, 1, 16), (54, 1, 16), (56, 1, 320)] ∧ (xI X1 o = xI X o) ∧ xag o X X1 ∧ ∀ b, b < X.1 → xL X1 b = xL X b := by
  obtain ⟨A1, e1, O1, i1, g1, x1⟩ := O.nx (t := 1) (M := 240) (n := 240) (k := 52) (by decide) (by decide) (by decide)
  have z1 : X.1 ≤ A1.1 := g1.1
  obtain ⟨A2, e2, O2, i2, g2, x2⟩ := O1.nx (t := 1) (M := 16) (n := 16) (k := 53) (by decide) (by decide) (by decide)
  have z2 : A1.1 ≤ A2.1 := g2.1
  obtain ⟨A3, e3, O3, i3, g3, x3⟩ := O2.nx (t := 1) (M := 16) (n := 16) (k := 54) (by decide) (by decide) (by decide)
  have z3 : A2.1 ≤ A3.1 := g3.1
  obtain ⟨A4, e4, O4, i4, g4, x4⟩ := O3.nx (t := 1) (M := 320) (n := 320) (k := 56) (by decide) (by decide) (by decide)
  have z4 : A3.1 ≤ A4.1 := g4.1
  have zz : ∀ b, b < X.1 → b < A1.1 ∧ b < A2.1 ∧ b < A3.1 ∧ b < A4.1 := fun b hb => ⟨by omega, by omega, by omega, by omega⟩
  refine ⟨A4, fun f => ?_, O4, ?_, (((g1).tr g2).tr g3).tr g4, fun b hb => ?_⟩
  · rw [e1, e2, e3, e4]
  · rw [i4, i3, i2, i1]
  · have q := zz b hb
    rw [x4 b (by omega), x3 b (by omega), x2 b (by omega), x1 b (by omega)]
def LLm : List (Nat × Nat × Nat) := [(1, 1, 1000), (4, 1, 1002), (5, 1, 1002), (6, 2, 1002), (9, 2, 17), (11, 1, 4), (12, 1, 4), (13, 1, 4), (14, 1, 5), (15, 3, 120), (16, 1, 120), (17, 1, 120), (18, 1, 120), (19, 1, 5300), (20, 1, 5300), (23, 1, 7), (24, 1, 7), (25, 1, 7), (26, 1, 13), (27, 1, 1060), (30, 1, 4), (31, 1, 64), (32, 1, 64), (33, 1, 64), (34, 3, 64), (35, 3, 64), (36, 1, 4), (37, 1, 960), (41, 1, 17), (43, 1, 16), (44, 1, 16), (45, 1, 16), (46, 3, 16), (48, 1, 80), (49, 1, 80), (50, 1, 80), (51, 3, 80), (52, 1, 240), (53, 1, 16), (54, 1, 16), (56, 1, 320)]
theorem LLm_ok : ∀ k, k < 57 → tMt.getD k 0 ≠ 0 → LLm.getD (cMt.getD k 0 - 1) (0, 0, 0) = (k, tMt.getD k 0 - 20, lMt.getD k 0) ∧ 0 < cMt.getD k 0 ∧ cMt.getD k 0 ≤ 41 ∧ 20 ≤ tMt.getD k 0 := by decide +kernel
theorem OB.lm (O : OB X o 10 LLm) : LM X o ∧ ∀ k, k < 57 → tMt.getD k 0 ≠ 0 → xA X (mA o k) = fun _ => 0 := by
  have hl : LLm.length = 41 := rfl
  have key : ∀ k, k < 57 → tMt.getD k 0 ≠ 0 → xR X o k = some (mA o k) ∧ xKd X (mA o k) = tMt.getD k 0 ∧ xLn X (mA o k) = lMt.getD k 0 ∧ xA X (mA o k) = fun _ => 0 := fun k hk h0 => by
    obtain ⟨a1, a2, a3, a4⟩ := LLm_ok k hk h0
    have h := O.2.2 (cMt.getD k 0 - 1) (by rw [hl]; omega)
    rw [a1] at h
    have e : o + 1 + (cMt.getD k 0 - 1) = mA o k := by unfold mA; omega
    rw [e] at h
    exact ⟨h.1, by rw [h.2.1]; show 20 + (tMt.getD k 0 - 20) = _; omega, h.2.2.1, h.2.2.2⟩
  exact ⟨⟨O.1, fun k hk h0 => ⟨(key k hk h0).1, (key k hk h0).2.1, (key k hk h0).2.2.1⟩⟩, fun k hk h0 => (key k hk h0).2.2.2⟩

theorem m_inA (h : xKd X o = 11) (hz : X.1 = o + 1) (hi : xI X o = fun _ => 0) : ∃ X1, (∀ r : XW → Option XW, fX10_init o X = (fX10_init_l472 o FU 0 X1 >>= fun r207 => fX10_init_l501 o FU 0 r207 >>= fun r209 => some r209)) ∧ OB X1 o 10 LLm ∧ xag o X X1 ∧ (∀ k, k < 17 → xL X1 (o + 5) k = wds k) ∧ xI X1 o 28 = 1 ∧ xI X1 o 38 = 6 ∧ xI X1 o 39 = 1 ∧ xI X1 o 40 = 1 ∧ ∀ k, k ∉ [28, 38, 39, 40] → xI X1 o k = 0 := by
  have O0 : OB X o 10 [] := ⟨h, hz, fun i hi => absurd hi (Nat.not_lt_zero _)⟩
  obtain ⟨B1, b1, O1, j1, g1, y1⟩ := m_in1 O0
  obtain ⟨B2, b2, O2, j2, g2, y2⟩ := m_in2 O1
  obtain ⟨B3, b3, O3, j3, g3, y3⟩ := m_in3 O2
  obtain ⟨B4, b4, O4, j4, g4, y4⟩ := m_in4 O3
  obtain ⟨B5, b5, O5, j5, g5, y5⟩ := m_in5 O4
  obtain ⟨B6, b6, O6, j6, g6, y6⟩ := m_in6 O5
  obtain ⟨B7, b7, O7, j7, g7, y7⟩ := m_in7 O6
  refine ⟨B7, fun _ => ?_, O7, ((((((g1).tr g2).tr g3).tr g4).tr g5).tr g6).tr g7, fun k hk => ?_, ?_⟩
  · unfold fX10_init
    exact (b1 _).trans ((b2 _).trans ((b3 _).trans ((b4 _).trans ((b5 _).trans ((b6 _).trans ((b7 _).trans (rfl)))))))
  · have s2 : B2.1 = o + 1 + 5 := O2.2.1
    have s3 : B3.1 = o + 1 + 14 := O3.2.1
    have s4 : B4.1 = o + 1 + 22 := O4.2.1
    have s5 : B5.1 = o + 1 + 28 := O5.2.1
    have s6 : B6.1 = o + 1 + 37 := O6.2.1
    have s7 : B7.1 = o + 1 + 41 := O7.2.1
    rw [y7 (o + 5) (by omega), y6 (o + 5) (by omega), y5 (o + 5) (by omega), y4 (o + 5) (by omega), y3 (o + 5) (by omega)]
    exact y2 k hk
  · refine ⟨by rw [j7, j6, j5.2.2.2 28 (by decide)]; exact j4.1, by rw [j7, j6]; exact j5.1, by rw [j7, j6]; exact j5.2.1, by rw [j7, j6]; exact j5.2.2.1, fun k hk => ?_⟩
    simp only [List.mem_cons, List.not_mem_nil, or_false, not_or] at hk
    rw [j7, j6, j5.2.2.2 k (by simp only [List.mem_cons, List.not_mem_nil, or_false, not_or]; omega), j4.2 k (by simp only [List.mem_cons, List.not_mem_nil, or_false, not_or]; omega), j3, j2, j1, hi]
theorem m_i472 (L : LM X o) : ∃ X1, fX10_init_l472 o FU 0 X = some X1 ∧ mfm o [12, 13] X X1 ∧ ∀ j, j < 4 → xA X1 (mA o 12) j = 99 ∧ xA X1 (mA o 13) j = 99 := by
  have key := iterP2 (b := fun rec => fX10_init_l472_b rec o) (z := fun _ _ => none) (fun q a Z => ∃ k, k ≤ 4 ∧ q = 4 - k ∧ a = nI k ∧ mfm o [12, 13] X Z ∧ ∀ j, j < k → xA Z (mA o 12) j = 99 ∧ xA Z (mA o 13) j = 99) (fun Z => mfm o [12, 13] X Z ∧ ∀ j, j < 4 → xA Z (mA o 12) j = 99 ∧ xA Z (mA o 13) j = 99) ?_ FU 4 (nI 0) X (FUlt (by decide)) ⟨0, by decide, rfl, rfl, mfm.rf, fun j hj => absurd hj (Nat.not_lt_zero _)⟩
  · exact key
  rintro q a Z ⟨k, hk, rfl, rfl, F, h1⟩
  have LZ := L.mf F
  by_cases e : k = 4
  · left
    subst e
    refine ⟨Z, fun rec => ?_, F, h1⟩
    unfold fX10_init_l472_b
    rw [if_pos (by decide)]
  · right
    have hk' : k < 4 := by omega
    generalize hZ1 : wF Z (mA o 12) (va_up (xA Z (mA o 12)) k 99) = Z1
    have F1 : mfm o [12, 13] Z Z1 := by rw [← hZ1]; exact mfm.wF (by decide) (by decide) (by decide)
    have L1 := LZ.mf F1
    generalize hZ2 : wF Z1 (mA o 13) (va_up (xA Z1 (mA o 13)) k 99) = Z2
    have F2 : mfm o [12, 13] Z1 Z2 := by rw [← hZ2]; exact mfm.wF (by decide) (by decide) (by decide)
    refine ⟨4 - (k + 1), nI (k + 1), Z2, by omega, ⟨k + 1, by omega, rfl, rfl, (F.tr F1).tr F2, fun j hj => ?_⟩, fun rec => ?_⟩
    · rw [← hZ2, xA_wFe, xA_wFm (by decide) (by decide) (by decide), ← hZ1, xA_wFe, xA_wFm (by decide) (by decide) (by decide)]
      by_cases z : j = k
      · subst z
        rw [upE, upE]
        exact ⟨rfl, rfl⟩
      · rw [upN z, upN z]
        exact h1 j (by omega)
    · unfold fX10_init_l472_b
      rw [if_neg (show ¬ (4 : Int32) ≤ nI k from nI_ge (b := 4) hk' (by decide)), rM12 LZ, sb, uM12 LZ hk', sb, hZ1, rM13 L1, sb, uM13 L1 hk', sb, hZ2, nI_1]
theorem m_i501 (L : LM X o) : ∃ X1, fX10_init_l501 o FU 0 X = some X1 ∧ mfm o [37] X X1 ∧ ∀ j, j < 960 → xA X1 (mA o 37) j = -1 := by
  have key := iterP2 (b := fun rec => fX10_init_l501_b rec o) (z := fun _ _ => none) (fun q a Z => ∃ k, k ≤ 960 ∧ q = 960 - k ∧ a = nI k ∧ mfm o [37] X Z ∧ ∀ j, j < k → xA Z (mA o 37) j = -1) (fun Z => mfm o [37] X Z ∧ ∀ j, j < 960 → xA Z (mA o 37) j = -1) ?_ FU 960 (nI 0) X (FUlt (by decide)) ⟨0, by decide, rfl, rfl, mfm.rf, fun j hj => absurd hj (Nat.not_lt_zero _)⟩
  · exact key
  rintro q a Z ⟨k, hk, rfl, rfl, F, h1⟩
  have LZ := L.mf F
  by_cases e : k = 960
  · left
    subst e
    refine ⟨Z, fun rec => ?_, F, h1⟩
    unfold fX10_init_l501_b
    rw [if_pos (by decide)]
  · right
    have hk' : k < 960 := by omega
    generalize hZ1 : wF Z (mA o 37) (va_up (xA Z (mA o 37)) k (-1)) = Z1
    have F1 : mfm o [37] Z Z1 := by rw [← hZ1]; exact mfm.wF (by decide) (by decide) (by decide)
    refine ⟨960 - (k + 1), nI (k + 1), Z1, by omega, ⟨k + 1, by omega, rfl, rfl, F.tr F1, fun j hj => ?_⟩, fun rec => ?_⟩
    · rw [← hZ1, xA_wFe]
      by_cases z : j = k
      · subst z
        rw [upE]
      · rw [upN z]
        exact h1 j (by omega)
    · unfold fX10_init_l501_b
      rw [if_neg (show ¬ (960 : Int32) ≤ nI k from nI_ge (b := 960) hk' (by decide)), rM37 LZ, sb, uM37 LZ hk', sb, hZ1, nI_1]
theorem m_init (h : xKd X o = 11) (hz : X.1 = o + 1) (hi : xI X o = fun _ => 0) : ∃ X1, fX10_init o X = some X1 ∧ X1.1 = o + 42 ∧ xag o X X1 ∧ MSt X1 o t00 := by
  obtain ⟨A, a1, O, g, aw, a28, a38, a39, a40, a0⟩ := m_inA h hz hi
  obtain ⟨L, z⟩ := O.lm
  obtain ⟨B, b1, FB, b2⟩ := m_i472 L
  have LB := L.mf FB
  obtain ⟨D, d1, FD, d2⟩ := m_i501 LB
  have F : mfm o [12, 13, 37] A D := (FB.wk (by decide)).tr (FD.wk (by decide))
  have zA : A.1 = o + 42 := O.2.1
  have zr : ∀ k, k < 57 → tMt.getD k 0 ≠ 0 → k ∉ [12, 13, 37] → xA D (mA o k) = fun _ => 0 := fun k hk h0 hn => by rw [F.A hn hk h0]; exact z k hk h0
  refine ⟨D, ?_, ?_, g.tr (xag.xf F.xf (fun a q1 q2 => by omega)), LB.mf FD, by rw [F.I (k := 28) (by decide), a28]; rfl, by rw [F.I (k := 29) (by decide), a0 29 (by decide)]; rfl, by rw [F.I (k := 10) (by decide), a0 10 (by decide)]; rfl, by rw [F.I (k := 38) (by decide), a38]; rfl, by rw [F.I (k := 39) (by decide), a39]; rfl, by rw [F.I (k := 40) (by decide), a40]; rfl, ⟨by rw [F.I (k := 2) (by decide), a0 2 (by decide)]; rfl, fun i hi => absurd hi (Nat.not_lt_zero _)⟩, fun r hr => ⟨?_, ?_, fun k hk => absurd hk (Nat.not_lt_zero _), fun w i hw hi' => ?_⟩, fun m hm => ⟨⟨?_, ?_, ?_⟩, ?_, Nat.zero_le _, fun n hn => absurd hn (Nat.not_lt_zero _)⟩, fun k hk => ?_⟩
  · rw [a1 some, b1, sb, d1, sb]
  · rw [F.xf.sz]
    exact zA
  · rw [zr 30 (by decide) (by decide) (by decide)]; rfl
  · rw [zr 36 (by decide) (by decide) (by decide)]; rfl
  · have hr' : r < 1 := hr
    exact d2 _ (by omega)
  · rw [zr 11 (by decide) (by decide) (by decide)]; rfl
  · rw [FD.A (k := 12) (by decide) (by decide) (by decide), (b2 m hm).1]; rfl
  · rw [FD.A (k := 13) (by decide) (by decide) (by decide), (b2 m hm).2]; rfl
  · rw [zr 14 (by decide) (by decide) (by decide)]; rfl
  · rw [(F.2.2.2 9 (by decide) (by decide) (by decide)).2]
    exact aw k hk
end Inm
