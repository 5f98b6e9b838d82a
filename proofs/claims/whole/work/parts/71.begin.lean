/-! THE BEGINNING: both, and the law's long[1] -/
section Beg
variable {X : XW}
theorem W_00 : WSt t00 := by
  refine ⟨by decide, by decide, by decide, fun r hr => ?_, fun r _ _ => rfl, by decide, fun m hm => ?_, by decide, by decide, by decide, by decide, by decide, by decide, by decide, fun i hi => absurd hi (Nat.not_lt_zero _)⟩
  · exact ⟨Nat.zero_le _, fun k hk => absurd hk (Nat.not_lt_zero _), Nat.zero_le _, fun q i _ _ => Or.inl rfl, fun q i _ _ _ => rfl⟩
  · exact ⟨(by decide : 0 ≤ 99), (by decide : 99 ≤ 99), (by decide : 1 ≤ 99), (by decide : 99 ≤ 99), fun n hn => absurd hn (Nat.not_lt_zero _)⟩
/-- new VoiceShaper, new VoiceShaperModel, new long[1] -/
theorem p_init (X : XW) : ∃ A B, fX9_init X.1 (nO X 9).2 = some A ∧ (nO A 10).1 = X.1 + 127 ∧ fX10_init (X.1 + 127) (nO A 10).2 = some B ∧ B.1 = X.1 + 169 ∧ xag X.1 X B ∧ Inv (wN B 22 1) X.1 t00 := by
  obtain ⟨A, a1, a2, a3, a4, a5, a6⟩ := c_init (X := wN X 10 0) (v := X.1) (by rw [kd_wN, if_pos rfl]) rfl
  obtain ⟨B, b1, b2, b3, b4⟩ := m_init (X := wN A 11 0) (o := X.1 + 127) (by rw [kd_wN, if_pos a2.symm]) (by show A.1 + 1 = _; rw [a2]) (by rw [xI_wN, if_pos a2.symm])
  have g : xag (X.1 + 127) A B := (xag.wN (by omega)).tr b3
  have gB : xag (X.1 + 127) A (wN B 22 1) := g.tr (xag.wN (by omega))
  have gX : xag X.1 X B := ((xag.wN (Nat.le_refl _)).tr a3).tr (g.le (by omega))
  have gM : xag (X.1 + 169) B (wN B 22 1) := xag.wN (by omega)
  refine ⟨A, B, a1, a2, b1, b2, gX, ?_, ?_, W_00, Or.inl ?_, Or.inl ?_, ⟨?_, ?_⟩, ?_⟩
  · obtain ⟨L, C1, C2, C3, C4, C5, C6, C7, C8, C9⟩ := a4
    have ap : xap (fun a => a < X.1 + 127) A (wN B 22 1) := gB.ap (fun a ha => ha)
    have ev : xI (wN B 22 1) X.1 = xI A X.1 := (gB.2 X.1 (by omega)).2.1
    have e3 : xI (wN B 22 1) (X.1 + 3) = xI A (X.1 + 3) := (gB.2 (X.1 + 3) (by omega)).2.1
    refine ⟨L.lg ap.lg (fun a q1 q2 => by omega) (fun i hi => gB.kd (by unfold cM; omega)), by rw [ev]; exact C1, by rw [ev]; exact C2, by rw [ev]; exact C3, by rw [ev]; exact C4, by rw [ev]; exact C5, by rw [ev]; exact C6, ⟨by rw [e3]; exact C7.1, fun i hi => absurd hi (Nat.not_lt_zero _)⟩, fun r hr => (C8 r hr).ap ap (fun a q1 q2 => by unfold cR at q2; omega), fun m hm => ?_⟩
    obtain ⟨c1, R, r1, r2, r3⟩ := C9 m hm
    unfold RAd at r2
    have c1 : LMn A (cM X.1 m) 0 99 99 := c1
    have r3 : CRu A R 0 (fun _ => l00) := r3
    have hm' : cM X.1 m < X.1 + 127 := by unfold cM; omega
    refine ⟨⟨(gB.kd hm').trans c1.1, ?_⟩, R, (gB.rr hm' 0).trans r1, ⟨r2.1, ?_⟩, r3.1.lg ap.lg (fun a q1 q2 => by omega), ?_, r3.2.2.1, fun n hn => absurd hn (Nat.not_lt_zero _)⟩
    · rw [(gB.2 _ hm').2.1]
      exact c1.2
    · show R + 6 < B.1 + 1
      omega
    · rw [(gB.2 R (by omega)).2.1]
      exact r3.2.1
  · obtain ⟨M1, M2⟩ := b4
    have h1 : LM (wN B 22 1) (X.1 + 127) := M1.lg gM.lg (fun a q1 q2 => by omega)
    have eI : xI (wN B 22 1) (X.1 + 127) = xI B (X.1 + 127) := (gM.2 _ (by omega)).2.1
    have eA : ∀ k, k < 57 → tMt.getD k 0 ≠ 0 → xA (wN B 22 1) (mA (X.1 + 127) k) = xA B (mA (X.1 + 127) k) ∧ xL (wN B 22 1) (mA (X.1 + 127) k) = xL B (mA (X.1 + 127) k) := fun k hk h0 => by
      have h1 := cM_le k hk h0
      have h2 := gM.2 (mA (X.1 + 127) k) (by unfold mA; omega)
      exact ⟨h2.2.2.2.1, h2.2.2.2.2.1⟩
    refine ⟨h1, ?_⟩
    unfold MTp MRd MWd MMn MRu MLn MEx at *
    rw [eI, (eA 1 (by decide) (by decide)).1, (eA 9 (by decide) (by decide)).2, (eA 11 (by decide) (by decide)).1, (eA 12 (by decide) (by decide)).1, (eA 13 (by decide) (by decide)).1, (eA 14 (by decide) (by decide)).1, (eA 15 (by decide) (by decide)).1, (eA 16 (by decide) (by decide)).1, (eA 17 (by decide) (by decide)).1, (eA 18 (by decide) (by decide)).1, (eA 19 (by decide) (by decide)).1, (eA 20 (by decide) (by decide)).1, (eA 30 (by decide) (by decide)).1, (eA 31 (by decide) (by decide)).1, (eA 32 (by decide) (by decide)).1, (eA 33 (by decide) (by decide)).1, (eA 34 (by decide) (by decide)).1, (eA 35 (by decide) (by decide)).1, (eA 36 (by decide) (by decide)).1, (eA 37 (by decide) (by decide)).1]
    exact M2
  · rw [(gB.2 (X.1 + 7) (by omega)).2.1]
    exact a5
  · rw [(gB.2 (X.1 + 31) (by omega)).2.1]
    exact a6
  · rw [kd_wN, if_pos b2.symm]
  · rw [ln_wN, if_pos b2.symm]
  · show X.1 + 170 ≤ B.1 + 1
    omega
end Beg
