/-! THE START: classes, arrays, the tables' nest words -/
section Sta
variable {args : Array Value} {s : State}
theorem st_cls (hts : ∀ w ∈ xws, w.before args s = true) : ∃ (dC : Nat → ClassId) (dI : Nat → Nat → Nat), ∀ (c : Nat) (q : vw_C), vwCl[c]? = some q → u_Kn s q.1 q.2.1 q.2.2 (dC c) (dI c) := by
  have h : ∀ c, ∃ (cC : ClassId) (iS : Nat → Nat), ∀ q : vw_C, vwCl[c]? = some q → u_Kn s q.1 q.2.1 q.2.2 cC iS := fun c => by
    match c with
    | 0 =>
      obtain ⟨cC, iS, hK⟩ := u_known hts cl_X0.2.1 (hts _ kn_X0.1)
      exact ⟨cC, iS, fun q hq => by rw [cl_X0.1] at hq; cases hq; exact hK⟩
    | 1 =>
      obtain ⟨cC, iS, hK⟩ := u_known hts cl_X1.2.1 (hts _ kn_X1.1)
      exact ⟨cC, iS, fun q hq => by rw [cl_X1.1] at hq; cases hq; exact hK⟩
    | 2 =>
      obtain ⟨cC, iS, hK⟩ := u_known hts cl_X2.2.1 (hts _ kn_X2.1)
      exact ⟨cC, iS, fun q hq => by rw [cl_X2.1] at hq; cases hq; exact hK⟩
    | 3 =>
      obtain ⟨cC, iS, hK⟩ := u_known hts cl_X3.2.1 (hts _ kn_X3.1)
      exact ⟨cC, iS, fun q hq => by rw [cl_X3.1] at hq; cases hq; exact hK⟩
    | 4 =>
      obtain ⟨cC, iS, hK⟩ := u_known hts cl_X4.2.1 (hts _ kn_X4.1)
      exact ⟨cC, iS, fun q hq => by rw [cl_X4.1] at hq; cases hq; exact hK⟩
    | 5 =>
      obtain ⟨cC, iS, hK⟩ := u_known hts cl_X5.2.1 (hts _ kn_X5.1)
      exact ⟨cC, iS, fun q hq => by rw [cl_X5.1] at hq; cases hq; exact hK⟩
    | 6 =>
      obtain ⟨cC, iS, hK⟩ := u_known hts cl_X6.2.1 (hts _ kn_X6.1)
      exact ⟨cC, iS, fun q hq => by rw [cl_X6.1] at hq; cases hq; exact hK⟩
    | 7 =>
      obtain ⟨cC, iS, hK⟩ := u_known hts cl_X7.2.1 (hts _ kn_X7.1)
      exact ⟨cC, iS, fun q hq => by rw [cl_X7.1] at hq; cases hq; exact hK⟩
    | 8 =>
      obtain ⟨cC, iS, hK⟩ := u_known hts cl_X8.2.1 (hts _ kn_X8.1)
      exact ⟨cC, iS, fun q hq => by rw [cl_X8.1] at hq; cases hq; exact hK⟩
    | 9 =>
      obtain ⟨cC, iS, hK⟩ := u_known hts cl_X9.2.1 (hts _ kn_X9.1)
      exact ⟨cC, iS, fun q hq => by rw [cl_X9.1] at hq; cases hq; exact hK⟩
    | 10 =>
      obtain ⟨cC, iS, hK⟩ := u_known hts cl_X10.2.1 (hts _ kn_X10.1)
      exact ⟨cC, iS, fun q hq => by rw [cl_X10.1] at hq; cases hq; exact hK⟩
    | c + 11 => exact ⟨0, fun _ => 0, fun q hq => by simp [vwCl] at hq⟩
  exact ⟨fun c => Classical.choose (h c), fun c => Classical.choose (Classical.choose_spec (h c)), fun c q hq => Classical.choose_spec (Classical.choose_spec (h c)) q hq⟩
theorem st_nw (hts : ∀ w ∈ lw_tbl, w.before args s = true) : xnw s := by
  refine ⟨va_Nw.of rfl (hts xn_38 (by decide +kernel)), va_Nw.of rfl (hts xn_55 (by decide +kernel)), va_Nw.of rfl (hts xn_69 (by decide +kernel)), va_Nw.of rfl (hts xn_75 (by decide +kernel)), va_Nw.of rfl (hts xn_197 (by decide +kernel)), va_Nw.of rfl (hts xn_370 (by decide +kernel)), va_Nw.of rfl (hts xn_434 (by decide +kernel)), va_Nw.of rfl (hts xn_570 (by decide +kernel)), va_Nw.of rfl (hts xn_643 (by decide +kernel)), va_Nw.of rfl (hts xn_669 (by decide +kernel)), va_Nw.of rfl (hts xn_671 (by decide +kernel)), va_Nw.of rfl (hts xn_673 (by decide +kernel)), va_Nw.of rfl (hts xn_743 (by decide +kernel)), va_Nw.of rfl (hts xn_745 (by decide +kernel)), va_Nw.of rfl (hts xn_747 (by decide +kernel)), va_Nw.of rfl (hts xn_749 (by decide +kernel)), (show (Cond.arrayOver (.object "VoiceShaper$Manner")).before #[] s = true by
    have h := hts (.arrayOver (.object "VoiceShaper$Manner")) (by decide +kernel)
    simpa only [Cond.before, Cond.holds, Cond.value] using h), (show (Cond.arrayOver (.object "VoiceShaper$Reading")).before #[] s = true by
    have h := hts (.arrayOver (.object "VoiceShaper$Reading")) (by decide +kernel)
    simpa only [Cond.before, Cond.holds, Cond.value] using h), show (Cond.arrayOver (.array .int)).before #[] s = true by
    have h := hts (.arrayOver (.array .int)) (by decide +kernel)
    simpa only [Cond.before, Cond.holds, Cond.value] using h⟩
theorem st_arr (hts : ∀ w ∈ xws, w.before args s = true) (hn : xnw s) : ∃ dA : Nat → ClassId, ∀ t, t < 7 → ArrOfT s (dA t) (xAty t) ∧ va_RA s (dA t) (xAty t) := by
  have h : ∀ t, ∃ cA : ClassId, t < 7 → ArrOfT s cA (xAty t) ∧ va_RA s cA (xAty t) := fun t => by
    match t with
    | 0 =>
      obtain ⟨cA, kA, comp, h1, h2, h3⟩ := Cond.arrayClass_spec (hts _ ka_byte)
      exact ⟨cA, fun _ => ⟨fun N z => ⟨(fun k h => by cases h), kA, h2, comp, h3⟩, h1⟩⟩
    | 1 =>
      obtain ⟨cA, kA, comp, h1, h2, h3⟩ := Cond.arrayClass_spec (hts _ ka_int)
      exact ⟨cA, fun _ => ⟨fun N z => ⟨(fun k h => by cases h), kA, h2, comp, h3⟩, h1⟩⟩
    | 2 =>
      obtain ⟨cA, kA, comp, h1, h2, h3⟩ := Cond.arrayClass_spec (hts _ ka_long)
      exact ⟨cA, fun _ => ⟨fun N z => ⟨(fun k h => by cases h), kA, h2, comp, h3⟩, h1⟩⟩
    | 3 =>
      obtain ⟨cA, kA, comp, h1, h2, h3⟩ := Cond.arrayClass_spec (hts _ ka_boolean)
      exact ⟨cA, fun _ => ⟨fun N z => ⟨(fun k h => by cases h), kA, h2, comp, h3⟩, h1⟩⟩
    | 4 =>
      obtain ⟨comp, cA, kA, h0, -, h2, h3, h1⟩ := Cond.arrayOver_spec (xnw_aoM hn)
      exact ⟨cA, fun _ => ⟨fun N z => ⟨(fun k h => by cases h), kA, h2, comp, h3⟩, kA, comp, h2, h3, h0, h1⟩⟩
    | 5 =>
      obtain ⟨comp, cA, kA, h0, -, h2, h3, h1⟩ := Cond.arrayOver_spec (xnw_aoR hn)
      exact ⟨cA, fun _ => ⟨fun N z => ⟨(fun k h => by cases h), kA, h2, comp, h3⟩, kA, comp, h2, h3, h0, h1⟩⟩
    | 6 =>
      obtain ⟨comp, cA, kA, h0, -, h2, h3, h1⟩ := arrayOver_specB (xnw_aoA hn)
      exact ⟨cA, fun _ => ⟨fun N z => ⟨(fun k h => by cases h), kA, h2, comp, h3⟩, h1⟩⟩
    | t + 7 => exact ⟨0, fun h => absurd h (by omega)⟩
  exact ⟨fun t => Classical.choose (h t), fun t ht => Classical.choose_spec (h t) ht⟩
end Sta
