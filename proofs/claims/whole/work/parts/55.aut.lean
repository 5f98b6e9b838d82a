/-! THE GRAMMAR AS A MACHINE: mode, place, fault, what waits on each level, code.
modes: 0 a part is due, 1 behind a part, 4 behind a sum, 5 behind a test, 6 behind all, 2 done, 3 fault -/
abbrev Wt : Type := Nat × Nat × Nat
abbrev AS : Type := Nat × Nat × Nat × List Wt × Ex
def psh (E : Ex) (p : Nat × Nat) : Ex := (E.1 + 1, fun j => if j = E.1 then p else E.2 j)
abbrev isP (k : Nat) : Prop := 26 ≤ k ∨ k ≤ 12 ∨ k = 17
def stp (kd pl : Nat → Nat) : AS → AS
  | (m, i, f, [], E) => (m, i, f, [], E)
  | (m, i, f, (s, g, a) :: τ, E) =>
    if m = 0 then (if ¬ isP (kd i) then (3, i, 1 + 16 * pl i, (s, g, a) :: τ, E) else if τ.length = 5 then (3, i, 5 + 16 * pl i, (s, g, a) :: τ, E) else if kd i = 17 then (0, i + 1, 0, (0, 0, 0) :: (s, g, a) :: τ, E) else (1, i + 1, 0, (s, g, a) :: τ, psh E (if 26 ≤ kd i then (1, kd i - 26) else (2, kd i))))
    else if m = 1 then (if ¬ s = 0 then (1, i, 0, (0, g, a) :: τ, psh E (s, 0)) else if kd i = 21 then (0, i + 1, 0, (3, g, a) :: τ, E) else if kd i = 22 then (0, i + 1, 0, (4, g, a) :: τ, E) else (4, i, 0, (s, g, a) :: τ, E))
    else if m = 4 then (if ¬ g = 0 then (5, i, 0, (s, 0, a) :: τ, psh E (g, 0)) else if kd i = 19 then (0, i + 1, 0, (s, 5, a) :: τ, E) else if kd i = 20 then (0, i + 1, 0, (s, 6, a) :: τ, E) else (5, i, 0, (s, g, a) :: τ, E))
    else if m = 5 then (if ¬ a = 0 then (5, i, 0, (s, g, 0) :: τ, psh E (7, 0)) else if kd i = 16 then (0, i + 1, 0, (s, g, 7) :: τ, E) else (6, i, 0, (s, g, a) :: τ, E))
    else if m = 6 then (if τ = [] then (2, i, 0, [], E) else if kd i = 18 then (1, i + 1, 0, τ, E) else (3, i, 1 + 16 * pl i, (s, g, a) :: τ, E))
    else (m, i, f, (s, g, a) :: τ, E)
def rpt (kd pl : Nat → Nat) : Nat → AS → AS
  | 0, S => S
  | m + 1, S => rpt kd pl m (stp kd pl S)
def Rch (kd pl : Nat → Nat) (S S' : AS) : Prop := ∃ m, rpt kd pl m S = S'
section Aut
variable {kd pl : Nat → Nat}
theorem Rch.rf (S : AS) : Rch kd pl S S := ⟨0, rfl⟩
theorem rpt_add {S : AS} : ∀ (m k : Nat), rpt kd pl (m + k) S = rpt kd pl k (rpt kd pl m S)
  | 0, k => by rw [Nat.zero_add]; rfl
  | m + 1, k => by
    rw [Nat.succ_add]
    exact rpt_add (S := stp kd pl S) m k
theorem Rch.tr {S S1 S2 : AS} (h : Rch kd pl S S1) (h2 : Rch kd pl S1 S2) : Rch kd pl S S2 := by
  obtain ⟨m, rfl⟩ := h
  obtain ⟨k, rfl⟩ := h2
  exact ⟨m + k, rpt_add m k⟩
theorem Rch.st {S S1 : AS} (h : stp kd pl S = S1) : Rch kd pl S S1 := ⟨1, h⟩
theorem stp_t {S : AS} (h : S.1 = 2 ∨ S.1 = 3) : stp kd pl S = S := by
  obtain ⟨m, i, f, σ, E⟩ := S
  cases σ with
  | nil => rfl
  | cons t τ =>
    obtain ⟨s, g, a⟩ := t
    have h' : m = 2 ∨ m = 3 := h
    unfold stp
    dsimp only
    rw [if_neg (by omega), if_neg (by omega), if_neg (by omega), if_neg (by omega), if_neg (by omega)]
theorem rpt_t {S : AS} (h : S.1 = 2 ∨ S.1 = 3) : ∀ m, rpt kd pl m S = S
  | 0 => rfl
  | m + 1 => by
    show rpt kd pl m (stp kd pl S) = S
    rw [stp_t h]
    exact rpt_t h m
theorem Rch.un {S S1 S2 : AS} (h : Rch kd pl S S1) (h2 : Rch kd pl S S2) (t1 : S1.1 = 2 ∨ S1.1 = 3) (t2 : S2.1 = 2 ∨ S2.1 = 3) : S1 = S2 := by
  obtain ⟨m, e1⟩ := h
  obtain ⟨k, e2⟩ := h2
  by_cases q : m ≤ k
  · obtain ⟨d, rfl⟩ : ∃ d, k = m + d := ⟨k - m, by omega⟩
    rw [rpt_add, e1, rpt_t t1] at e2
    exact e2
  · obtain ⟨d, rfl⟩ : ∃ d, m = k + d := ⟨m - k, by omega⟩
    rw [rpt_add, e2, rpt_t t2] at e1
    exact e1.symm
def nz (x : Nat) : Nat := if x = 0 then 0 else 1
def pd : List Wt → Nat
  | [] => 0
  | (s, g, a) :: τ => nz s + nz g + nz a + pd τ
theorem nz_le (x : Nat) : nz x ≤ 1 := by unfold nz; split <;> omega
theorem nz_0 : nz 0 = 0 := rfl
theorem nz_1 {x : Nat} (h : ¬ x = 0) : nz x = 1 := if_neg h
theorem pd_le : ∀ σ : List Wt, pd σ ≤ 3 * σ.length
  | [] => Nat.le_refl _
  | (s, g, a) :: τ => by
    have := pd_le τ
    have := nz_le s
    have := nz_le g
    have := nz_le a
    show nz s + nz g + nz a + pd τ ≤ 3 * (τ.length + 1)
    omega
def okW (t : Wt) : Prop := (t.1 = 0 ∨ t.1 = 3 ∨ t.1 = 4) ∧ (t.2.1 = 0 ∨ t.2.1 = 5 ∨ t.2.1 = 6) ∧ (t.2.2 = 0 ∨ t.2.2 = 7)
/-- each element of the code is in order -/
def OPj (E : Ex) (j : Nat) : Prop := ((E.2 j).1 = 1 ∧ (E.2 j).2 ≤ 9999 ∧ dn E.2 j < 16) ∨ ((E.2 j).1 = 2 ∧ (E.2 j).2 < 13 ∧ dn E.2 j < 16) ∨ (3 ≤ (E.2 j).1 ∧ (E.2 j).1 ≤ 7 ∧ 2 ≤ dn E.2 j ∧ dn E.2 j ≤ 16)
def OP (E : Ex) : Prop := ∀ j, j < E.1 → OPj E j
theorem dn_congr {e e' : Nat → Nat × Nat} : ∀ {n : Nat}, (∀ j, j < n → e j = e' j) → dn e n = dn e' n
  | 0, _ => rfl
  | n + 1, h => by
    show (if (e n).1 ≤ 2 then dn e n + 1 else dn e n - 1) = (if (e' n).1 ≤ 2 then dn e' n + 1 else dn e' n - 1)
    rw [dn_congr (fun j hj => h j (by omega)), h n (by omega)]
theorem psh_lt {E : Ex} {p : Nat × Nat} {j : Nat} (h : j < E.1) : (psh E p).2 j = E.2 j := if_neg (by omega)
theorem psh_e {E : Ex} {p : Nat × Nat} : (psh E p).2 E.1 = p := if_pos rfl
theorem psh_dn {E : Ex} {p : Nat × Nat} {j : Nat} (h : j ≤ E.1) : dn (psh E p).2 j = dn E.2 j := dn_congr (fun i hi => psh_lt (by omega))
theorem psh_d {E : Ex} {p : Nat × Nat} : dn (psh E p).2 (psh E p).1 = if p.1 ≤ 2 then dn E.2 E.1 + 1 else dn E.2 E.1 - 1 := by
  show (if ((psh E p).2 E.1).1 ≤ 2 then dn (psh E p).2 E.1 + 1 else dn (psh E p).2 E.1 - 1) = _
  rw [psh_e, psh_dn (Nat.le_refl _)]
theorem OP.psh {E : Ex} {p : Nat × Nat} (h : OP E) (hp : (p.1 = 1 ∧ p.2 ≤ 9999 ∧ dn E.2 E.1 < 16) ∨ (p.1 = 2 ∧ p.2 < 13 ∧ dn E.2 E.1 < 16) ∨ (3 ≤ p.1 ∧ p.1 ≤ 7 ∧ 2 ≤ dn E.2 E.1 ∧ dn E.2 E.1 ≤ 16)) : OP (psh E p) := by
  intro j hj
  have hj' : j < E.1 + 1 := hj
  unfold OPj
  by_cases e : j = E.1
  · subst e
    rw [psh_e, psh_dn (Nat.le_refl _)]
    exact hp
  · rw [psh_lt (by omega), psh_dn (by omega)]
    exact h j (by omega)
/-- what holds of every state on the way; i0: where the expression begins; n: where the end stands -/
def AI (kd : Nat → Nat) (n i0 : Nat) (S : AS) : Prop := i0 ≤ S.2.1 ∧ S.2.1 ≤ n ∧ S.2.2.2.2.1 + pd S.2.2.2.1 + i0 ≤ S.2.1 ∧ S.2.2.2.1.length ≤ 6 ∧ (∀ t, t ∈ S.2.2.2.1 → okW t) ∧ OP S.2.2.2.2 ∧ (S.1 = 0 ∨ S.1 = 1 ∨ S.1 = 4 ∨ S.1 = 5 ∨ S.1 = 6 → S.2.2.2.1 ≠ []) ∧ (S.1 = 0 → dn S.2.2.2.2.2 S.2.2.2.2.1 = pd S.2.2.2.1) ∧ (S.1 = 1 ∨ S.1 = 4 ∨ S.1 = 5 ∨ S.1 = 6 ∨ S.1 = 2 → dn S.2.2.2.2.2 S.2.2.2.2.1 = pd S.2.2.2.1 + 1) ∧ (S.1 = 6 → ∀ t τ, S.2.2.2.1 = t :: τ → t = (0, 0, 0)) ∧ (S.1 = 5 → ∀ s g a τ, S.2.2.2.1 = (s, g, a) :: τ → s = 0 ∧ g = 0) ∧ (S.1 = 4 → ∀ s g a τ, S.2.2.2.1 = (s, g, a) :: τ → s = 0) ∧ (S.1 = 2 → S.2.2.2.1 = []) ∧ (S.1 = 1 ∨ S.1 = 4 ∨ S.1 = 5 ∨ S.1 = 6 → S.2.2.2.1.length ≤ 5)
theorem AI.st {n i0 : Nat} {S : AS} (hkd : ∀ j, j < n → kd j ≠ 24 ∧ kd j ≤ 10025) (hn : kd n = 24) (h : AI kd n i0 S) : AI kd n i0 (stp kd pl S) := by
  obtain ⟨m, i, f, σ, E⟩ := S
  cases σ with
  | nil => exact h
  | cons t τ =>
    obtain ⟨s, g, a⟩ := t
    obtain ⟨h1, h2, h3, h4, h5, h6, h7, h8, h9, h10, h11, h12, h13, h14⟩ := h
    have h3 : E.1 + (nz s + nz g + nz a + pd τ) + i0 ≤ i := h3
    have h1 : i0 ≤ i := h1
    have h2 : i ≤ n := h2
    have h4 : τ.length + 1 ≤ 6 := h4
    have o6 : OP E := h6
    have h5 : ∀ t, t ∈ (s, g, a) :: τ → okW t := h5
    have hw : (s = 0 ∨ s = 3 ∨ s = 4) ∧ (g = 0 ∨ g = 5 ∨ g = 6) ∧ (a = 0 ∨ a = 7) := h5 (s, g, a) List.mem_cons_self
    have hwt : ∀ t, t ∈ τ → okW t := fun t ht => h5 t (List.mem_cons_of_mem _ ht)
    have hmk : ∀ t, okW t → ∀ u, u ∈ t :: τ → okW u := fun t ht u hu => by
      rcases List.mem_cons.mp hu with rfl | q
      · exact ht
      · exact hwt u q
    have hpl := pd_le τ
    have hzs := nz_le s
    have hzg := nz_le g
    have hza := nz_le a
    have hi : ∀ x, kd i = x → x ≠ 24 → i < n := fun x hx hne => by
      by_cases q : i = n
      · rw [q, hn] at hx; exact absurd hx.symm hne
      · omega
    unfold stp
    dsimp only
    by_cases m0 : m = 0
    · rw [if_pos m0]
      have h8 : dn E.2 E.1 = nz s + nz g + nz a + pd τ := h8 m0
      by_cases c1 : isP (kd i)
      rotate_left 1
      · rw [if_pos c1]
        exact ⟨h1, h2, h3, h4, h5, h6, fun z => by simp at z, fun z => by simp at z, fun z => by simp at z, fun z => by simp at z, fun z => by simp at z, fun z => by simp at z, fun z => by simp at z, fun z => by simp at z⟩
      rw [if_neg (fun z => z c1)]
      by_cases c2 : τ.length = 5
      · rw [if_pos c2]
        exact ⟨h1, h2, h3, h4, h5, h6, fun z => by simp at z, fun z => by simp at z, fun z => by simp at z, fun z => by simp at z, fun z => by simp at z, fun z => by simp at z, fun z => by simp at z, fun z => by simp at z⟩
      rw [if_neg c2]
      have hin : i < n := by
        by_cases q : i = n
        · rw [q, hn] at c1
          have c1' : 26 ≤ 24 ∨ 24 ≤ 12 ∨ 24 = 17 := c1
          omega
        · omega
      by_cases c3 : kd i = 17
      · rw [if_pos c3]
        refine ⟨by show i0 ≤ i + 1; omega, hin, ?_, ?_, ?_, h6, fun _ => List.cons_ne_nil _ _, fun _ => ?_, fun z => by simp at z, fun z => by simp at z, fun z => by simp at z, fun z => by simp at z, fun z => by simp at z, fun z => by simp at z⟩
        · show E.1 + (0 + (nz s + nz g + nz a + pd τ)) + i0 ≤ i + 1
          omega
        · show τ.length + 1 + 1 ≤ 6
          omega
        · intro u hu
          rcases List.mem_cons.mp hu with rfl | q
          · exact ⟨Or.inl rfl, Or.inl rfl, Or.inl rfl⟩
          · exact h5 u q
        · show dn E.2 E.1 = 0 + (nz s + nz g + nz a + pd τ)
          omega
      rw [if_neg c3]
      have hle := (hkd i hin).2
      have hL5 : τ.length + 1 ≤ 5 := by omega
      refine ⟨by show i0 ≤ i + 1; omega, hin, ?_, h4, h5, o6.psh ?_, fun _ => List.cons_ne_nil _ _, fun z => by simp at z, fun _ => ?_, fun z => by simp at z, fun z => by simp at z, fun z => by simp at z, fun z => by simp at z, fun _ => hL5⟩
      · show E.1 + 1 + (nz s + nz g + nz a + pd τ) + i0 ≤ i + 1
        omega
      · by_cases c4 : 26 ≤ kd i
        · rw [if_pos c4]
          exact Or.inl ⟨rfl, by show kd i - 26 ≤ 9999; omega, by omega⟩
        · rw [if_neg c4]
          have c1' : 26 ≤ kd i ∨ kd i ≤ 12 ∨ kd i = 17 := c1
          exact Or.inr (Or.inl ⟨rfl, by show kd i < 13; omega, by omega⟩)
      · show dn (psh E _).2 (psh E _).1 = nz s + nz g + nz a + pd τ + 1
        rw [psh_d, if_pos (by
          split
          · exact (by decide : 1 ≤ 2)
          · exact (by decide : 2 ≤ 2)), h8]
    rw [if_neg m0]
    by_cases m1 : m = 1
    · rw [if_pos m1]
      have h9 : dn E.2 E.1 = nz s + nz g + nz a + pd τ + 1 := h9 (Or.inl m1)
      have hL5 : τ.length + 1 ≤ 5 := h14 (Or.inl m1)
      by_cases c1 : s = 0
      rotate_left 1
      · rw [if_pos c1]
        have hs1 := nz_1 c1
        have hs3 : 3 ≤ s ∧ s ≤ 4 := by omega
        refine ⟨h1, h2, ?_, h4, hmk _ ⟨Or.inl rfl, hw.2⟩, o6.psh (p := (s, 0)) (Or.inr (Or.inr ⟨hs3.1, by show s ≤ 7; omega, by omega, by omega⟩)), fun _ => List.cons_ne_nil _ _, fun z => by simp at z, fun _ => ?_, fun z => by simp at z, fun z => by simp at z, fun z => by simp at z, fun z => by simp at z, fun _ => hL5⟩
        · show E.1 + 1 + (0 + nz g + nz a + pd τ) + i0 ≤ i
          omega
        · show dn (psh E (s, 0)).2 (psh E (s, 0)).1 = 0 + nz g + nz a + pd τ + 1
          rw [psh_d, if_neg (show ¬ s ≤ 2 by omega), h9]
          omega
      rw [if_neg (fun z => z c1)]
      subst c1
      have q0 : nz 0 = 0 := rfl
      by_cases c2 : kd i = 21
      · rw [if_pos c2]
        have hin := hi 21 c2 (by decide)
        refine ⟨by show i0 ≤ i + 1; omega, hin, ?_, h4, hmk _ ⟨Or.inr (Or.inl rfl), hw.2⟩, h6, fun _ => List.cons_ne_nil _ _, fun _ => ?_, fun z => by simp at z, fun z => by simp at z, fun z => by simp at z, fun z => by simp at z, fun z => by simp at z, fun z => by simp at z⟩
        · show E.1 + (1 + nz g + nz a + pd τ) + i0 ≤ i + 1
          omega
        · show dn E.2 E.1 = 1 + nz g + nz a + pd τ
          omega
      rw [if_neg c2]
      by_cases c3 : kd i = 22
      · rw [if_pos c3]
        have hin := hi 22 c3 (by decide)
        refine ⟨by show i0 ≤ i + 1; omega, hin, ?_, h4, hmk _ ⟨Or.inr (Or.inr rfl), hw.2⟩, h6, fun _ => List.cons_ne_nil _ _, fun _ => ?_, fun z => by simp at z, fun z => by simp at z, fun z => by simp at z, fun z => by simp at z, fun z => by simp at z, fun z => by simp at z⟩
        · show E.1 + (1 + nz g + nz a + pd τ) + i0 ≤ i + 1
          omega
        · show dn E.2 E.1 = 1 + nz g + nz a + pd τ
          omega
      rw [if_neg c3]
      refine ⟨h1, h2, h3, h4, h5, h6, fun _ => List.cons_ne_nil _ _, fun z => by simp at z, fun _ => h9, fun z => by simp at z, fun z => by simp at z, fun _ s g a τ' he => ?_, fun z => by simp at z, fun _ => hL5⟩
      cases he
      rfl
    rw [if_neg m1]
    by_cases m4 : m = 4
    · rw [if_pos m4]
      have h9 : dn E.2 E.1 = nz s + nz g + nz a + pd τ + 1 := h9 (Or.inr (Or.inl m4))
      have hL5 : τ.length + 1 ≤ 5 := h14 (Or.inr (Or.inl m4))
      have hs0 : s = 0 := h12 m4 s g a τ rfl
      subst hs0
      have q0 : nz 0 = 0 := rfl
      by_cases c1 : g = 0
      rotate_left 1
      · rw [if_pos c1]
        have hs1 := nz_1 c1
        have hs3 : 3 ≤ g ∧ g ≤ 6 := by omega
        refine ⟨h1, h2, ?_, h4, hmk _ ⟨hw.1, Or.inl rfl, hw.2.2⟩, o6.psh (p := (g, 0)) (Or.inr (Or.inr ⟨hs3.1, by show g ≤ 7; omega, by omega, by omega⟩)), fun _ => List.cons_ne_nil _ _, fun z => by simp at z, fun _ => ?_, fun z => by simp at z, fun _ s g a τ' he => ?_, fun z => by simp at z, fun z => by simp at z, fun _ => hL5⟩
        · show E.1 + 1 + (nz 0 + 0 + nz a + pd τ) + i0 ≤ i
          omega
        · show dn (psh E (g, 0)).2 (psh E (g, 0)).1 = nz 0 + 0 + nz a + pd τ + 1
          rw [psh_d, if_neg (show ¬ g ≤ 2 by omega), h9]
          omega
        · cases he
          exact ⟨rfl, rfl⟩
      rw [if_neg (fun z => z c1)]
      subst c1
      by_cases c2 : kd i = 19
      · rw [if_pos c2]
        have hin := hi 19 c2 (by decide)
        refine ⟨by show i0 ≤ i + 1; omega, hin, ?_, h4, hmk _ ⟨hw.1, Or.inr (Or.inl rfl), hw.2.2⟩, h6, fun _ => List.cons_ne_nil _ _, fun _ => ?_, fun z => by simp at z, fun z => by simp at z, fun z => by simp at z, fun z => by simp at z, fun z => by simp at z, fun z => by simp at z⟩
        · show E.1 + (nz 0 + 1 + nz a + pd τ) + i0 ≤ i + 1
          omega
        · show dn E.2 E.1 = nz 0 + 1 + nz a + pd τ
          omega
      rw [if_neg c2]
      by_cases c3 : kd i = 20
      · rw [if_pos c3]
        have hin := hi 20 c3 (by decide)
        refine ⟨by show i0 ≤ i + 1; omega, hin, ?_, h4, hmk _ ⟨hw.1, Or.inr (Or.inr rfl), hw.2.2⟩, h6, fun _ => List.cons_ne_nil _ _, fun _ => ?_, fun z => by simp at z, fun z => by simp at z, fun z => by simp at z, fun z => by simp at z, fun z => by simp at z, fun z => by simp at z⟩
        · show E.1 + (nz 0 + 1 + nz a + pd τ) + i0 ≤ i + 1
          omega
        · show dn E.2 E.1 = nz 0 + 1 + nz a + pd τ
          omega
      rw [if_neg c3]
      refine ⟨h1, h2, h3, h4, h5, h6, fun _ => List.cons_ne_nil _ _, fun z => by simp at z, fun _ => h9, fun z => by simp at z, fun _ s g a τ' he => ?_, fun z => by simp at z, fun z => by simp at z, fun _ => hL5⟩
      cases he
      exact ⟨rfl, rfl⟩
    rw [if_neg m4]
    by_cases m5 : m = 5
    · rw [if_pos m5]
      have h9 : dn E.2 E.1 = nz s + nz g + nz a + pd τ + 1 := h9 (Or.inr (Or.inr (Or.inl m5)))
      have hL5 : τ.length + 1 ≤ 5 := h14 (Or.inr (Or.inr (Or.inl m5)))
      obtain ⟨hs0, hg0⟩ := h11 m5 s g a τ rfl
      subst hs0 hg0
      have q0 : nz 0 = 0 := rfl
      by_cases c1 : a = 0
      rotate_left 1
      · rw [if_pos c1]
        have hs1 := nz_1 c1
        refine ⟨h1, h2, ?_, h4, hmk _ ⟨hw.1, hw.2.1, Or.inl rfl⟩, o6.psh (p := (7, 0)) (Or.inr (Or.inr ⟨(by decide : 3 ≤ 7), (by decide : 7 ≤ 7), by omega, by omega⟩)), fun _ => List.cons_ne_nil _ _, fun z => by simp at z, fun _ => ?_, fun z => by simp at z, fun _ s g a τ' he => ?_, fun z => by simp at z, fun z => by simp at z, fun _ => hL5⟩
        · show E.1 + 1 + (nz 0 + nz 0 + 0 + pd τ) + i0 ≤ i
          omega
        · show dn (psh E (7, 0)).2 (psh E (7, 0)).1 = nz 0 + nz 0 + 0 + pd τ + 1
          rw [psh_d, if_neg (by decide : ¬ 7 ≤ 2), h9]
          omega
        · cases he
          exact ⟨rfl, rfl⟩
      rw [if_neg (fun z => z c1)]
      subst c1
      by_cases c2 : kd i = 16
      · rw [if_pos c2]
        have hin := hi 16 c2 (by decide)
        refine ⟨by show i0 ≤ i + 1; omega, hin, ?_, h4, hmk _ ⟨hw.1, hw.2.1, Or.inr rfl⟩, h6, fun _ => List.cons_ne_nil _ _, fun _ => ?_, fun z => by simp at z, fun z => by simp at z, fun z => by simp at z, fun z => by simp at z, fun z => by simp at z, fun z => by simp at z⟩
        · show E.1 + (nz 0 + nz 0 + 1 + pd τ) + i0 ≤ i + 1
          omega
        · show dn E.2 E.1 = nz 0 + nz 0 + 1 + pd τ
          omega
      rw [if_neg c2]
      refine ⟨h1, h2, h3, h4, h5, h6, fun _ => List.cons_ne_nil _ _, fun z => by simp at z, fun _ => h9, fun _ t τ' he => ?_, fun z => by simp at z, fun z => by simp at z, fun z => by simp at z, fun _ => hL5⟩
      cases he
      rfl
    rw [if_neg m5]
    by_cases m6 : m = 6
    · rw [if_pos m6]
      have h9 : dn E.2 E.1 = nz s + nz g + nz a + pd τ + 1 := h9 (Or.inr (Or.inr (Or.inr (Or.inl m6))))
      have hL6 : τ.length + 1 ≤ 5 := h14 (Or.inr (Or.inr (Or.inr m6)))
      have hL5 : τ.length ≤ 5 := by omega
      have ht0 := h10 m6 (s, g, a) τ rfl
      cases ht0
      have q0 : nz 0 = 0 := rfl
      by_cases c1 : τ = []
      · rw [if_pos c1]
        subst c1
        have qn : pd [] = 0 := rfl
        refine ⟨h1, h2, ?_, Nat.zero_le _, fun t ht => absurd ht (by simp), h6, fun z => by simp at z, fun z => by simp at z, fun _ => ?_, fun z => by simp at z, fun z => by simp at z, fun z => by simp at z, fun _ => rfl, fun z => by simp at z⟩
        · show E.1 + 0 + i0 ≤ i
          omega
        · show dn E.2 E.1 = 0 + 1
          omega
      rw [if_neg c1]
      by_cases c2 : kd i = 18
      · rw [if_pos c2]
        have hin := hi 18 c2 (by decide)
        refine ⟨by show i0 ≤ i + 1; omega, hin, ?_, by show τ.length ≤ 6; omega, hwt, h6, fun _ => c1, fun z => by simp at z, fun _ => ?_, fun z => by simp at z, fun z => by simp at z, fun z => by simp at z, fun z => by simp at z, fun _ => hL5⟩
        · show E.1 + pd τ + i0 ≤ i + 1
          omega
        · show dn E.2 E.1 = pd τ + 1
          omega
      rw [if_neg c2]
      exact ⟨h1, h2, h3, h4, h5, h6, fun z => by simp at z, fun z => by simp at z, fun z => by simp at z, fun z => by simp at z, fun z => by simp at z, fun z => by simp at z, fun z => by simp at z, fun z => by simp at z⟩
    rw [if_neg m6]
    exact ⟨h1, h2, h3, h4, h5, h6, h7, h8, h9, h10, h11, h12, h13, h14⟩
theorem AI.rc {n i0 : Nat} {S S' : AS} (hkd : ∀ j, j < n → kd j ≠ 24 ∧ kd j ≤ 10025) (hn : kd n = 24) (h : AI kd n i0 S) (hr : Rch kd pl S S') : AI kd n i0 S' := by
  obtain ⟨m, rfl⟩ := hr
  induction m generalizing S with
  | zero => exact h
  | succ m ih => exact ih (h.st hkd hn)
def E0 : Ex := (0, fun _ => (0, 0))
def S0 (i : Nat) : AS := (0, i, 0, [(0, 0, 0)], E0)
theorem AI_0 {n i : Nat} (h : i ≤ n) : AI kd n i (S0 i) := ⟨Nat.le_refl _, h, by show 0 + 0 + i ≤ i; omega, by show 1 ≤ 6; omega, fun t ht => by
  rcases List.mem_cons.mp ht with rfl | q
  · exact ⟨Or.inl rfl, Or.inl rfl, Or.inl rfl⟩
  · exact absurd q (by simp), fun j hj => absurd hj (Nat.not_lt_zero _), fun _ => List.cons_ne_nil _ _, fun _ => rfl, fun z => by simp [S0] at z, fun z => by simp [S0] at z, fun z => by simp [S0] at z, fun z => by simp [S0] at z, fun z => by simp [S0] at z, fun z => by simp [S0] at z⟩
theorem AI.ok {n i0 i f : Nat} {σ : List Wt} {E : Ex} (h : AI kd n i0 (2, i, f, σ, E)) (hn : n ≤ 1000) : okE E ∧ E.1 + i0 ≤ i := by
  obtain ⟨h1, h2, h3, h4, h5, h6, h7, h8, h9, h10, h11, h12, h13, h14⟩ := h
  have hs : σ = [] := h13 rfl
  subst hs
  have h9 : dn E.2 E.1 = 0 + 1 := h9 (Or.inr (Or.inr (Or.inr (Or.inr rfl))))
  have h3 : E.1 + 0 + i0 ≤ i := h3
  have h2 : i ≤ n := h2
  refine ⟨⟨?_, by omega, by omega, h6⟩, by omega⟩
  by_cases q : E.1 = 0
  · rw [q] at h9
    have : dn E.2 0 = 0 := rfl
    omega
  · omega
end Aut
