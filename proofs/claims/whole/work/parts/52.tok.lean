/-! TOKENS: what they are -/
abbrev inR (lo hi x : Nat) : Prop := lo ≤ x ∧ x ≤ hi
def re (c : Nat → Nat) (T lo hi : Nat) : Nat → Nat → Nat
  | 0, k => k
  | f + 1, k => if k < T ∧ inR lo hi (c k) then re c T lo hi f (k + 1) else k
def EP (c : Nat → Nat) (T lo hi k e : Nat) : Prop := k ≤ e ∧ e ≤ T ∧ (∀ j, k ≤ j → j < e → inR lo hi (c j)) ∧ (e < T → ¬ inR lo hi (c e))
theorem EP.un {c : Nat → Nat} {T lo hi k e e' : Nat} (h : EP c T lo hi k e) (h' : EP c T lo hi k e') : e = e' := by
  obtain ⟨a1, a2, a3, a4⟩ := h
  obtain ⟨b1, b2, b3, b4⟩ := h'
  by_cases q : e < e'
  · exact absurd (b3 e a1 q) (a4 (by omega))
  · by_cases q2 : e' < e
    · exact absurd (a3 e' b1 q2) (b4 (by omega))
    · omega
theorem re_p {c : Nat → Nat} {T lo hi : Nat} : ∀ f k, k ≤ T → T - k ≤ f → EP c T lo hi k (re c T lo hi f k)
  | 0, k, h, h2 => ⟨Nat.le_refl _, h, fun j h3 h4 => absurd h4 (by show ¬ j < k; omega), fun h3 => absurd h3 (by show ¬ k < T; omega)⟩
  | f + 1, k, h, h2 => by
    by_cases q : k < T ∧ inR lo hi (c k)
    · rw [show re c T lo hi (f + 1) k = re c T lo hi f (k + 1) from if_pos q]
      obtain ⟨a1, a2, a3, a4⟩ := re_p (c := c) (T := T) (lo := lo) (hi := hi) f (k + 1) (by omega) (by omega)
      refine ⟨by omega, a2, fun j h3 h4 => ?_, a4⟩
      by_cases e : j = k
      · rw [e]; exact q.2
      · exact a3 j (by omega) h4
    · rw [show re c T lo hi (f + 1) k = k from if_neg q]
      exact ⟨Nat.le_refl _, h, fun j h3 h4 => absurd h4 (by omega), fun h3 z => q ⟨h3, z⟩⟩
def rE (c : Nat → Nat) (T lo hi k : Nat) : Nat := re c T lo hi (T - k) k
theorem rE_p {c : Nat → Nat} {T lo hi k : Nat} (h : k ≤ T) : EP c T lo hi k (rE c T lo hi k) := re_p _ k h (Nat.le_refl _)
theorem rE_gt {c : Nat → Nat} {T lo hi k : Nat} (h : k < T) (h2 : inR lo hi (c k)) : k < rE c T lo hi k := by
  obtain ⟨a1, a2, a3, a4⟩ := rE_p (c := c) (lo := lo) (hi := hi) (Nat.le_of_lt h)
  by_cases q : k < rE c T lo hi k
  · exact q
  · have e : rE c T lo hi k = k := by omega
    rw [e] at a4
    exact absurd h2 (a4 h)
def NMl : List Nat := [108, 101, 110, 103, 116, 104, 32, 32, 104, 101, 105, 103, 104, 116, 32, 32, 112, 111, 119, 101, 114, 32, 32, 32, 112, 108, 97, 99, 101, 32, 32, 32, 108, 101, 102, 116, 32, 32, 32, 32, 115, 116, 114, 101, 115, 115, 32, 32, 97, 99, 99, 101, 110, 116, 32, 32, 110, 101, 119, 32, 32, 32, 32, 32, 99, 111, 110, 116, 114, 97, 115, 116, 112, 104, 114, 97, 115, 101, 32, 32, 102, 105, 110, 97, 108, 32, 32, 32, 119, 111, 114, 100, 32, 32, 32, 32, 116, 117, 110, 101, 32, 32, 32, 32, 115, 101, 116, 32, 32, 32, 32, 32, 97, 100, 100, 32, 32, 32, 32, 32, 119, 104, 101, 110, 32, 32, 32, 32, 97, 110, 100, 32, 32, 32, 32, 32]
def NM (j : Nat) : Nat := NMl.getD j 0
def nml (n : Nat) : Nat := [6, 6, 5, 5, 4, 6, 6, 3, 8, 6, 5, 4, 4, 3, 3, 4, 3].getD n 0
def hsh (f : Nat → Nat) : Nat → Nat
  | 0 => 0
  | n + 1 => 37 * hsh f n + (f n - 96)
def nmf (n i : Nat) : Nat := NM (8 * n + i)
def kw (w : Nat) : Nat := if w < 4 then w + 13 else w - 4
theorem nm_let : ∀ n, n < 17 → ∀ i, i < nml n → 97 ≤ nmf n i ∧ nmf n i ≤ 122 := by decide +kernel
theorem nm_sp : ∀ n, n < 17 → ∀ i, i < 8 → nml n ≤ i → nmf n i = 32 := by decide +kernel
theorem nm_le : ∀ n, n < 17 → nml n ≤ 8 ∧ 0 < nml n := by decide +kernel
theorem nm_h : ∀ w, w < 17 → wds w = lN (hsh (nmf (kw w)) (nml (kw w))) := by decide +kernel
theorem nm_in : ∀ n, n < 17 → ∀ m, m < 17 → hsh (nmf n) (nml n) = hsh (nmf m) (nml m) → n = m := by decide +kernel
theorem kw_lt : ∀ w, w < 17 → kw w < 17 := by decide
theorem kw_in : ∀ w, w < 17 → ∀ u, u < 17 → kw w = kw u → w = u := by decide
theorem kw_ex : ∀ n, n < 17 → kw (if n ≤ 12 then n + 4 else n - 13) = n ∧ (if n ≤ 12 then n + 4 else n - 13) < 17 := by decide
theorem hsh_inj {f g : Nat → Nat} : ∀ {l l' : Nat}, (∀ i, i < l → inR 97 122 (f i)) → (∀ i, i < l' → inR 97 122 (g i)) → hsh f l = hsh g l' → l = l' ∧ ∀ i, i < l → f i = g i
  | 0, 0, _, _, _ => ⟨rfl, fun i hi => absurd hi (Nat.not_lt_zero _)⟩
  | 0, m + 1, _, hg, e => by
    have h1 := hg m (Nat.lt_succ_self _)
    have e' : 0 = 37 * hsh g m + (g m - 96) := e
    omega
  | n + 1, 0, hf, _, e => by
    have h1 := hf n (Nat.lt_succ_self _)
    have e' : 37 * hsh f n + (f n - 96) = 0 := e
    omega
  | n + 1, m + 1, hf, hg, e => by
    have h1 := hf n (Nat.lt_succ_self _)
    have h2 := hg m (Nat.lt_succ_self _)
    have e' : 37 * hsh f n + (f n - 96) = 37 * hsh g m + (g m - 96) := e
    obtain ⟨rfl, h3⟩ := hsh_inj (f := f) (g := g) (l := n) (l' := m) (fun i hi => hf i (by omega)) (fun i hi => hg i (by omega)) (by omega)
    refine ⟨rfl, fun i hi => ?_⟩
    by_cases q : i = n
    · subst q; omega
    · exact h3 i (by omega)
theorem hsh_lt {f : Nat → Nat} : ∀ {l : Nat}, (∀ i, i < l → inR 97 122 (f i)) → hsh f l < 37 ^ l
  | 0, _ => Nat.zero_lt_one
  | n + 1, hf => by
    have h1 := hf n (Nat.lt_succ_self _)
    have ih := hsh_lt (f := f) (l := n) (fun i hi => hf i (by omega))
    show 37 * hsh f n + (f n - 96) < 37 ^ (n + 1)
    rw [Nat.pow_succ]
    generalize 37 ^ n = p at *
    omega
theorem hsh_63 {f : Nat → Nat} {l : Nat} (h : ∀ i, i < l → inR 97 122 (f i)) (hl : l ≤ 8) : hsh f l < 2 ^ 63 := Nat.lt_of_lt_of_le (hsh_lt h) (Nat.le_trans (Nat.pow_le_pow_right (by decide) hl) (by decide))
theorem hsh_congr {f g : Nat → Nat} : ∀ {l : Nat}, (∀ i, i < l → f i = g i) → hsh f l = hsh g l
  | 0, _ => rfl
  | n + 1, h => by
    show 37 * hsh f n + (f n - 96) = 37 * hsh g n + (g n - 96)
    rw [hsh_congr (fun i hi => h i (by omega)), h n (by omega)]
def eqN (c : Nat → Nat) (k e n : Nat) : Prop := e - k = nml n ∧ ∀ i, i < nml n → c (k + i) = nmf n i
theorem eqN_h {c : Nat → Nat} {k e n : Nat} (hc : ∀ j, k ≤ j → j < e → inR 97 122 (c j)) (hn : n < 17) : hsh (fun i => c (k + i)) (e - k) = hsh (nmf n) (nml n) ↔ eqN c k e n := by
  constructor
  · intro h
    obtain ⟨h1, h2⟩ := hsh_inj (fun i hi => hc (k + i) (by omega) (by omega)) (fun i hi => nm_let n hn i hi) h
    exact ⟨h1, fun i hi => h2 i (by omega)⟩
  · rintro ⟨h1, h2⟩
    rw [h1]
    exact hsh_congr h2
theorem eqN_un {c : Nat → Nat} {k e n m : Nat} (hn : n < 17) (hm : m < 17) (h : eqN c k e n) (h' : eqN c k e m) : n = m := by
  refine nm_in n hn m hm ?_
  rw [← h.1, ← h'.1]
  refine hsh_congr (fun i hi => ?_)
  rw [← h.2 i (by rw [← h.1]; exact hi), ← h'.2 i (by rw [← h'.1]; exact hi)]
/-- the kind of a word: its name's number, or 25 -/
def NP (c : Nat → Nat) (k e r : Nat) : Prop := (r < 17 ∧ eqN c k e r) ∨ (r = 25 ∧ ∀ m, m < 17 → ¬ eqN c k e m)
theorem NP.un {c : Nat → Nat} {k e r r' : Nat} (h : NP c k e r) (h' : NP c k e r') : r = r' := by
  rcases h with ⟨h1, h2⟩ | ⟨h1, h2⟩
  · rcases h' with ⟨g1, g2⟩ | ⟨g1, g2⟩
    · exact eqN_un h1 g1 h2 g2
    · exact absurd h2 (g2 r h1)
  · rcases h' with ⟨g1, g2⟩ | ⟨g1, g2⟩
    · exact absurd g2 (h2 r' g1)
    · omega
theorem NP_ex (c : Nat → Nat) (k e : Nat) : ∃ r, NP c k e r := by
  by_cases h : ∃ m, m < 17 ∧ eqN c k e m
  · obtain ⟨m, h1, h2⟩ := h
    exact ⟨m, Or.inl ⟨h1, h2⟩⟩
  · exact ⟨25, Or.inr ⟨rfl, fun m hm z => h ⟨m, hm, z⟩⟩⟩
noncomputable def nmK (c : Nat → Nat) (k e : Nat) : Nat := Classical.choose (NP_ex c k e)
theorem nmK_p (c : Nat → Nat) (k e : Nat) : NP c k e (nmK c k e) := Classical.choose_spec (NP_ex c k e)
def nmv (f : Nat → Nat) : Nat → Nat
  | 0 => 0
  | n + 1 => 10 * nmv f n + (f n - 48)
theorem nmv_lt {f : Nat → Nat} : ∀ {l : Nat}, (∀ i, i < l → inR 48 57 (f i)) → nmv f l < 10 ^ l
  | 0, _ => Nat.zero_lt_one
  | n + 1, hf => by
    have h1 := hf n (Nat.lt_succ_self _)
    have ih := nmv_lt (f := f) (l := n) (fun i hi => hf i (by omega))
    show 10 * nmv f n + (f n - 48) < 10 ^ (n + 1)
    rw [Nat.pow_succ]
    generalize 10 ^ n = p at *
    omega
def numK (c : Nat → Nat) (k e : Nat) : Nat := if e - k ≤ 4 then 26 + nmv (fun i => c (k + i)) (e - k) else 25
theorem numK_b {c : Nat → Nat} {k e : Nat} (hc : ∀ j, k ≤ j → j < e → inR 48 57 (c j)) : numK c k e ≤ 10025 ∧ 25 ≤ numK c k e := by
  unfold numK
  by_cases h : e - k ≤ 4
  · rw [if_pos h]
    have := nmv_lt (f := fun i => c (k + i)) (l := e - k) (fun i hi => hc (k + i) (by omega) (by omega))
    have h2 : 10 ^ (e - k) ≤ 10 ^ 4 := Nat.pow_le_pow_right (by decide) h
    have h3 : 10 ^ 4 = 10000 := by decide
    omega
  · rw [if_neg h]
    omega
def SG (s : Nat) : Nat := [40, 41, 60, 61, 43, 45, 59].getD s 0
def sgK (x : Nat) : Nat := if x = 40 then 17 else if x = 41 then 18 else if x = 60 then 19 else if x = 61 then 20 else if x = 43 then 21 else if x = 45 then 22 else if x = 59 then 23 else 25
theorem sgK_p : ∀ x, x < 127 → ∀ s, s < 7 → (x = SG s ↔ sgK x = 17 + s) := by decide +kernel
theorem sgK_b : ∀ x, x < 127 → (17 ≤ sgK x ∧ sgK x ≤ 23) ∨ sgK x = 25 := by decide +kernel
theorem sgK_25 : ∀ x, x < 127 → sgK x = 25 → ∀ s, s < 7 → x ≠ SG s := by decide +kernel
noncomputable def tkd (c : Nat → Nat) (T k : Nat) : Nat := if inR 97 122 (c k) then nmK c k (rE c T 97 122 k) else if inR 48 57 (c k) then numK c k (rE c T 48 57 k) else sgK (c k)
def nxt (c : Nat → Nat) (T k : Nat) : Nat := if inR 97 122 (c k) then rE c T 97 122 k else if inR 48 57 (c k) then rE c T 48 57 k else k + 1
abbrev ws (x : Nat) : Prop := x = 10 ∨ x = 32
theorem nxt_b {c : Nat → Nat} {T k : Nat} (h : k < T) : k < nxt c T k ∧ nxt c T k ≤ T := by
  unfold nxt
  by_cases q : inR 97 122 (c k)
  · rw [if_pos q]
    exact ⟨rE_gt h q, (rE_p (Nat.le_of_lt h)).2.1⟩
  · rw [if_neg q]
    by_cases q2 : inR 48 57 (c k)
    · rw [if_pos q2]
      exact ⟨rE_gt h q2, (rE_p (Nat.le_of_lt h)).2.1⟩
    · rw [if_neg q2]
      omega
theorem tkd_b {c : Nat → Nat} {T k : Nat} (h : k < T) (hc : c k < 127) : tkd c T k ≠ 24 ∧ tkd c T k ≤ 10025 := by
  unfold tkd
  by_cases q : inR 97 122 (c k)
  · rw [if_pos q]
    rcases nmK_p c k (rE c T 97 122 k) with ⟨h1, -⟩ | ⟨h1, -⟩ <;> omega
  · rw [if_neg q]
    by_cases q2 : inR 48 57 (c k)
    · rw [if_pos q2]
      have := numK_b (c := c) (k := k) (e := rE c T 48 57 k) (fun j h1 h2 => (rE_p (Nat.le_of_lt h)).2.2.1 j h1 h2)
      by_cases z : rE c T 48 57 k - k ≤ 4
      · have e : numK c k (rE c T 48 57 k) = 26 + nmv (fun i => c (k + i)) (rE c T 48 57 k - k) := if_pos z
        omega
      · have e : numK c k (rE c T 48 57 k) = 25 := if_neg z
        omega
    · rw [if_neg q2]
      have := sgK_b (c k) hc
      omega
abbrev TS : Type := Nat × Nat × (Nat → Nat) × (Nat → Nat)
noncomputable def tstp (c : Nat → Nat) (T : Nat) (s : TS) : TS := if ws (c s.1) then (s.1 + 1, s.2) else (nxt c T s.1, s.2.1 + 1, (fun j => if j = s.2.1 then tkd c T s.1 else s.2.2.1 j), fun j => if j = s.2.1 then s.1 else s.2.2.2 j)
noncomputable def trun (c : Nat → Nat) (T : Nat) : Nat → TS → TS
  | 0, s => s
  | f + 1, s => if T ≤ s.1 then s else trun c T f (tstp c T s)
theorem tstp_b {c : Nat → Nat} {T : Nat} {s : TS} (h : s.1 < T) : s.1 < (tstp c T s).1 ∧ (tstp c T s).1 ≤ T := by
  unfold tstp
  by_cases q : ws (c s.1)
  · rw [if_pos q]
    exact ⟨Nat.lt_succ_self _, h⟩
  · rw [if_neg q]
    exact nxt_b h
theorem trun_m {c : Nat → Nat} {T : Nat} : ∀ f (s : TS), T - s.1 ≤ f → trun c T (f + 1) s = trun c T f s
  | 0, s, h => if_pos (by omega)
  | f + 1, s, h => by
    by_cases q : T ≤ s.1
    · rw [show trun c T (f + 1 + 1) s = s from if_pos q, show trun c T (f + 1) s = s from if_pos q]
    · rw [show trun c T (f + 1 + 1) s = trun c T (f + 1) (tstp c T s) from if_neg q, show trun c T (f + 1) s = trun c T f (tstp c T s) from if_neg q]
      have := tstp_b (c := c) (T := T) (s := s) (by omega)
      exact trun_m f _ (by omega)
theorem trun_e {c : Nat → Nat} {T : Nat} {s : TS} {f : Nat} (h : T - s.1 ≤ f) : trun c T f s = trun c T (T - s.1) s := by
  obtain ⟨g, rfl⟩ : ∃ g, f = T - s.1 + g := ⟨f - (T - s.1), by omega⟩
  clear h
  induction g with
  | zero => rfl
  | succ g ih =>
    rw [← Nat.add_assoc, trun_m _ _ (by omega)]
    exact ih
theorem trun_s {c : Nat → Nat} {T : Nat} {s : TS} (h : s.1 < T) : trun c T (T - s.1) s = trun c T (T - (tstp c T s).1) (tstp c T s) := by
  obtain ⟨f, hf⟩ : ∃ f, T - s.1 = f + 1 := ⟨T - s.1 - 1, by omega⟩
  have := tstp_b (c := c) (T := T) (s := s) h
  rw [hf, show trun c T (f + 1) s = trun c T f (tstp c T s) from if_neg (by omega), trun_e (by omega)]
def ts0 : TS := (0, 0, fun _ => 0, fun _ => 0)
/-- all tokens: how many ahead of the end, kinds, places -/
noncomputable def tfin (c : Nat → Nat) (T : Nat) : TS := trun c T T ts0
/-- what holds of the tokens cut so far -/
def TSo (T : Nat) (s : TS) : Prop := s.1 ≤ T ∧ s.2.1 ≤ s.1 ∧ ∀ j, j < s.2.1 → s.2.2.1 j ≠ 24 ∧ s.2.2.1 j ≤ 10025 ∧ s.2.2.2 j ≤ T
theorem TSo.stp {c : Nat → Nat} {T : Nat} {s : TS} (h : TSo T s) (h2 : s.1 < T) (hc : c s.1 < 127) : TSo T (tstp c T s) := by
  have hb := tstp_b (c := c) (T := T) (s := s) h2
  obtain ⟨h3, h4, h5⟩ := h
  refine ⟨hb.2, ?_, ?_⟩
  · unfold tstp at *
    by_cases q : ws (c s.1)
    · rw [if_pos q]
      show s.2.1 ≤ s.1 + 1
      omega
    · rw [if_neg q] at *
      have : s.1 < nxt c T s.1 := hb.1
      show s.2.1 + 1 ≤ nxt c T s.1
      omega
  · unfold tstp
    by_cases q : ws (c s.1)
    · rw [if_pos q]
      exact h5
    · rw [if_neg q]
      intro j hj
      show (if j = s.2.1 then tkd c T s.1 else s.2.2.1 j) ≠ 24 ∧ (if j = s.2.1 then tkd c T s.1 else s.2.2.1 j) ≤ 10025 ∧ (if j = s.2.1 then s.1 else s.2.2.2 j) ≤ T
      have hj' : j < s.2.1 + 1 := hj
      by_cases e : j = s.2.1
      · rw [if_pos e, if_pos e]
        exact ⟨(tkd_b h2 hc).1, (tkd_b h2 hc).2, by omega⟩
      · rw [if_neg e, if_neg e]
        exact h5 j (by omega)
