/-! PHRASES: the least cost -/
def sq (a b : Nat) : Nat := (a - b + (b - a)) * (a - b + (b - a))
theorem sq_nI (a b : Nat) : (nI a - nI b) * (nI a - nI b) = nI (sq a b) := by
  unfold sq
  by_cases h : b ≤ a
  · rw [nI_subI h, nI_mul, show b - a = 0 by omega, Nat.add_zero]
  · have e : nI a - nI b = -(nI (b - a)) := by
      rw [← nI_subI (show a ≤ b by omega)]
      exact (Int32.neg_sub ..).symm
    rw [e, Int32.neg_mul, Int32.mul_neg, Int32.neg_neg, nI_mul, show a - b = 0 by omega, Nat.zero_add]
theorem sq_le {a b m : Nat} (h1 : a ≤ m) (h2 : b ≤ m) : sq a b ≤ m * m := by
  unfold sq
  exact Nat.mul_le_mul (by omega) (by omega)
/-- the cost of the words i .. j - 1 as a phrase -/
def sg (d : Rd) (id i j : Nat) : Nat := sq (ps (dS d) j - ps (dS d) i) id + (if j < dW d then 1 + dB d (j - 1) else 0)
def bs (d : Rd) (id : Nat) (L : Nat → Nat) (i : Nat) : Nat → Nat × Nat
  | 0 => (sg d id i (i + 1) + L (i + 1), i + 1)
  | n + 1 => if sg d id i (i + n + 2) + L (i + n + 2) ≤ (bs d id L i n).1 then (sg d id i (i + n + 2) + L (i + n + 2), i + n + 2) else bs d id L i n
def tb (d : Rd) (id : Nat) : Nat → Nat → Nat
  | 0 => fun _ => 0
  | k + 1 => fun i => if i = dW d - (k + 1) then (bs d id (tb d id k) i k).1 else tb d id k i
/-- the least cost from word i on; where its first phrase ends -/
def lC (d : Rd) (id : Nat) (i : Nat) : Nat := tb d id (dW d) i
def tO (d : Rd) (id : Nat) (i : Nat) : Nat := (bs d id (lC d id) i (dW d - 1 - i)).2
theorem bs_congr {d : Rd} {id : Nat} {L L1 : Nat → Nat} {i : Nat} : ∀ {n : Nat}, (∀ j, i < j → j ≤ i + n + 1 → L j = L1 j) → bs d id L i n = bs d id L1 i n
  | 0, h => by
    show (sg d id i (i + 1) + L (i + 1), i + 1) = (sg d id i (i + 1) + L1 (i + 1), i + 1)
    rw [h (i + 1) (by omega) (by omega)]
  | n + 1, h => by
    have h1 := bs_congr (d := d) (id := id) (n := n) (fun j hj hj2 => h j hj (by omega))
    show (if sg d id i (i + n + 2) + L (i + n + 2) ≤ (bs d id L i n).1 then (sg d id i (i + n + 2) + L (i + n + 2), i + n + 2) else bs d id L i n) = (if sg d id i (i + n + 2) + L1 (i + n + 2) ≤ (bs d id L1 i n).1 then (sg d id i (i + n + 2) + L1 (i + n + 2), i + n + 2) else bs d id L1 i n)
    rw [h1, h (i + n + 2) (by omega) (by omega)]
theorem bs_p (d : Rd) (id : Nat) (L : Nat → Nat) (i : Nat) : ∀ n, i < (bs d id L i n).2 ∧ (bs d id L i n).2 ≤ i + n + 1 ∧ sg d id i (bs d id L i n).2 + L (bs d id L i n).2 = (bs d id L i n).1 ∧ ∀ j, (bs d id L i n).2 < j → j ≤ i + n + 1 → (bs d id L i n).1 < sg d id i j + L j
  | 0 => ⟨Nat.lt_succ_self _, Nat.le_refl _, rfl, fun j h1 h2 => absurd h1 (by show ¬ i + 1 < j; omega)⟩
  | n + 1 => by
    obtain ⟨h1, h2, h3, h4⟩ := bs_p d id L i n
    by_cases hc : sg d id i (i + n + 2) + L (i + n + 2) ≤ (bs d id L i n).1
    · have e : bs d id L i (n + 1) = (sg d id i (i + n + 2) + L (i + n + 2), i + n + 2) := if_pos hc
      rw [e]
      exact ⟨by show i < i + n + 2; omega, by show i + n + 2 ≤ i + (n + 1) + 1; omega, rfl, fun j q1 q2 => absurd q1 (by show ¬ i + n + 2 < j; omega)⟩
    · have e : bs d id L i (n + 1) = bs d id L i n := if_neg hc
      rw [e]
      refine ⟨h1, by omega, h3, fun j q1 q2 => ?_⟩
      by_cases q3 : j ≤ i + n + 1
      · exact h4 j q1 q3
      · obtain rfl : j = i + n + 2 := by omega
        omega
theorem tb_st (d : Rd) (id : Nat) {k m i : Nat} (h : k ≤ m) (hm : m ≤ dW d) (hi : dW d - k ≤ i) : tb d id m i = tb d id k i := by
  induction m with
  | zero => obtain rfl : k = 0 := by omega
            rfl
  | succ m ih =>
    by_cases h2 : k = m + 1
    · rw [h2]
    · show (if i = dW d - (m + 1) then _ else tb d id m i) = _
      rw [if_neg (by omega), ih (by omega) (by omega)]
theorem tb_e (d : Rd) (id : Nat) (k : Nat) : tb d id (k + 1) (dW d - (k + 1)) = (bs d id (tb d id k) (dW d - (k + 1)) k).1 := if_pos rfl
theorem lC_w (d : Rd) (id : Nat) : lC d id (dW d) = 0 := tb_st d id (k := 0) (Nat.zero_le _) (Nat.le_refl _) (by omega)
theorem lC_e (d : Rd) (id : Nat) {i : Nat} (h : i < dW d) : lC d id i = (bs d id (lC d id) i (dW d - 1 - i)).1 := by
  obtain ⟨k, hk, rfl⟩ : ∃ k, k < dW d ∧ i = dW d - (k + 1) := ⟨dW d - 1 - i, by omega, by omega⟩
  rw [show lC d id (dW d - (k + 1)) = tb d id (k + 1) (dW d - (k + 1)) from tb_st d id (by omega) (Nat.le_refl _) (Nat.le_refl _), tb_e, show dW d - 1 - (dW d - (k + 1)) = k by omega]
  refine congrArg Prod.fst (bs_congr (fun j hj hj2 => ?_))
  exact (tb_st d id (k := k) (m := dW d) (by omega) (Nat.le_refl _) (by omega)).symm
theorem tO_p (d : Rd) (id : Nat) {i : Nat} (h : i < dW d) : i < tO d id i ∧ tO d id i ≤ dW d ∧ sg d id i (tO d id i) + lC d id (tO d id i) = lC d id i ∧ ∀ j, tO d id i < j → j ≤ dW d → lC d id i < sg d id i j + lC d id j := by
  obtain ⟨h1, h2, h3, h4⟩ := bs_p d id (lC d id) i (dW d - 1 - i)
  refine ⟨h1, ?_, ?_, fun j q1 q2 => ?_⟩
  · unfold tO; omega
  · rw [lC_e d id h]; exact h3
  · rw [lC_e d id h]; exact h4 j q1 (by omega)
theorem sg_bd {d : Rd} {id i j : Nat} (W : WRd d) (hid : id ≤ 20) (hj : j ≤ dW d) (h0 : 0 < j) : sg d id i j ≤ 6500 := by
  have h1 := ps_bd (f := dS d) (w := dW d) (m := 5) (fun k hk => (W.2.1 k hk).2.1) j hj
  have h2 := W.1
  have h3 : sq (ps (dS d) j - ps (dS d) i) id ≤ 80 * 80 := sq_le (by omega) (by omega)
  unfold sg
  split
  · have := (W.2.1 (j - 1) (by omega)).2.2.2.1
    omega
  · omega
theorem tb_bd {d : Rd} {id : Nat} (W : WRd d) (hid : id ≤ 20) : ∀ k, k ≤ dW d → ∀ i, tb d id k i ≤ 6500 * k
  | 0, _, _ => Nat.zero_le _
  | k + 1, hk, i => by
    have ih := tb_bd W hid k (by omega)
    by_cases h : i = dW d - (k + 1)
    · have e : tb d id (k + 1) i = (bs d id (tb d id k) i k).1 := if_pos h
      obtain ⟨h1, h2, h3, -⟩ := bs_p d id (tb d id k) i k
      have h4 := ih (bs d id (tb d id k) i k).2
      have h5 := sg_bd (i := i) (j := (bs d id (tb d id k) i k).2) W hid (by omega) (by omega)
      rw [e]; omega
    · have e : tb d id (k + 1) i = tb d id k i := if_neg h
      have := ih i
      rw [e]; omega
theorem bs_bd {d : Rd} {id k : Nat} (W : WRd d) (hid : id ≤ 20) (hk : k < dW d) {n : Nat} (hn : n ≤ k) : (bs d id (tb d id k) (dW d - (k + 1)) n).1 ≤ 104000 := by
  obtain ⟨h1, h2, h3, -⟩ := bs_p d id (tb d id k) (dW d - (k + 1)) n
  have h4 := tb_bd W hid k (by omega) (bs d id (tb d id k) (dW d - (k + 1)) n).2
  have h5 := sg_bd (i := dW d - (k + 1)) (j := (bs d id (tb d id k) (dW d - (k + 1)) n).2) W hid (by omega) (by omega)
  have h6 := W.1
  omega
theorem lC_bd {d : Rd} {id : Nat} (W : WRd d) (hid : id ≤ 20) (i : Nat) : lC d id i ≤ 104000 := by
  have h1 := tb_bd W hid (dW d) (Nat.le_refl _) i
  have h2 := W.1
  unfold lC; omega
/-- where the k-th phrase begins; how many there are -/
def fs (d : Rd) (id : Nat) : Nat → Nat
  | 0 => 0
  | k + 1 => if fs d id k < dW d then tO d id (fs d id k) else fs d id k
def pc (d : Rd) (id : Nat) : Nat → Nat
  | 0 => 0
  | n + 1 => if fs d id (pc d id n) < dW d then pc d id n + 1 else pc d id n
def pN (d : Rd) (id : Nat) : Nat := pc d id (dW d)
theorem fs_le (d : Rd) (id : Nat) : ∀ k, fs d id k ≤ dW d
  | 0 => Nat.zero_le _
  | k + 1 => by
    show (if fs d id k < dW d then tO d id (fs d id k) else fs d id k) ≤ dW d
    split
    · next h => exact (tO_p d id h).2.1
    · exact fs_le d id k
theorem fs_s (d : Rd) (id : Nat) {k : Nat} (h : fs d id k < dW d) : fs d id (k + 1) = tO d id (fs d id k) := if_pos h
theorem fs_lt (d : Rd) (id : Nat) {k : Nat} (h : fs d id k < dW d) : fs d id k < fs d id (k + 1) := by
  rw [fs_s d id h]; exact (tO_p d id h).1
theorem fs_mono (d : Rd) (id : Nat) (k : Nat) : fs d id k ≤ fs d id (k + 1) := by
  show _ ≤ (if fs d id k < dW d then tO d id (fs d id k) else fs d id k)
  split
  · next h => exact Nat.le_of_lt (tO_p d id h).1
  · exact Nat.le_refl _
theorem fs_mono2 (d : Rd) (id : Nat) {j k : Nat} (h : j ≤ k) : fs d id j ≤ fs d id k := by
  induction k with
  | zero => obtain rfl : j = 0 := by omega
            exact Nat.le_refl _
  | succ k ih =>
    by_cases h2 : j ≤ k
    · exact Nat.le_trans (ih h2) (fs_mono d id k)
    · obtain rfl : j = k + 1 := by omega
      exact Nat.le_refl _
theorem fs_ge (d : Rd) (id : Nat) : ∀ k, fs d id k < dW d → k ≤ fs d id k
  | 0, _ => Nat.zero_le _
  | k + 1, h => by
    have h1 := fs_mono d id k
    have h2 := fs_ge d id k (by omega)
    have h3 := fs_lt d id (k := k) (by omega)
    omega
theorem pc_p (d : Rd) (id : Nat) : ∀ n, pc d id n ≤ n ∧ (∀ k, k < pc d id n → fs d id k < dW d) ∧ (fs d id (pc d id n) < dW d → pc d id n = n)
  | 0 => ⟨Nat.le_refl _, fun k hk => absurd hk (Nat.not_lt_zero _), fun _ => rfl⟩
  | n + 1 => by
    obtain ⟨h1, h2, h3⟩ := pc_p d id n
    by_cases h : fs d id (pc d id n) < dW d
    · have e : pc d id (n + 1) = pc d id n + 1 := if_pos h
      have e2 := h3 h
      rw [e]
      refine ⟨by omega, fun k hk => ?_, fun _ => by omega⟩
      by_cases hk2 : k < pc d id n
      · exact h2 k hk2
      · obtain rfl : k = pc d id n := by omega
        exact h
    · have e : pc d id (n + 1) = pc d id n := if_neg h
      rw [e]
      exact ⟨by omega, h2, fun q => absurd q h⟩
theorem pN_lt (d : Rd) (id : Nat) {k : Nat} (h : k < pN d id) : fs d id k < dW d := (pc_p d id (dW d)).2.1 k h
theorem pN_le (d : Rd) (id : Nat) : pN d id ≤ dW d := (pc_p d id (dW d)).1
theorem pN_e (d : Rd) (id : Nat) : fs d id (pN d id) = dW d := by
  have h := pc_p d id (dW d)
  have h1 := fs_le d id (pN d id)
  by_cases h2 : fs d id (pN d id) < dW d
  · have h3 := h.2.2 h2
    have h4 := fs_ge d id _ h2
    unfold pN at *
    omega
  · omega
/-- syllables of the k-th phrase -/
def pS (d : Rd) (id k : Nat) : Nat := ps (dS d) (fs d id (k + 1)) - ps (dS d) (fs d id k)
