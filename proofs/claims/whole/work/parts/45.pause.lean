/-! PAUSES -/
theorem pS_ps (d : Rd) (id : Nat) : ∀ n, ps (pS d id) n = ps (dS d) (fs d id n)
  | 0 => rfl
  | n + 1 => by
    show ps (pS d id) n + pS d id n = _
    rw [pS_ps d id n]
    have := ps_mono (f := dS d) (fs_mono d id n)
    unfold pS
    omega
theorem pS_pos {d : Rd} {id k : Nat} (W : WRd d) (h : k < pN d id) : 1 ≤ pS d id k := by
  have h1 := pN_lt d id h
  have h2 := fs_lt d id h1
  have h3 : ps (dS d) (fs d id k + 1) ≤ ps (dS d) (fs d id (k + 1)) := ps_mono h2
  have h4 : ps (dS d) (fs d id k + 1) = ps (dS d) (fs d id k) + dS d (fs d id k) := rfl
  have h5 := (W.2.1 _ h1).1
  unfold pS
  omega
def fl (s : Nat → Nat) (T A p : Nat) : Nat := T * s p / A
def rs (s : Nat → Nat) (T A p : Nat) : Nat := T * s p % A
theorem fl_rs (s : Nat → Nat) (T A : Nat) : ∀ n, ps (fl s T A) n * A + ps (rs s T A) n = T * ps s n
  | 0 => by
    show 0 * A + 0 = T * 0
    rw [Nat.zero_mul, Nat.mul_zero]
  | n + 1 => by
    have ih := fl_rs s T A n
    have h1 := Nat.div_add_mod (T * s n) A
    show (ps (fl s T A) n + fl s T A n) * A + (ps (rs s T A) n + rs s T A n) = T * (ps s n + s n)
    rw [Nat.add_mul, Nat.mul_add, ← ih]
    have h2 : fl s T A n * A + rs s T A n = T * s n := by
      rw [Nat.mul_comm]
      exact h1
    generalize ps (fl s T A) n * A = a at *
    generalize fl s T A n * A = b at *
    omega
theorem fl_le {s : Nat → Nat} {T A m : Nat} (hA : 0 < A) (h : ps s m = A) : ps (fl s T A) m ≤ T := by
  have h1 := fl_rs s T A m
  rw [h] at h1
  exact Nat.le_of_mul_le_mul_right (by omega : ps (fl s T A) m * A ≤ T * A) hA
theorem fl_left {s : Nat → Nat} {T A m : Nat} (hA : 0 < A) (h : ps s m = A) (hm : 0 < m) : T - ps (fl s T A) m < m := by
  have h1 := fl_rs s T A m
  rw [h] at h1
  have h2 := ps_bd (f := rs s T A) (w := m) (m := A - 1) (fun k _ => by
    have := Nat.mod_lt (T * s k) hA
    unfold rs
    omega) m (Nat.le_refl _)
  have h3 : (T - ps (fl s T A) m) * A = ps (rs s T A) m := by
    rw [Nat.sub_mul]
    omega
  have h4 : (A - 1) * m < m * A := by
    rw [Nat.mul_comm m A]
    exact Nat.mul_lt_mul_of_pos_right (by omega) hm
  exact Nat.lt_of_mul_lt_mul_right (a := A) (by omega)
/-- how many below n -/
def cnt (P : Nat → Bool) : Nat → Nat
  | 0 => 0
  | n + 1 => cnt P n + (if P n = true then 1 else 0)
theorem cnt_le {P Q : Nat → Bool} : ∀ {n : Nat}, (∀ p, p < n → P p = true → Q p = true) → cnt P n ≤ cnt Q n
  | 0, _ => Nat.le_refl _
  | n + 1, h => by
    have ih := cnt_le (P := P) (Q := Q) (n := n) (fun p hp => h p (by omega))
    show cnt P n + (if P n = true then 1 else 0) ≤ cnt Q n + (if Q n = true then 1 else 0)
    by_cases q : P n = true
    · rw [if_pos q, if_pos (h n (by omega) q)]
      omega
    · rw [if_neg q]
      omega
theorem cnt_lt {P Q : Nat → Bool} {x : Nat} : ∀ {n : Nat}, (∀ p, p < n → P p = true → Q p = true) → x < n → Q x = true → P x = false → cnt P n < cnt Q n
  | 0, _, hx, _, _ => absurd hx (Nat.not_lt_zero _)
  | n + 1, h, hx, h1, h2 => by
    show cnt P n + (if P n = true then 1 else 0) < cnt Q n + (if Q n = true then 1 else 0)
    by_cases e : x = n
    · subst e
      have ih := cnt_le (P := P) (Q := Q) (n := x) (fun p hp => h p (by omega))
      rw [if_pos h1, if_neg (by rw [h2]; decide)]
      omega
    · have ih := cnt_lt (P := P) (Q := Q) (n := n) (fun p hp => h p (by omega)) (by omega) h1 h2
      by_cases q : P n = true
      · rw [if_pos q, if_pos (h n (by omega) q)]
        omega
      · rw [if_neg q]
        omega
theorem cnt_up {P : Nat → Bool} {x : Nat} (h : P x = false) : ∀ n, cnt (va_up P x true) n = cnt P n + (if x < n then 1 else 0)
  | 0 => rfl
  | n + 1 => by
    have ih := cnt_up h n
    show cnt (va_up P x true) n + (if va_up P x true n = true then 1 else 0) = cnt P n + (if P n = true then 1 else 0) + _
    rw [ih]
    by_cases e : n = x
    · subst e
      rw [if_neg (Nat.lt_irrefl _), if_pos (by simp [va_up]), if_neg (by rw [h]; decide), if_pos (Nat.lt_succ_self _)]
    · rw [show va_up P x true n = P n by simp [va_up, e]]
      by_cases q : x < n
      · rw [if_pos q, if_pos (c := x < n + 1) (by omega)]
        omega
      · rw [if_neg q, if_neg (c := x < n + 1) (by omega)]
        omega
theorem cnt_ex {P : Nat → Bool} : ∀ {n : Nat}, cnt P n < n → ∃ p, p < n ∧ P p = false
  | 0, h => absurd h (Nat.not_lt_zero _)
  | n + 1, h => by
    by_cases q : P n = true
    · have e : cnt P (n + 1) = cnt P n + 1 := congrArg (cnt P n + ·) (if_pos q)
      obtain ⟨p, h1, h2⟩ := cnt_ex (P := P) (n := n) (by omega)
      exact ⟨p, by omega, h2⟩
    · exact ⟨n, by omega, by
        cases hq : P n
        · rfl
        · exact absurd hq q⟩
theorem cnt_n (P : Nat → Bool) : ∀ n, cnt P n ≤ n
  | 0 => Nat.le_refl _
  | n + 1 => by
    have := cnt_n P n
    show cnt P n + (if P n = true then 1 else 0) ≤ n + 1
    split <;> omega
def bt (r : Nat → Nat) (p q : Nat) : Bool := decide (r q < r p ∨ (r p = r q ∧ p < q))
theorem bt_t {r : Nat → Nat} {p q : Nat} : bt r p q = true ↔ (r q < r p ∨ (r p = r q ∧ p < q)) := by
  unfold bt
  exact decide_eq_true_iff
section Pau
variable {X : XW} {s id : Nat} {d : Rd}
theorem f_pause (L : LSh X s) (P : CPh X s d id) (W : WRd d) {k T m A : Nat} (hm : pN d id = m + 1) (hk : k < m) (hA : ps (pS d id) m = A) (hT : T ≤ 1000) :
    fX3_pauseBehind (s + 1) (nI k) (nI T) X = some (nI (fl (pS d id) T A k + (if cnt (fun p => bt (rs (pS d id) T A) p k) m < T - ps (fl (pS d id) T A) m then 1 else 0)), X) := by
  have W80 := W.z
  have hpn := pN_le d id
  have w16 := W.1
  have sA : ∀ p, p < m → xA X (s + 4) p = nI (pS d id p) := fun p hp => (P.2.2 p (by omega)).2.2.1
  have hA80 : A ≤ 80 := by
    rw [← hA, pS_ps]
    have : ps (dS d) (fs d id m) ≤ dZ d := ps_mono (fs_le d id m)
    omega
  have hpS : ∀ p, p < m → pS d id p ≤ A := fun p hp => by
    have h1 : ps (pS d id) (p + 1) ≤ ps (pS d id) m := ps_mono hp
    have h2 : ps (pS d id) (p + 1) = ps (pS d id) p + pS d id p := rfl
    omega
  have hA0 : 0 < A := by
    have := pS_pos (k := k) (id := id) W (by omega)
    have := hpS k hk
    omega
  have hTs : ∀ p, p < m → T * pS d id p ≤ 80000 := fun p hp => Nat.le_trans (Nat.mul_le_mul hT (Nat.le_trans (hpS p hp) hA80)) (by decide)
  have h7 : xI X (s + 1) 7 - 1 = nI m := by rw [P.1, hm, nI_pred]
  have hl5 := iter3 (b := fun rec => fX3_pauseBehind_l5_b rec (s + 1) (nI k) (nI T)) (z := fun _ _ _ => none) (s1 := fun n => nI (ps (pS d id) n)) (s2 := nI) (sX := fun _ => X) (N := m) (res := (nI A, X))
    (fun n hn rec => by
      unfold fX3_pauseBehind_l5_b
      rw [tI L, sb, h7, if_neg (nI_ge hn (by omega)), tR2 L, sb, tA2 L (by omega), sb, sA n hn, nI_add, nI_1]
      rfl)
    (fun rec => by
      unfold fX3_pauseBehind_l5_b
      rw [tI L, sb, h7, if_pos (nI_le (Nat.le_refl _) (by omega)), hA]) (n := FU) (FUlt (by omega))
  have hdv : ∀ p, p < m → iD (nI T * nI (pS d id p)) (nI A) = some (nI (fl (pS d id) T A p)) := fun p hp => by
    have := hTs p hp
    rw [iD_of (nI_ne0 hA0 (by omega)), nI_mul, pk_div (by omega) hA0 (by omega)]
    rfl
  have hrm : ∀ p, p < m → iM (nI T * nI (pS d id p)) (nI A) = some (nI (rs (pS d id) T A p)) := fun p hp => by
    have := hTs p hp
    rw [iM_of (nI_ne0 hA0 (by omega)), nI_mul, pk_rem (by omega) hA0 (by omega)]
    rfl
  have hrs : ∀ p, rs (pS d id) T A p < 80 := fun p => by
    have := Nat.mod_lt (T * pS d id p) hA0
    unfold rs
    omega
  have hfl := fl_le (T := T) hA0 hA
  have hl59 := iter4 (b := fun rec => fX3_pauseBehind_l59_b rec (s + 1) (nI k) (nI T) (nI A) (nI (rs (pS d id) T A k))) (z := fun _ _ _ _ => none) (s1 := fun n => nI (T - ps (fl (pS d id) T A) n)) (s2 := fun n => nI (cnt (fun p => bt (rs (pS d id) T A) p k) n)) (s3 := nI) (sX := fun _ => X) (N := m) (res := (nI (T - ps (fl (pS d id) T A) m), nI (cnt (fun p => bt (rs (pS d id) T A) p k) m), X))
    (fun n hn rec => by
      have hmo : ps (fl (pS d id) T A) (n + 1) ≤ ps (fl (pS d id) T A) m := ps_mono hn
      have e1 : ps (fl (pS d id) T A) (n + 1) = ps (fl (pS d id) T A) n + fl (pS d id) T A n := rfl
      have e2 : cnt (fun p => bt (rs (pS d id) T A) p k) (n + 1) = cnt (fun p => bt (rs (pS d id) T A) p k) n + (if bt (rs (pS d id) T A) n k = true then 1 else 0) := rfl
      have r1 := hrs n
      have r2 := hrs k
      unfold fX3_pauseBehind_l59_b fX3_pauseBehind_j121 fX3_pauseBehind_j125 fX3_pauseBehind_j126
      rw [tI L, sb, h7, if_neg (nI_ge hn (by omega)), tR2 L, sb, tA2 L (by omega), sb, sA n hn, hdv n hn, sb, sb, tA2 L (by omega), sb, sA n hn, hrm n hn, sb, nI_subI (by omega), show T - ps (fl (pS d id) T A) n - fl (pS d id) T A n = T - ps (fl (pS d id) T A) (n + 1) by omega, nI_1, nI_1, Int32.add_zero, e2]
      by_cases q1 : rs (pS d id) T A k < rs (pS d id) T A n
      · rw [if_pos (nI_lt q1 (by omega)), if_pos (bt_t.mpr (Or.inl q1))]
      · rw [if_neg (nI_nlt (by omega) (by omega))]
        by_cases q2 : rs (pS d id) T A n = rs (pS d id) T A k
        · rw [if_pos (by rw [q2])]
          by_cases q3 : k ≤ n
          · rw [if_pos (nI_le q3 (by omega)), if_neg (fun z => by have := bt_t.mp z; omega)]
            rfl
          · rw [if_neg (nI_ge (by omega) (by omega)), if_pos (bt_t.mpr (Or.inr ⟨q2, by omega⟩))]
        · rw [if_neg (fun z => q2 ((nI_eq (by omega) (by omega)).mp z)), if_neg (fun z => by have := bt_t.mp z; omega)]
          rfl)
    (fun rec => by
      unfold fX3_pauseBehind_l59_b
      rw [tI L, sb, h7, if_pos (nI_le (Nat.le_refl _) (by omega))]) (n := FU) (FUlt (by omega))
  have c16 := cnt_n (fun p => bt (rs (pS d id) T A) p k) m
  unfold fX3_pauseBehind
  rw [show fX3_pauseBehind_l5 (s + 1) (nI k) (nI T) FU 0 0 X = _ from hl5, sb]
  dsimp only
  rw [if_pos (show (0 : Int32) < nI A from nI_lt (a := 0) hA0 (by omega)), tR2 L, sb, tA2 L (by omega), sb, sA k hk, hrm k hk, sb]
  have hl59' : fX3_pauseBehind_l59 (s + 1) (nI k) (nI T) (nI A) (nI (rs (pS d id) T A k)) FU (nI T) 0 0 X = _ := hl59
  rw [hl59', sb]
  dsimp only
  rw [tR2 L, sb, tA2 L (by omega), sb, sA k hk, hdv k hk, sb]
  by_cases q : cnt (fun p => bt (rs (pS d id) T A) p k) m < T - ps (fl (pS d id) T A) m
  · rw [if_neg (nI_ge q (by omega)), if_pos q, nI_1]
  · rw [if_pos (nI_le (by omega) (by omega)), if_neg q, Int32.add_zero]
    rfl
end Pau
section MPau
variable {X : XW} {o id : Nat} {d : Rd}
/-- what is served: who has got one more; the rests of the others -/
def MPz (X : XW) (o : Nat) (sp : Nat → Nat) (T A m : Nat) (Pk : Nat → Bool) : Prop := ∀ p, p < m → xA X (mA o 53) p = nI (fl sp T A p + (if Pk p = true then 1 else 0)) ∧ xA X (mA o 54) p = (if Pk p = true then -1 else nI (rs sp T A p))
theorem m_p154 (L : LM X o) {sp : Nat → Nat} {T A m : Nat} {Pk : Nat → Bool} (hm : xI X o 42 = nI (m + 1)) (h16 : m < 16) (hm0 : 0 < m) (hA : 0 < A) (hA2 : A ≤ 80) (Z : MPz X o sp T A m Pk) {l1 l4 : Int32} : ∃ x, fX10_pause_l154 o l1 l4 FU 0 1 X = some (nI x, X) ∧ x < m ∧ (∀ p, p < m → xA X (mA o 54) p ≤ xA X (mA o 54) x) ∧ ∀ p, p < x → xA X (mA o 54) p < xA X (mA o 54) x := by
  have h7 : xI X o 42 - 1 = nI m := by rw [hm, nI_pred]
  have key := iterP3 (b := fun rec => fX10_pause_l154_b rec o l1 l4) (z := fun _ _ _ => none) (fun q a c Y => ∃ n x, 1 ≤ n ∧ n ≤ m ∧ q = m - n ∧ a = nI x ∧ c = nI n ∧ Y = X ∧ x < n ∧ (∀ p, p < n → xA X (mA o 54) p ≤ xA X (mA o 54) x) ∧ ∀ p, p < x → xA X (mA o 54) p < xA X (mA o 54) x) (fun y => ∃ x, y = (nI x, X) ∧ x < m ∧ (∀ p, p < m → xA X (mA o 54) p ≤ xA X (mA o 54) x) ∧ ∀ p, p < x → xA X (mA o 54) p < xA X (mA o 54) x) ?_ FU (m - 1) (nI 0) (nI 1) X (FUlt (by omega)) ⟨1, 0, Nat.le_refl _, hm0, rfl, rfl, rfl, rfl, by decide, fun p hp => by
    obtain rfl : p = 0 := by omega
    exact Int32.le_refl _, fun p hp => absurd hp (Nat.not_lt_zero _)⟩
  · obtain ⟨y, h1, x, rfl, h2⟩ := key
    exact ⟨x, h1, h2⟩
  rintro q a c Y ⟨n, x, hn1, hn2, rfl, rfl, rfl, rfl, hx, h1, h2⟩
  by_cases hnm : n = m
  · left
    refine ⟨(nI x, Y), fun rec => ?_, x, rfl, by omega, by rw [← hnm]; exact h1, h2⟩
    unfold fX10_pause_l154_b
    rw [gI_M L, sb, h7, if_pos (nI_le (by omega) (by omega))]
  · right
    by_cases q : xA Y (mA o 54) n ≤ xA Y (mA o 54) x
    · refine ⟨m - (n + 1), nI x, nI (n + 1), Y, by omega, ⟨n + 1, x, by omega, by omega, rfl, rfl, rfl, rfl, by omega, fun p hp => ?_, h2⟩, fun rec => ?_⟩
      · by_cases e : p = n
        · rw [e]; exact q
        · exact h1 p (by omega)
      · unfold fX10_pause_l154_b fX10_pause_j189
        rw [gI_M L, sb, h7, if_neg (nI_ge (by omega) (by omega)), rM54 L, sb, aM54 L (by omega), sb, sb, aM54 L (by omega), sb, if_pos q, nI_1]
    · have q' : xA Y (mA o 54) x < xA Y (mA o 54) n := Int32.not_le.mp q
      refine ⟨m - (n + 1), nI n, nI (n + 1), Y, by omega, ⟨n + 1, n, by omega, by omega, rfl, rfl, rfl, rfl, by omega, fun p hp => ?_, fun p hp => ?_⟩, fun rec => ?_⟩
      · by_cases e : p = n
        · rw [e]; exact Int32.le_refl _
        · exact Int32.le_trans (h1 p (by omega)) (Int32.le_of_lt q')
      · exact Int32.lt_of_le_of_lt (h1 p (by omega)) q'
      · unfold fX10_pause_l154_b fX10_pause_j189
        rw [gI_M L, sb, h7, if_neg (nI_ge (by omega) (by omega)), rM54 L, sb, aM54 L (by omega), sb, sb, aM54 L (by omega), sb, if_neg q, nI_1]
theorem m_p143 (L : LM X o) {sp : Nat → Nat} {T A m lf : Nat} (hm : xI X o 42 = nI (m + 1)) (h16 : m < 16) (hm0 : 0 < m) (hA : 0 < A) (hA2 : A ≤ 80) (hlf : lf < m) (Z : MPz X o sp T A m (fun _ => false)) {l1 : Int32} :
    ∃ X1 Pk, fX10_pause_l143 o l1 FU (nI lf) X = some X1 ∧ mfm o [53, 54] X X1 ∧ MPz X1 o sp T A m Pk ∧ cnt Pk m = lf ∧ ∀ p q, p < m → q < m → Pk p = true → Pk q = false → bt (rs sp T A) p q = true := by
  have c0 : ∀ n, cnt (fun _ => false) n = 0 := fun n => by
    induction n with
    | zero => rfl
    | succ n ih => exact ih
  have key := iterP2 (b := fun rec => fX10_pause_l143_b rec o l1) (z := fun _ _ => none) (fun q a Y => ∃ Pk, q ≤ lf ∧ a = nI q ∧ mfm o [53, 54] X Y ∧ MPz Y o sp T A m Pk ∧ cnt Pk m = lf - q ∧ ∀ p q, p < m → q < m → Pk p = true → Pk q = false → bt (rs sp T A) p q = true) (fun X1 => ∃ Pk, mfm o [53, 54] X X1 ∧ MPz X1 o sp T A m Pk ∧ cnt Pk m = lf ∧ ∀ p q, p < m → q < m → Pk p = true → Pk q = false → bt (rs sp T A) p q = true) ?_ FU lf (nI lf) X (FUlt (by omega)) ⟨fun _ => false, Nat.le_refl _, rfl, mfm.rf, Z, by rw [c0, Nat.sub_self], fun p q _ _ h => absurd h Bool.false_ne_true⟩
  · obtain ⟨X1, h1, Pk, h2⟩ := key
    exact ⟨X1, Pk, h1, h2⟩
  rintro j a Y ⟨Pk, hj, rfl, F, z, hc, hb⟩
  have L1 := L.mf F
  by_cases hj0 : j = 0
  · left
    subst hj0
    refine ⟨Y, fun rec => ?_, Pk, F, z, hc, hb⟩
    unfold fX10_pause_l143_b
    rw [if_pos (by decide)]
  · right
    obtain ⟨x, hx, hxm, hx1, hx2⟩ := m_p154 L1 (by rw [F.I (by decide)]; exact hm) h16 hm0 hA hA2 z (l1 := l1) (l4 := nI j)
    have hrs : ∀ p, rs sp T A p < 80 := fun p => by
      have := Nat.mod_lt (T * sp p) hA
      unfold rs
      omega
    obtain ⟨p0, hp0, hpf⟩ := cnt_ex (P := Pk) (n := m) (by omega)
    have v0 : ∀ p, p < m → Pk p = false → xA Y (mA o 54) p = nI (rs sp T A p) := fun p hp h => by
      rw [(z p hp).2, if_neg (by rw [h]; decide)]
    have hxf : Pk x = false := by
      cases h : Pk x
      · rfl
      · have h1 := hx1 p0 hp0
        rw [v0 p0 hp0 hpf, (z x hxm).2, if_pos h] at h1
        have h2 := Int32.le_iff_toInt_le.mp h1
        have := hrs p0
        rw [nI_toInt (by omega), show (-1 : Int32).toInt = -1 by decide] at h2
        omega
    have hbx : ∀ q, q < m → q ≠ x → Pk q = false → bt (rs sp T A) x q = true := fun q hq hne hqf => by
      have h1 := hx1 q hq
      rw [v0 q hq hqf, v0 x hxm hxf] at h1
      have r1 := hrs q
      have r2 := hrs x
      have h2 := (nI_leI (by omega) (by omega)).mp h1
      refine bt_t.mpr ?_
      by_cases e : rs sp T A q = rs sp T A x
      · right
        refine ⟨e.symm, ?_⟩
        by_cases hlt : x < q
        · exact hlt
        · have h3 := hx2 q (by omega)
          rw [v0 q hq hqf, v0 x hxm hxf, e] at h3
          exact (Int32.lt_irrefl h3).elim
      · left; omega
    have v53 : xA Y (mA o 53) x = nI (fl sp T A x) := by rw [(z x hxm).1, if_neg (by rw [hxf]; decide)]; rfl
    generalize hY1 : wF Y (mA o 53) (va_up (xA Y (mA o 53)) x (nI (fl sp T A x + 1))) = Y1
    have F1 : mfm o [53, 54] Y Y1 := by rw [← hY1]; exact mfm.wF (by decide) (by decide) (by decide)
    have a1 : xA Y1 (mA o 54) = xA Y (mA o 54) := by rw [← hY1, xA_wFm (by decide) (by decide) (by decide)]
    have L2 := L1.mf F1
    refine ⟨j - 1, nI (j - 1), wF Y1 (mA o 54) (va_up (xA Y (mA o 54)) x (-1)), by omega, ⟨va_up Pk x true, by omega, rfl, (F.tr F1).tr (mfm.wF (by decide) (by decide) (by decide)), fun p hp => ?_, ?_, fun p q hp hq h1 h2 => ?_⟩, fun rec => ?_⟩
    · rw [xA_wFm (by decide) (by decide) (by decide), xA_wFe, ← hY1, xA_wFe]
      by_cases e : p = x
      · subst e
        rw [upE, upE, if_pos (by simp [va_up]), if_pos (by simp [va_up])]
        exact ⟨rfl, rfl⟩
      · rw [upN e, upN e, show va_up Pk x true p = Pk p by simp [va_up, e]]
        exact z p hp
    · rw [cnt_up hxf, if_pos hxm, hc]
      omega
    · by_cases e2 : q = x
      · rw [e2] at h2
        simp [va_up] at h2
      · have h2' : Pk q = false := by
          rw [← h2]
          simp [va_up, e2]
        by_cases e : p = x
        · rw [e]
          exact hbx q hq e2 h2'
        · exact hb p q hp hq (by rw [← h1]; simp [va_up, e]) h2'
    · unfold fX10_pause_l143_b
      rw [if_neg (nI_nle (by omega) (by omega)), hx, sb]
      dsimp only
      rw [rM53 L1, sb, aM53 L1 (by omega), sb, v53, nI_1, uM53 L1 (by omega), sb, hY1, rM54 L2, sb, uM54 L2 (by omega), sb, a1, nI_m1 (by omega)]
theorem m_p78 (L : LM X o) {sp : Nat → Nat} {T A m : Nat} (hm : xI X o 42 = nI (m + 1)) (h16 : m < 16) (hA : 0 < A) (hA2 : A ≤ 80) (hT : T ≤ 1000) (hsp : ∀ p, p < m → xA X (mA o 45) p = nI (sp p) ∧ sp p ≤ 80) (hfl : ps (fl sp T A) m ≤ T) {l1 : Int32} :
    ∃ X1, fX10_pause_l78 o l1 (nI T) (nI A) FU (nI T) 0 X = some (nI (T - ps (fl sp T A) m), X1) ∧ mfm o [53, 54] X X1 ∧ MPz X1 o sp T A m (fun _ => false) := by
  have key := iterP3 (b := fun rec => fX10_pause_l78_b rec o l1 (nI T) (nI A)) (z := fun _ _ _ => none) (fun q a c Y => ∃ n, n ≤ m ∧ q = m - n ∧ a = nI (T - ps (fl sp T A) n) ∧ c = nI n ∧ mfm o [53, 54] X Y ∧ MPz Y o sp T A n (fun _ => false)) (fun y => ∃ X1, y = (nI (T - ps (fl sp T A) m), X1) ∧ mfm o [53, 54] X X1 ∧ MPz X1 o sp T A m (fun _ => false)) ?_ FU m (nI T) (nI 0) X (FUlt (by omega)) ⟨0, Nat.zero_le _, rfl, rfl, rfl, mfm.rf, fun p hp => absurd hp (Nat.not_lt_zero _)⟩
  · obtain ⟨y, h1, X1, rfl, h2⟩ := key
    exact ⟨X1, h1, h2⟩
  rintro q a c Y ⟨n, hn, rfl, rfl, rfl, F, z⟩
  have L1 := L.mf F
  have h7 : xI Y o 42 - 1 = nI m := by rw [F.I (by decide), hm, nI_pred]
  by_cases hnm : n = m
  · left
    subst hnm
    refine ⟨(nI (T - ps (fl sp T A) n), Y), fun rec => ?_, Y, rfl, F, z⟩
    unfold fX10_pause_l78_b
    rw [gI_M L1, sb, h7, if_pos (nI_le (Nat.le_refl _) (by omega))]
  · right
    obtain ⟨s1, s2⟩ := hsp n (by omega)
    have s1' : xA Y (mA o 45) n = nI (sp n) := by rw [F.A (k := 45) (by decide) (by decide) (by decide)]; exact s1
    have hTs : T * sp n ≤ 80000 := Nat.le_trans (Nat.mul_le_mul hT s2) (by decide)
    have hdv : iD (nI T * nI (sp n)) (nI A) = some (nI (fl sp T A n)) := by
      rw [iD_of (nI_ne0 hA (by omega)), nI_mul, pk_div (by omega) hA (by omega)]
      rfl
    have hrm : iM (nI T * nI (sp n)) (nI A) = some (nI (rs sp T A n)) := by
      rw [iM_of (nI_ne0 hA (by omega)), nI_mul, pk_rem (by omega) hA (by omega)]
      rfl
    have hmo : ps (fl sp T A) (n + 1) ≤ ps (fl sp T A) m := ps_mono (by omega)
    have e1 : ps (fl sp T A) (n + 1) = ps (fl sp T A) n + fl sp T A n := rfl
    generalize hY1 : wF Y (mA o 53) (va_up (xA Y (mA o 53)) n (nI (fl sp T A n))) = Y1
    have F1 : mfm o [53, 54] Y Y1 := by rw [← hY1]; exact mfm.wF (by decide) (by decide) (by decide)
    have L2 := L1.mf F1
    have a1 : xA Y1 (mA o 54) = xA Y (mA o 54) := by rw [← hY1, xA_wFm (by decide) (by decide) (by decide)]
    have b1 : xA Y1 (mA o 45) n = nI (sp n) := by rw [← hY1, xA_wFm (by decide) (by decide) (by decide)]; exact s1'
    generalize hY2 : wF Y1 (mA o 54) (va_up (xA Y1 (mA o 54)) n (nI (rs sp T A n))) = Y2
    have F2 : mfm o [53, 54] Y1 Y2 := by rw [← hY2]; exact mfm.wF (by decide) (by decide) (by decide)
    have L3 := L2.mf F2
    have a2 : xA Y2 (mA o 53) = va_up (xA Y (mA o 53)) n (nI (fl sp T A n)) := by rw [← hY2, xA_wFm (by decide) (by decide) (by decide), ← hY1, xA_wFe]
    have a3 : xA Y2 (mA o 54) = va_up (xA Y (mA o 54)) n (nI (rs sp T A n)) := by rw [← hY2, xA_wFe, a1]
    refine ⟨m - (n + 1), nI (T - ps (fl sp T A) (n + 1)), nI (n + 1), Y2, by omega, ⟨n + 1, by omega, rfl, rfl, rfl, (F.tr F1).tr F2, fun p hp => ?_⟩, fun rec => ?_⟩
    · rw [a2, a3]
      by_cases e : p = n
      · subst e
        rw [upE, upE]
        exact ⟨rfl, rfl⟩
      · rw [upN e, upN e]
        exact z p (by omega)
    · unfold fX10_pause_l78_b
      rw [gI_M L1, sb, h7, if_neg (nI_ge (by omega) (by omega)), rM53 L1, sb, rM45 L1, sb, aM45 L1 (by omega), sb, s1', hdv, sb, uM53 L1 (by omega), sb, hY1, rM54 L2, sb, rM45 L2, sb, aM45 L2 (by omega), sb, b1, hrm, sb, uM54 L2 (by omega), sb, hY2, rM53 L3, sb, aM53 L3 (by omega), sb, a2, upE, nI_subI (by omega), nI_1, show T - ps (fl sp T A) n - fl sp T A n = T - ps (fl sp T A) (n + 1) by omega]
end MPau
theorem pm1_le {a : Nat} (h : a ≤ 16) {x : Int32} (hx : ¬ x < 0) (h2 : ¬ nI a - 1 ≤ x) : ∃ k m : Nat, a = m + 1 ∧ k < m ∧ x = nI k := by
  obtain ⟨k, hk, rfl⟩ := nI_of hx
  cases a with
  | zero =>
    refine absurd ?_ h2
    rw [Int32.le_iff_toInt_le, nI_toInt hk, show (nI 0 - 1).toInt = -1 by decide]
    omega
  | succ m =>
    rw [nI_pred] at h2
    refine ⟨k, m, rfl, ?_, rfl⟩
    by_cases q : k < m
    · exact q
    · exact absurd (nI_le (by omega) hk) h2
theorem p_pause {X : XW} {v : Nat} {t : St} (I : Inv X v t) (a b : Int32) : ∃ x X1 X2, fX9_pause v a b X = some (x, X1) ∧ fX10_pause (v + 127) a b X1 = some (x, X2) ∧ Inv X2 v t := by
  obtain ⟨X1, h1, I1, S1⟩ := f_sih I
  obtain ⟨X2, h2, I2, P2⟩ := m_fp I1
  obtain ⟨S0, -⟩ := S1
  have L := I1.1.1.sh (Or.inl rfl)
  have M := I2.2.1.1
  have W := I.2.2.1
  have W3 := W.2.2.1
  have W2 := W.2.1
  have Wd := W.2.2.2.1 (tH t) (by omega)
  have hpn := pN_le (tD t (tH t)) (tE t)
  have w16 := Wd.1
  have e1 : ∀ y, y = (if (a < 0 : Prop) then (some ((-1), X1)) else if (nI (pN (tD t (tH t)) (tE t)) - 1 ≤ a : Prop) then (some ((-1), X1)) else (fX9_isWithin b 0 1000 X1 >>= fun r9 => if (r9.1 = 0 : Prop) then (some ((-1), r9.2)) else (gK r9.2 (v + 7 + 1) 3 >>= fun u11 => fX3_pauseBehind (v + 7 + 1) a b r9.2 >>= fun r13 => some (r13.1, r13.2)))) → fX9_pause v a b X = y := by
    rintro y rfl
    unfold fX9_pause
    rw [gK_of' I.1.1.1, sb, h1, sb]
    dsimp only
    rw [sR0 L, sb, tI L, sb, S0.1]
  by_cases h0 : a < 0
  · refine ⟨-1, X1, X2, e1 _ (by rw [if_pos h0]), ?_, I2⟩
    unfold fX10_pause
    rw [h2, if_pos h0]
  by_cases h3 : nI (pN (tD t (tH t)) (tE t)) - 1 ≤ a
  · refine ⟨-1, X1, X2, e1 _ (by rw [if_neg h0, if_pos h3]), ?_, I2⟩
    unfold fX10_pause
    rw [h2, if_neg h0, gI_M M, sb, P2.1, if_pos h3]
  by_cases h4 : b < 0
  · refine ⟨-1, X1, X2, e1 _ (by
      rw [if_neg h0, if_neg h3, f_isWithin, sb, show bw b 0 1000 = 0 from if_pos h4]
      dsimp only
      rw [if_pos rfl]), ?_, I2⟩
    unfold fX10_pause
    rw [h2, if_neg h0, gI_M M, sb, P2.1, if_neg h3, if_pos h4]
  by_cases h5 : b ≤ 1000
  rotate_left 1
  · refine ⟨-1, X1, X2, e1 _ (by
      rw [if_neg h0, if_neg h3, f_isWithin, sb, show bw b 0 1000 = 0 from (if_neg h4).trans (if_pos (Int32.not_le.mp h5))]
      dsimp only
      rw [if_pos rfl]), ?_, I2⟩
    unfold fX10_pause
    rw [h2, if_neg h0, gI_M M, sb, P2.1, if_neg h3, if_neg h4, if_neg h5]
  obtain ⟨k, m, hm, hkm, rfl⟩ := pm1_le (by omega) h0 h3
  obtain ⟨T, hT0, rfl⟩ := nI_of h4
  have hT : T ≤ 1000 := (nI_leI (b := 1000) hT0 (by decide)).mp h5
  generalize hA : ps (pS (tD t (tH t)) (tE t)) m = A
  have hA80 : A ≤ 80 := by
    have := Wd.z
    rw [← hA, pS_ps]
    have : ps (dS (tD t (tH t))) (fs (tD t (tH t)) (tE t) m) ≤ dZ (tD t (tH t)) := ps_mono (fs_le _ _ m)
    omega
  have hpS : ∀ p, p < m → pS (tD t (tH t)) (tE t) p ≤ A := fun p hp => by
    have h1 : ps (pS (tD t (tH t)) (tE t)) (p + 1) ≤ ps (pS (tD t (tH t)) (tE t)) m := ps_mono hp
    have h2 : ps (pS (tD t (tH t)) (tE t)) (p + 1) = ps (pS (tD t (tH t)) (tE t)) p + pS (tD t (tH t)) (tE t) p := rfl
    omega
  have hA0 : 0 < A := by
    have := pS_pos (k := k) (id := tE t) Wd (by omega)
    have := hpS k hkm
    omega
  have hfl := fl_le (T := T) hA0 hA
  have hlf := fl_left (T := T) hA0 hA (show 0 < m by omega)
  have fp := f_pause L S0 Wd hm hkm hA hT
  have P42 : xI X2 (v + 127) 42 = nI (m + 1) := by rw [P2.1, hm]
  have h45 : ∀ p, p < m → xA X2 (mA (v + 127) 45) p = nI (pS (tD t (tH t)) (tE t) p) := fun p hp => (P2.2.2 p (by omega)).2.2
  have hl45 := iter3 (b := fun rec => fX10_pause_l45_b rec (v + 127) (nI k) (nI T)) (z := fun _ _ _ => none) (s1 := fun n => nI (ps (pS (tD t (tH t)) (tE t)) n)) (s2 := nI) (sX := fun _ => X2) (N := m) (res := (nI A, X2))
    (fun n hn rec => by
      unfold fX10_pause_l45_b
      rw [gI_M M, sb, P42, nI_pred, if_neg (nI_ge hn (by omega)), rM45 M, sb, aM45 M (by omega), sb, h45 n hn, nI_add, nI_1]
      rfl)
    (fun rec => by
      unfold fX10_pause_l45_b
      rw [gI_M M, sb, P42, nI_pred, if_pos (nI_le (Nat.le_refl _) (by omega)), hA]) (n := FU) (FUlt (by omega))
  obtain ⟨X3, x3, F3, Z3⟩ := m_p78 M P42 (by omega) hA0 hA80 hT (fun p hp => ⟨h45 p hp, Nat.le_trans (hpS p hp) hA80⟩) hfl (l1 := nI k)
  obtain ⟨X4, Pk, x4, F4, Z4, c4, b4⟩ := m_p143 (M.mf F3) (by rw [F3.I (by decide)]; exact P42) (by omega) (by omega) hA0 hA80 hlf Z3 (l1 := nI k)
  refine ⟨_, X1, X4, e1 _ (by
    rw [if_neg h0, if_neg h3, f_isWithin, sb, show bw (nI T) 0 1000 = 1 from (if_neg h4).trans (if_neg (Int32.not_lt.mpr h5))]
    dsimp only
    rw [if_neg (by decide), tK L, sb, fp, sb]), ?_, (I2.mf F3 (by decide)).mf F4 (by decide)⟩
  unfold fX10_pause
  rw [h2, if_neg h0, gI_M M, sb, P2.1, if_neg h3, if_neg h4, if_pos h5, show fX10_pause_l45 (v + 127) (nI k) (nI T) FU 0 0 X2 = _ from hl45, sb]
  dsimp only
  rw [x3, sb]
  dsimp only
  rw [x4, sb, rM53 ((M.mf F3).mf F4), sb, aM53 ((M.mf F3).mf F4) (by omega), sb, (Z4 k hkm).1]
  have hiff : (Pk k = true) ↔ cnt (fun p => bt (rs (pS (tD t (tH t)) (tE t)) T A) p k) m < T - ps (fl (pS (tD t (tH t)) (tE t)) T A) m := by
    rw [← c4]
    constructor
    · intro hk1
      refine cnt_lt (x := k) (fun p hp h => ?_) hkm hk1 ?_
      · cases hq : Pk p
        · have h6 := bt_t.mp (b4 k p hkm hp hk1 hq)
          have h7 := bt_t.mp h
          omega
        · rfl
      · cases hq : bt (rs (pS (tD t (tH t)) (tE t)) T A) k k
        · rfl
        · have h7 := bt_t.mp hq
          omega
    · intro hlt
      cases hq : Pk k
      · have := cnt_le (P := Pk) (Q := fun p => bt (rs (pS (tD t (tH t)) (tE t)) T A) p k) (n := m) (fun p hp h => b4 p k hp hkm h hq)
        omega
      · rfl
  by_cases q : Pk k = true
  · rw [if_pos q, if_pos (hiff.mp q)]
  · rw [if_neg q, if_neg (fun z => q (hiff.mpr z))]
