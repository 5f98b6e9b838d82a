/-! the reference cuts the text -/
theorem xL_wLi (X : XW) (a i : Nat) (v : Int64) (b j : Nat) : xL (wL X a i v) b j = if b = a ∧ j = i then v else xL X b j := rfl
theorem xA_wL (X : XW) (a i : Nat) (v : Int64) : xA (wL X a i v) = xA X := rfl
theorem xI_wL (X : XW) (a i : Nat) (v : Int64) : xI (wL X a i v) = xI X := rfl
theorem mfm.wL {o : Nat} {K : List Nat} {X : XW} {k i : Nat} {v : Int64} (hk : k ∈ K) (h57 : k < 57) (h0 : tMt.getD k 0 ≠ 0) : mfm o K X (wL X (mA o k) i v) := by
  refine ⟨rfl, fun a ha => ⟨rfl, rfl, ?_⟩, fun _ _ => rfl, fun j hj h1 h2 => ⟨rfl, ?_⟩⟩
  · have := cM_le k h57 h0
    funext j
    rw [xL_wLi, if_neg (fun e => by have := e.1; unfold mA at this; omega)]
  · funext x
    rw [xL_wLi, if_neg (fun e => h2 (by rw [(mA_inj hj h57).mp e.1]; exact hk))]
def MTok (X : XW) (o j k : Nat) : Prop := (∀ w, w < 17 → ((xA X (mA o 4) j = 1 ∧ xL X (mA o 6) j = wds w) ↔ k = kw w)) ∧ (∀ s, s < 7 → ((xA X (mA o 4) j = 3 ∧ xL X (mA o 6) j = lN (SG s)) ↔ k = 17 + s)) ∧ (xA X (mA o 4) j = 2 ↔ 26 ≤ k) ∧ (26 ≤ k → (xL X (mA o 6) j).toInt32 = nI (k - 26)) ∧ (xA X (mA o 4) j = 0 ↔ k = 24)
def MTo (X : XW) (o n : Nat) (kd pl : Nat → Nat) : Prop := ∀ j, j < n → MTok X o j (kd j) ∧ xA X (mA o 5) j = nI (pl j)
def MTx (X : XW) (o T : Nat) (c : Nat → Nat) : Prop := xI X o 3 = nI T ∧ T ≤ 1000 ∧ ∀ i, i < T → xA X (mA o 1) i = nI (c i) ∧ gch (c i)
theorem MTx.mf {X X1 : XW} {o T : Nat} {c : Nat → Nat} {K : List Nat} (h : MTx X o T c) (F : mfm o K X X1) (hK : ∀ k, k ∈ K → k ∉ [1, 3]) : MTx X1 o T c := by
  unfold MTx
  rw [F.I (k := 3) (fun q => hK 3 q (by decide)), F.A (k := 1) (fun q => hK 1 q (by decide)) (by decide) (by decide)]
  exact h
theorem MTo.mf {X X1 : XW} {o n : Nat} {kd pl : Nat → Nat} {K : List Nat} (h : MTo X o n kd pl) (F : mfm o K X X1) (hK : ∀ k, k ∈ K → k ∉ [4, 5, 6]) : MTo X1 o n kd pl := by
  unfold MTo MTok
  rw [F.A (k := 4) (fun q => hK 4 q (by decide)) (by decide) (by decide), F.A (k := 5) (fun q => hK 5 q (by decide)) (by decide) (by decide), (F.2.2.2 6 (by decide) (by decide) (fun q => hK 6 q (by decide))).2]
  exact h
/-- a token laid: place, sort, value -/
def ptk (X : XW) (o n : Nat) (pl st : Int32) (va : Int64) : XW := wL (wF (wF X (mA o 5) (va_up (xA X (mA o 5)) n pl)) (mA o 4) (va_up (xA X (mA o 4)) n st)) (mA o 6) n va
theorem ptk_f (X : XW) (o n : Nat) (pl st : Int32) (va : Int64) : mfm o [4, 5, 6] X (ptk X o n pl st va) := ((mfm.wF (by decide) (by decide) (by decide)).tr (mfm.wF (by decide) (by decide) (by decide))).tr (mfm.wL (by decide) (by decide) (by decide))
theorem ptk_A (X : XW) (o n : Nat) (pl st : Int32) (va : Int64) : xA (ptk X o n pl st va) (mA o 4) = va_up (xA X (mA o 4)) n st ∧ xA (ptk X o n pl st va) (mA o 5) = va_up (xA X (mA o 5)) n pl ∧ ∀ j, xL (ptk X o n pl st va) (mA o 6) j = if j = n then va else xL X (mA o 6) j := by
  unfold ptk
  refine ⟨?_, ?_, fun j => ?_⟩
  · rw [xA_wL, xA_wFe]
  · rw [xA_wL, xA_wFm (by decide) (by decide) (by decide), xA_wFe]
  · rw [xL_wLi]
    by_cases e : j = n
    · rw [if_pos ⟨rfl, e⟩, if_pos e]
    · rw [if_neg (fun q => e q.2), if_neg e]
      rfl
theorem MTo.put {X : XW} {o n : Nat} {kd pl : Nat → Nat} {p k : Nat} {st : Int32} {va : Int64} (h : MTo X o n kd pl) (hk : (∀ w, w < 17 → ((st = 1 ∧ va = wds w) ↔ k = kw w)) ∧ (∀ s, s < 7 → ((st = 3 ∧ va = lN (SG s)) ↔ k = 17 + s)) ∧ (st = 2 ↔ 26 ≤ k) ∧ (26 ≤ k → va.toInt32 = nI (k - 26)) ∧ (st = 0 ↔ k = 24)) : MTo (ptk X o n (nI p) st va) o (n + 1) (fun j => if j = n then k else kd j) (fun j => if j = n then p else pl j) := by
  obtain ⟨a4, a5, a6⟩ := ptk_A X o n (nI p) st va
  intro j hj
  show MTok (ptk X o n (nI p) st va) o j (if j = n then k else kd j) ∧ xA (ptk X o n (nI p) st va) (mA o 5) j = nI (if j = n then p else pl j)
  unfold MTok
  rw [a4, a5, a6]
  by_cases e : j = n
  · rw [if_pos e, if_pos e, if_pos e, e, upE, upE]
    exact ⟨hk, rfl⟩
  · rw [if_neg e, if_neg e, if_neg e, upN e, upN e]
    exact h j (by omega)
theorem nK_w {c : Nat → Nat} {k e : Nat} (hc : ∀ j, k ≤ j → j < e → inR 97 122 (c j)) (h8 : e - k ≤ 8) {w : Nat} (hw : w < 17) : lN (hsh (fun i => c (k + i)) (e - k)) = wds w ↔ nmK c k e = kw w := by
  have hn := kw_lt w hw
  have hl := nm_le _ hn
  rw [nm_h w hw, pk_lEQ (hsh_63 (fun i hi => hc (k + i) (by omega) (by omega)) h8) (hsh_63 (fun i hi => nm_let _ hn i hi) hl.1), eqN_h hc hn]
  constructor
  · intro h
    exact (nmK_p c k e).un (Or.inl ⟨hn, h⟩)
  · intro h
    rcases nmK_p c k e with ⟨h1, h2⟩ | ⟨h1, h2⟩
    · rw [h] at h2; exact h2
    · omega
def isS (x : Int32) : Int32 := if x = 40 then 1 else if x = 41 then 1 else if x = 59 then 1 else if x = 61 then 1 else if x = 60 then 1 else if x = 43 then 1 else if x = 45 then 1 else 0
theorem isS_p : ∀ x, x < 127 → (isS (nI x) = 0 ∧ sgK x = 25) ∨ (isS (nI x) = 1 ∧ sgK x ≠ 25) := by decide +kernel
theorem m_isSignOf (x : Int32) (X : XW) : fX10_isSignOf x X = some (isS x, X) := by
  unfold fX10_isSignOf fX10_isSignOf_j42 isS
  by_cases a1 : x = 40
  · rw [if_pos a1, if_pos a1]
  rw [if_neg a1, if_neg a1]
  by_cases a2 : x = 41
  · rw [if_pos a2, if_pos a2]
  rw [if_neg a2, if_neg a2]
  by_cases a3 : x = 59
  · rw [if_pos a3, if_pos a3]
  rw [if_neg a3, if_neg a3]
  by_cases a4 : x = 61
  · rw [if_pos a4, if_pos a4]
  rw [if_neg a4, if_neg a4]
  by_cases a5 : x = 60
  · rw [if_pos a5, if_pos a5]
  rw [if_neg a5, if_neg a5]
  by_cases a6 : x = 43
  · rw [if_pos a6, if_pos a6]
  rw [if_neg a6, if_neg a6]
  by_cases a7 : x = 45
  · rw [if_pos a7, if_pos a7]
  rw [if_neg a7, if_neg a7]
theorem m_isLetter {x : Nat} (hx : x < 127) (X : XW) : fX10_isLetter (nI x) X = some (b01 (inR 97 122 x), X) := by
  rw [← bw_r (lo := 97) (hi := 122) hx (by decide) (by decide)]
  exact f_isWithin _ _ _ X
theorem m_isDigit {x : Nat} (hx : x < 127) (X : XW) : fX10_isDigit (nI x) X = some (b01 (inR 48 57 x), X) := by
  rw [← bw_r (lo := 48) (hi := 57) hx (by decide) (by decide)]
  exact f_isWithin _ _ _ X
section MTk
variable {X : XW} {o T : Nat} {c : Nat → Nat}
theorem mx_ (L : LM X o) (h : MTx X o T c) {i : Nat} (hi : i < T) : aI X (mA o 1) 1 (nI i) = some (nI (c i)) := by
  have := h.2.1
  rw [aM1 L (by omega), (h.2.2 i hi).1]
theorem mx_b (h : MTx X o T c) {i : Nat} (hi : i < T) : c i < 127 := by
  have := (h.2.2 i hi).2
  omega
theorem min_s1 {i m : Nat} (h : i < m) : min (i + 1) m = min i m + 1 := by omega
theorem m_l70 (L : LM X o) (h : MTx X o T c) {k : Nat} (hk : k ≤ T) {l1 : Int32} : fX10_cutAll_l70 o l1 (nI k) FU (nI k) 0 X = some (nI (rE c T 97 122 k), lN (hsh (fun i => c (k + i)) (min (rE c T 97 122 k - k) 8)), X) := by
  have hT := h.2.1
  have key := iterP3 (b := fun rec => fX10_cutAll_l70_b rec o l1 (nI k)) (z := fun _ _ _ => none) (fun m a b Z => ∃ e, k ≤ e ∧ e ≤ T ∧ m = T - e ∧ a = nI e ∧ b = lN (hsh (fun i => c (k + i)) (min (e - k) 8)) ∧ Z = X ∧ ∀ j, k ≤ j → j < e → inR 97 122 (c j)) (fun y => ∃ e, EP c T 97 122 k e ∧ y = (nI e, lN (hsh (fun i => c (k + i)) (min (e - k) 8)), X)) ?_ FU (T - k) (nI k) 0 X (FUlt (by omega)) ⟨k, Nat.le_refl _, hk, rfl, rfl, by rw [Nat.sub_self]; rfl, rfl, fun j q1 q2 => absurd q2 (by omega)⟩
  · obtain ⟨y, g1, e, g2, rfl⟩ := key
    rw [← g2.un (rE_p hk)]
    exact g1
  rintro m a b Z ⟨e, g1, g2, rfl, rfl, rfl, rfl, g3⟩
  by_cases q : e = T
  · left
    refine ⟨(nI e, lN (hsh (fun i => c (k + i)) (min (e - k) 8)), Z), fun rec => ?_, e, ⟨g1, g2, g3, fun z => absurd z (by omega)⟩, rfl⟩
    unfold fX10_cutAll_l70_b
    rw [gI_M L, sb, h.1, if_pos (nI_le (by omega) (by omega))]
  · have hb := mx_b h (i := e) (by omega)
    by_cases z : inR 97 122 (c e)
    · right
      have hrk : fX10_rank (nI (c e)) Z = some (nI (c e - 96), Z) := by
        unfold fX10_rank
        rw [m_isLetter hb, sb, b01_y z]
        dsimp only
        rw [if_neg (by decide), show (96 : Int32) = nI 96 from rfl, nI_subI (by have := z.1; omega)]
      have hst : ∀ rec, fX10_cutAll_l70_b rec o l1 (nI k) (nI e) (lN (hsh (fun i => c (k + i)) (min (e - k) 8))) Z = rec (nI (e + 1)) (lN (hsh (fun i => c (k + i)) (min (e + 1 - k) 8))) Z := fun rec => by
        unfold fX10_cutAll_l70_b fX10_cutAll_j121
        rw [gI_M L, sb, h.1, if_neg (nI_ge (by omega) (by omega)), rM1 L, sb, mx_ L h (by omega), sb, m_isLetter hb, sb, b01_y z]
        dsimp only
        rw [if_neg (by decide), nI_subI g1, nI_1]
        by_cases h8 : 8 ≤ e - k
        · rw [if_pos (show (8 : Int32) ≤ nI (e - k) from nI_le (a := 8) h8 (by omega)), show min (e + 1 - k) 8 = min (e - k) 8 by omega]
        · rw [if_neg (show ¬ (8 : Int32) ≤ nI (e - k) from nI_ge (b := 8) (by omega) (by decide)), rM1 L, sb, mx_ L h (by omega), sb, hrk, sb]
          dsimp only
          rw [nI_l (by omega), show (37 : Int64) = lN 37 from rfl, lN_mul, lN_add, show min (e + 1 - k) 8 = (e - k) + 1 by omega, show min (e - k) 8 = e - k by omega]
          show rec (nI (e + 1)) (lN (37 * hsh (fun i => c (k + i)) (e - k) + (c e - 96))) Z = rec (nI (e + 1)) (lN (37 * hsh (fun i => c (k + i)) (e - k) + (c (k + (e - k)) - 96))) Z
          rw [show k + (e - k) = e by omega]
      exact ⟨T - (e + 1), nI (e + 1), _, Z, by omega, ⟨e + 1, by omega, by omega, rfl, rfl, rfl, rfl, fun j q1 q2 => by
        by_cases y : j = e
        · rw [y]; exact z
        · exact g3 j q1 (by omega)⟩, hst⟩
    · left
      refine ⟨(nI e, lN (hsh (fun i => c (k + i)) (min (e - k) 8)), Z), fun rec => ?_, e, ⟨g1, g2, g3, fun _ => z⟩, rfl⟩
      unfold fX10_cutAll_l70_b
      rw [gI_M L, sb, h.1, if_neg (nI_ge (by omega) (by omega)), rM1 L, sb, mx_ L h (by omega), sb, m_isLetter hb, sb, b01_n z]
      dsimp only
      rw [if_pos rfl]
theorem m_l159 (L : LM X o) (h : MTx X o T c) {k : Nat} (hk : k ≤ T) {l1 : Int32} : fX10_cutAll_l159 o l1 (nI k) FU (nI k) 0 X = some (nI (rE c T 48 57 k), lN (nmv (fun i => c (k + i)) (min (rE c T 48 57 k - k) 4)), X) := by
  have hT := h.2.1
  have key := iterP3 (b := fun rec => fX10_cutAll_l159_b rec o l1 (nI k)) (z := fun _ _ _ => none) (fun m a b Z => ∃ e, k ≤ e ∧ e ≤ T ∧ m = T - e ∧ a = nI e ∧ b = lN (nmv (fun i => c (k + i)) (min (e - k) 4)) ∧ Z = X ∧ ∀ j, k ≤ j → j < e → inR 48 57 (c j)) (fun y => ∃ e, EP c T 48 57 k e ∧ y = (nI e, lN (nmv (fun i => c (k + i)) (min (e - k) 4)), X)) ?_ FU (T - k) (nI k) 0 X (FUlt (by omega)) ⟨k, Nat.le_refl _, hk, rfl, rfl, by rw [Nat.sub_self]; rfl, rfl, fun j q1 q2 => absurd q2 (by omega)⟩
  · obtain ⟨y, g1, e, g2, rfl⟩ := key
    rw [← g2.un (rE_p hk)]
    exact g1
  rintro m a b Z ⟨e, g1, g2, rfl, rfl, rfl, rfl, g3⟩
  by_cases q : e = T
  · left
    refine ⟨(nI e, lN (nmv (fun i => c (k + i)) (min (e - k) 4)), Z), fun rec => ?_, e, ⟨g1, g2, g3, fun z => absurd z (by omega)⟩, rfl⟩
    unfold fX10_cutAll_l159_b
    rw [gI_M L, sb, h.1, if_pos (nI_le (by omega) (by omega))]
  · have hb := mx_b h (i := e) (by omega)
    by_cases z : inR 48 57 (c e)
    · right
      have hst : ∀ rec, fX10_cutAll_l159_b rec o l1 (nI k) (nI e) (lN (nmv (fun i => c (k + i)) (min (e - k) 4))) Z = rec (nI (e + 1)) (lN (nmv (fun i => c (k + i)) (min (e + 1 - k) 4))) Z := fun rec => by
        unfold fX10_cutAll_l159_b fX10_cutAll_j210
        rw [gI_M L, sb, h.1, if_neg (nI_ge (by omega) (by omega)), rM1 L, sb, mx_ L h (by omega), sb, m_isDigit hb, sb, b01_y z]
        dsimp only
        rw [if_neg (by decide), nI_subI g1, nI_1]
        by_cases h8 : 4 ≤ e - k
        · rw [if_pos (show (4 : Int32) ≤ nI (e - k) from nI_le (a := 4) h8 (by omega)), show min (e + 1 - k) 4 = min (e - k) 4 by omega]
        · rw [if_neg (show ¬ (4 : Int32) ≤ nI (e - k) from nI_ge (b := 4) (by omega) (by decide)), rM1 L, sb, mx_ L h (by omega), sb]
          rw [nI_l (by omega), show (10 : Int64) = lN 10 from rfl, lN_mul, lN_add, show (48 : Int64) = lN 48 from rfl, lN_sub (by have := z.1; omega), show min (e + 1 - k) 4 = (e - k) + 1 by omega, show min (e - k) 4 = e - k by omega]
          show rec (nI (e + 1)) (lN (10 * nmv (fun i => c (k + i)) (e - k) + c e - 48)) Z = rec (nI (e + 1)) (lN (10 * nmv (fun i => c (k + i)) (e - k) + (c (k + (e - k)) - 48))) Z
          rw [show k + (e - k) = e by omega, show 10 * nmv (fun i => c (k + i)) (e - k) + c e - 48 = 10 * nmv (fun i => c (k + i)) (e - k) + (c e - 48) by have := z.1; omega]
      exact ⟨T - (e + 1), nI (e + 1), _, Z, by omega, ⟨e + 1, by omega, by omega, rfl, rfl, rfl, rfl, fun j q1 q2 => by
        by_cases y : j = e
        · rw [y]; exact z
        · exact g3 j q1 (by omega)⟩, hst⟩
    · left
      refine ⟨(nI e, lN (nmv (fun i => c (k + i)) (min (e - k) 4)), Z), fun rec => ?_, e, ⟨g1, g2, g3, fun _ => z⟩, rfl⟩
      unfold fX10_cutAll_l159_b
      rw [gI_M L, sb, h.1, if_neg (nI_ge (by omega) (by omega)), rM1 L, sb, mx_ L h (by omega), sb, m_isDigit hb, sb, b01_n z]
      dsimp only
      rw [if_pos rfl]
theorem m_cut1 (L : LM X o) (h : MTx X o T c) {s : TS} (C : MTo X o s.2.1 s.2.2.1 s.2.2.2) (hs : TSo T s) (hk : s.1 < T) : ∃ X1, (∀ rec, fX10_cutAll_l17_b rec o (nI s.2.1) (nI s.1) X = rec (nI (tstp c T s).2.1) (nI (tstp c T s).1) X1) ∧ mfm o [4, 5, 6] X X1 ∧ MTo X1 o (tstp c T s).2.1 (tstp c T s).2.2.1 (tstp c T s).2.2.2 := by
  have hT := h.2.1
  have hb := mx_b h hk
  obtain ⟨t1, t2, -⟩ := hs
  by_cases hw : ws (c s.1)
  · have e : tstp c T s = (s.1 + 1, s.2) := if_pos hw
    refine ⟨X, fun rec => ?_, mfm.rf, by rw [e]; exact C⟩
    unfold fX10_cutAll_l17_b fX10_cutAll_j44
    rw [gI_M L, sb, h.1, if_neg (nI_ge hk (by omega)), rM1 L, sb, mx_ L h hk, sb, e, nI_1]
    rcases hw with z | z
    · rw [if_pos (by rw [z]; rfl)]
    · rw [if_pos (c := nI (c s.1) = 32) (by rw [z]; rfl), ite_self]
  · have n1 : ¬ nI (c s.1) = 10 := fun z => hw (Or.inl ((nI_eq (b := 10) (by omega) (by decide)).mp z))
    have n2 : ¬ nI (c s.1) = 32 := fun z => hw (Or.inr ((nI_eq (b := 32) (by omega) (by decide)).mp z))
    have e : tstp c T s = (nxt c T s.1, s.2.1 + 1, (fun j => if j = s.2.1 then tkd c T s.1 else s.2.2.1 j), fun j => if j = s.2.1 then s.1 else s.2.2.2 j) := if_neg hw
    rw [e]
    dsimp only
    generalize hY : wF X (mA o 5) (va_up (xA X (mA o 5)) s.2.1 (nI s.1)) = Y
    have FY : mfm o [4, 5, 6] X Y := by rw [← hY]; exact mfm.wF (by decide) (by decide) (by decide)
    have LY := L.mf FY
    have hYx := h.mf FY (by decide)
    have a4 : xA Y (mA o 4) = xA X (mA o 4) := by rw [← hY, xA_wFm (by decide) (by decide) (by decide)]
    have LZ : ∀ st, LM (wF Y (mA o 4) (va_up (xA X (mA o 4)) s.2.1 st)) o := fun st => LY.mv (tr1 rfl)
    have ep : ∀ st va, wL (wF Y (mA o 4) (va_up (xA X (mA o 4)) s.2.1 st)) (mA o 6) s.2.1 va = ptk X o s.2.1 (nI s.1) st va := fun st va => by
      unfold ptk
      rw [hY]
    have hd : ∀ rec : Int32 → Int32 → XW → Option (Int32 × XW), fX10_cutAll_l17_b rec o (nI s.2.1) (nI s.1) X = (if b01 (inR 97 122 (c s.1)) = 0 then (fX10_isDigit (nI (c s.1)) Y >>= fun r13 => if (r13.1 = 0 : Prop) then (gR r13.2 o 10 4 >>= fun q15 => fX10_isSignOf (nI (c s.1)) r13.2 >>= fun r17 => if (r17.1 = 0 : Prop) then (fX10_cutAll_j261 rec o (nI s.2.1) (nI s.1) ((nI (c s.1)).toInt64) 4 (nI s.2.1) q15 r17.2) else (fX10_cutAll_j261 rec o (nI s.2.1) (nI s.1) ((nI (c s.1)).toInt64) 3 (nI s.2.1) q15 r17.2)) else (fX10_cutAll_l159 o (nI s.2.1) (nI s.1) FU (nI s.1) 0 r13.2 >>= fun r19 => gR r19.2.2 o 10 4 >>= fun q21 => if ((r19.1 - (nI s.1)) ≤ 4 : Prop) then (fX10_cutAll_j236 rec o (nI s.2.1) r19.1 r19.2.1 2 (nI s.2.1) q21 r19.2.2) else (fX10_cutAll_j236 rec o (nI s.2.1) r19.1 r19.2.1 4 (nI s.2.1) q21 r19.2.2))) else (fX10_cutAll_l70 o (nI s.2.1) (nI s.1) FU (nI s.1) 0 Y >>= fun r23 => gR r23.2.2 o 10 4 >>= fun q25 => if ((r23.1 - (nI s.1)) ≤ 8 : Prop) then (fX10_cutAll_j148 rec o (nI s.2.1) r23.1 r23.2.1 1 (nI s.2.1) q25 r23.2.2) else (fX10_cutAll_j148 rec o (nI s.2.1) r23.1 r23.2.1 4 (nI s.2.1) q25 r23.2.2))) := fun rec => by
      unfold fX10_cutAll_l17_b
      rw [gI_M L, sb, h.1, if_neg (nI_ge hk (by omega)), rM1 L, sb, mx_ L h hk, sb, if_neg n1, if_neg n2, rM5 L, sb, uM5 L (by omega), sb, hY, m_isLetter hb, sb]
    by_cases c1 : inR 97 122 (c s.1)
    · have hE := rE_p (c := c) (lo := 97) (hi := 122) (Nat.le_of_lt hk)
      have ek : tkd c T s.1 = nmK c s.1 (rE c T 97 122 s.1) := if_pos c1
      have en : nxt c T s.1 = rE c T 97 122 s.1 := if_pos c1
      have hl := m_l70 LY hYx (Nat.le_of_lt hk) (l1 := nI s.2.1)
      have h25 : nmK c s.1 (rE c T 97 122 s.1) < 17 ∨ nmK c s.1 (rE c T 97 122 s.1) = 25 := (nmK_p c s.1 _).imp (fun z => z.1) (fun z => z.1)
      rw [ek, en]
      generalize rE c T 97 122 s.1 = r at *
      obtain ⟨g1, g2, g3, -⟩ := hE
      have j148 : ∀ (rec : Int32 → Int32 → XW → Option (Int32 × XW)) va st, fX10_cutAll_j148 rec o (nI s.2.1) (nI r) va st (nI s.2.1) (mA o 4) Y = rec (nI (s.2.1 + 1)) (nI r) (ptk X o s.2.1 (nI s.1) st va) := fun rec va st => by
        unfold fX10_cutAll_j148 fX10_cutAll_j265
        rw [uM4 LY (by omega), sb, a4, rM6 (LZ st), sb, uL_M6 (LZ st) (by omega), sb, ep, nI_1]
      by_cases h8 : r - s.1 ≤ 8
      · refine ⟨ptk X o s.2.1 (nI s.1) 1 (lN (hsh (fun i => c (s.1 + i)) (r - s.1))), fun rec => ?_, ptk_f .., C.put ⟨fun w hw => ?_, fun u hu => ?_, ?_, ?_, ?_⟩⟩
        · rw [hd, b01_y c1, if_neg (by decide), hl, sb]
          dsimp only
          rw [rM4 LY, sb, nI_subI g1, if_pos (show nI (r - s.1) ≤ (8 : Int32) from nI_le (b := 8) h8 (by decide)), j148, show min (r - s.1) 8 = r - s.1 by omega]
        · rw [← nK_w g3 h8 hw]
          exact ⟨fun z => z.2, fun z => ⟨rfl, z⟩⟩
        · exact ⟨fun z => absurd z.1 (by decide), fun z => by omega⟩
        · exact ⟨fun z => absurd z (by decide), fun z => by omega⟩
        · intro z; omega
        · exact ⟨fun z => absurd z (by decide), fun z => by omega⟩
      · have hn25 : nmK c s.1 r = 25 := by
          refine (nmK_p c s.1 r).un (Or.inr ⟨rfl, fun m hm z => ?_⟩)
          have := nm_le m hm
          have := z.1
          omega
        refine ⟨ptk X o s.2.1 (nI s.1) 4 (lN (hsh (fun i => c (s.1 + i)) 8)), fun rec => ?_, ptk_f .., C.put ⟨fun w hw => ?_, fun u hu => ?_, ?_, ?_, ?_⟩⟩
        · rw [hd, b01_y c1, if_neg (by decide), hl, sb]
          dsimp only
          rw [rM4 LY, sb, nI_subI g1, if_neg (show ¬ nI (r - s.1) ≤ (8 : Int32) from nI_ge (a := 8) (by omega) (by omega)), j148, show min (r - s.1) 8 = 8 by omega]
        · have := kw_lt w hw
          exact ⟨fun z => absurd z.1 (by decide), fun z => by omega⟩
        · exact ⟨fun z => absurd z.1 (by decide), fun z => by omega⟩
        · exact ⟨fun z => absurd z (by decide), fun z => by omega⟩
        · intro z; omega
        · exact ⟨fun z => absurd z (by decide), fun z => by omega⟩
    · by_cases c2 : inR 48 57 (c s.1)
      · have hE := rE_p (c := c) (lo := 48) (hi := 57) (Nat.le_of_lt hk)
        have ek : tkd c T s.1 = numK c s.1 (rE c T 48 57 s.1) := (if_neg c1).trans (if_pos c2)
        have en : nxt c T s.1 = rE c T 48 57 s.1 := (if_neg c1).trans (if_pos c2)
        have hl := m_l159 LY hYx (Nat.le_of_lt hk) (l1 := nI s.2.1)
        rw [ek, en]
        generalize rE c T 48 57 s.1 = r at *
        obtain ⟨g1, g2, g3, -⟩ := hE
        have j236 : ∀ (rec : Int32 → Int32 → XW → Option (Int32 × XW)) va st, fX10_cutAll_j236 rec o (nI s.2.1) (nI r) va st (nI s.2.1) (mA o 4) Y = rec (nI (s.2.1 + 1)) (nI r) (ptk X o s.2.1 (nI s.1) st va) := fun rec va st => by
          unfold fX10_cutAll_j236 fX10_cutAll_j265
          rw [uM4 LY (by omega), sb, a4, rM6 (LZ st), sb, uL_M6 (LZ st) (by omega), sb, ep, nI_1]
        by_cases h8 : r - s.1 ≤ 4
        · have e26 : numK c s.1 r = 26 + nmv (fun i => c (s.1 + i)) (r - s.1) := if_pos h8
          refine ⟨ptk X o s.2.1 (nI s.1) 2 (lN (nmv (fun i => c (s.1 + i)) (r - s.1))), fun rec => ?_, ptk_f .., C.put ⟨fun w hw => ?_, fun u hu => ?_, ?_, ?_, ?_⟩⟩
          · rw [hd, b01_n c1, if_pos rfl, m_isDigit hb, sb, b01_y c2]
            dsimp only
            rw [if_neg (by decide), hl, sb]
            dsimp only
            rw [rM4 LY, sb, nI_subI g1, if_pos (show nI (r - s.1) ≤ (4 : Int32) from nI_le (b := 4) h8 (by decide)), j236, show min (r - s.1) 4 = r - s.1 by omega]
          · have := kw_lt w hw
            exact ⟨fun z => absurd z.1 (by decide), fun z => by omega⟩
          · exact ⟨fun z => absurd z.1 (by decide), fun z => by omega⟩
          · exact ⟨fun z => by omega, fun z => rfl⟩
          · intro z
            rw [lN_i, e26, Nat.add_sub_cancel_left]
          · exact ⟨fun z => absurd z (by decide), fun z => by omega⟩
        · have e25 : numK c s.1 r = 25 := if_neg h8
          refine ⟨ptk X o s.2.1 (nI s.1) 4 (lN (nmv (fun i => c (s.1 + i)) 4)), fun rec => ?_, ptk_f .., C.put ⟨fun w hw => ?_, fun u hu => ?_, ?_, ?_, ?_⟩⟩
          · rw [hd, b01_n c1, if_pos rfl, m_isDigit hb, sb, b01_y c2]
            dsimp only
            rw [if_neg (by decide), hl, sb]
            dsimp only
            rw [rM4 LY, sb, nI_subI g1, if_neg (show ¬ nI (r - s.1) ≤ (4 : Int32) from nI_ge (a := 4) (by omega) (by omega)), j236, show min (r - s.1) 4 = 4 by omega]
          · have := kw_lt w hw
            exact ⟨fun z => absurd z.1 (by decide), fun z => by omega⟩
          · exact ⟨fun z => absurd z.1 (by decide), fun z => by omega⟩
          · exact ⟨fun z => absurd z (by decide), fun z => by omega⟩
          · intro z; omega
          · exact ⟨fun z => absurd z (by decide), fun z => by omega⟩
      · have ek : tkd c T s.1 = sgK (c s.1) := (if_neg c1).trans (if_neg c2)
        have en : nxt c T s.1 = s.1 + 1 := (if_neg c1).trans (if_neg c2)
        have hsb := sgK_b (c s.1) hb
        rw [ek, en]
        have j261 : ∀ (rec : Int32 → Int32 → XW → Option (Int32 × XW)) va st, fX10_cutAll_j261 rec o (nI s.2.1) (nI s.1) va st (nI s.2.1) (mA o 4) Y = rec (nI (s.2.1 + 1)) (nI (s.1 + 1)) (ptk X o s.2.1 (nI s.1) st va) := fun rec va st => by
          unfold fX10_cutAll_j261 fX10_cutAll_j265
          rw [uM4 LY (by omega), sb, a4, rM6 (LZ st), sb, uL_M6 (LZ st) (by omega), sb, ep, nI_1, nI_1]
        rcases isS_p (c s.1) hb with ⟨i1, i2⟩ | ⟨i1, i2⟩
        · refine ⟨ptk X o s.2.1 (nI s.1) 4 (lN (c s.1)), fun rec => ?_, ptk_f .., C.put ⟨fun w hw => ?_, fun u hu => ?_, ?_, ?_, ?_⟩⟩
          · rw [hd, b01_n c1, if_pos rfl, m_isDigit hb, sb, b01_n c2]
            dsimp only
            rw [if_pos rfl, rM4 LY, sb, m_isSignOf, sb, i1]
            dsimp only
            rw [if_pos rfl, j261, nI_l (by omega)]
          · have := kw_lt w hw
            exact ⟨fun z => absurd z.1 (by decide), fun z => by omega⟩
          · exact ⟨fun z => absurd z.1 (by decide), fun z => by omega⟩
          · exact ⟨fun z => absurd z (by decide), fun z => by omega⟩
          · intro z; omega
          · exact ⟨fun z => absurd z (by decide), fun z => by omega⟩
        · refine ⟨ptk X o s.2.1 (nI s.1) 3 (lN (c s.1)), fun rec => ?_, ptk_f .., C.put ⟨fun w hw => ?_, fun u hu => ?_, ?_, ?_, ?_⟩⟩
          · rw [hd, b01_n c1, if_pos rfl, m_isDigit hb, sb, b01_n c2]
            dsimp only
            rw [if_pos rfl, rM4 LY, sb, m_isSignOf, sb, i1]
            dsimp only
            rw [if_neg (by decide), j261, nI_l (by omega)]
          · have := kw_lt w hw
            exact ⟨fun z => absurd z.1 (by decide), fun z => by omega⟩
          · have := SG_b u hu
            rw [← sgK_p (c s.1) hb u hu, pk_lEQ (by omega) (by omega)]
            exact ⟨fun z => z.2, fun z => ⟨rfl, z⟩⟩
          · exact ⟨fun z => absurd z (by decide), fun z => by omega⟩
          · intro z; omega
          · exact ⟨fun z => absurd z (by decide), fun z => by omega⟩
theorem m_cutAll (L : LM X o) (h2 : xI X o 2 = nI T) (hT : T ≤ 1000) (hc : ∀ i, i < T → xA X (mA o 1) i = nI (c i) ∧ gch (c i)) : ∃ X1, fX10_cutAll o X = some X1 ∧ mfm o [2, 3, 4, 5, 6, 7, 8] X X1 ∧ xI X1 o 2 = 0 ∧ xI X1 o 7 = nI 0 ∧ xI X1 o 8 = 0 ∧ MTo X1 o ((tfin c T).2.1 + 1) (fun j => if j = (tfin c T).2.1 then 24 else (tfin c T).2.2.1 j) (fun j => if j = (tfin c T).2.1 then T else (tfin c T).2.2.2 j) := by
  generalize hX1 : wI X o 3 (nI T) = X1
  have F1 : mfm o [2, 3, 4, 5, 6, 7, 8] X X1 := by rw [← hX1]; exact mfm.wI (by decide)
  have L1 := L.mf F1
  generalize hX2 : wI X1 o 2 0 = X2
  have F2 : mfm o [2, 3, 4, 5, 6, 7, 8] X1 X2 := by rw [← hX2]; exact mfm.wI (by decide)
  have L2 := L1.mf F2
  have i3 : xI X2 o 3 = nI T := by rw [← hX2, xI_wn (by decide), ← hX1, xI_we]
  have i2 : xI X2 o 2 = 0 := by rw [← hX2, xI_we]
  have hx2 : MTx X2 o T c := ⟨i3, hT, fun i hi => by rw [← hX2, xA_wI, ← hX1, xA_wI]; exact hc i hi⟩
  have key := iterP3 (b := fun rec => fX10_cutAll_l17_b rec o) (z := fun _ _ _ => none) (fun m a b Z => ∃ s : TS, m = T - s.1 ∧ a = nI s.2.1 ∧ b = nI s.1 ∧ mfm o [4, 5, 6] X2 Z ∧ MTo Z o s.2.1 s.2.2.1 s.2.2.2 ∧ TSo T s ∧ trun c T (T - s.1) s = tfin c T) (fun y => ∃ Z, y = (nI (tfin c T).2.1, Z) ∧ mfm o [4, 5, 6] X2 Z ∧ MTo Z o (tfin c T).2.1 (tfin c T).2.2.1 (tfin c T).2.2.2 ∧ TSo T (tfin c T)) ?_ FU T (nI 0) (nI 0) X2 (FUlt (by omega)) ⟨ts0, rfl, rfl, rfl, mfm.rf, fun j hj => absurd hj (Nat.not_lt_zero _), ⟨Nat.zero_le _, Nat.le_refl _, fun j hj => absurd hj (Nat.not_lt_zero _)⟩, rfl⟩
  · obtain ⟨y, g1, Z, rfl, g2, g3, g4⟩ := key
    have LZ := L2.mf g2
    have hn : (tfin c T).2.1 ≤ T := by have := g4.1; have := g4.2.1; omega
    generalize hm : (tfin c T).2.1 = n at *
    generalize (tfin c T).2.2.1 = kd at *
    generalize (tfin c T).2.2.2 = pl at *
    generalize hZ1 : wF Z (mA o 4) (va_up (xA Z (mA o 4)) n 0) = Z1
    have G1 : mfm o [4, 5, 6] Z Z1 := by rw [← hZ1]; exact mfm.wF (by decide) (by decide) (by decide)
    have N1 := LZ.mf G1
    generalize hZ2 : wF Z1 (mA o 5) (va_up (xA Z1 (mA o 5)) n (nI T)) = Z2
    have G2 : mfm o [4, 5, 6] Z1 Z2 := by rw [← hZ2]; exact mfm.wF (by decide) (by decide) (by decide)
    have N2 := N1.mf G2
    have N3 : LM (wI Z2 o 7 0) o := N2.mv (tr1 rfl)
    have j3 : xI Z1 o 3 = nI T := by rw [G1.I (by decide), g2.I (by decide)]; exact i3
    have G0 : mfm o [4, 5, 6] X2 Z2 := (g2.tr G1).tr G2
    have G4 : mfm o [2, 3, 4, 5, 6, 7, 8] X (wI (wI Z2 o 7 0) o 8 0) := (((F1.tr F2).tr (G0.wk (by decide))).tr (mfm.wI (by decide))).tr (mfm.wI (by decide))
    refine ⟨wI (wI Z2 o 7 0) o 8 0, ?_, G4, ?_, ?_, xI_we, ?_⟩
    · unfold fX10_cutAll
      rw [gI_M L, sb, h2, pI_M L, sb, hX1, pI_M L1, sb, hX2, show fX10_cutAll_l17 o FU 0 0 X2 = _ from g1, sb]
      dsimp only
      rw [rM4 LZ, sb, uM4 LZ (by omega), sb, hZ1, rM5 N1, sb, gI_M N1, sb, j3, uM5 N1 (by omega), sb, hZ2, pI_M N2, sb, pI_M N3, sb]
    · rw [xI_wn (by decide), xI_wn (by decide), G0.I (by decide)]
      exact i2
    · rw [xI_wn (by decide), xI_we]
      rfl
    · intro j hj
      show MTok (wI (wI Z2 o 7 0) o 8 0) o j (if j = n then 24 else kd j) ∧ xA Z2 (mA o 5) j = nI (if j = n then T else pl j)
      have a4 : xA (wI (wI Z2 o 7 0) o 8 0) (mA o 4) = va_up (xA Z (mA o 4)) n 0 := by rw [xA_wI, xA_wI, ← hZ2, xA_wFm (by decide) (by decide) (by decide), ← hZ1, xA_wFe]
      have a5 : xA Z2 (mA o 5) = va_up (xA Z (mA o 5)) n (nI T) := by rw [← hZ2, xA_wFe, ← hZ1, xA_wFm (by decide) (by decide) (by decide)]
      have a6 : xL (wI (wI Z2 o 7 0) o 8 0) (mA o 6) = xL Z (mA o 6) := by rw [xL_wI, xL_wI, ← hZ2, ← hZ1]; rfl
      unfold MTok
      rw [a4, a5, a6]
      by_cases e : j = n
      · rw [if_pos e, if_pos e, e, upE, upE]
        refine ⟨⟨fun w hw => ?_, fun u hu => ?_, ?_, ?_, ?_⟩, rfl⟩
        · have := kw_lt w hw
          exact ⟨fun z => absurd z.1 (by decide), fun z => by omega⟩
        · exact ⟨fun z => absurd z.1 (by decide), fun z => by omega⟩
        · exact ⟨fun z => absurd z (by decide), fun z => by omega⟩
        · intro z; omega
        · exact ⟨fun _ => rfl, fun _ => rfl⟩
      · rw [if_neg e, if_neg e, upN e, upN e]
        exact g3 j (by omega)
  rintro m a b Z ⟨s, rfl, rfl, rfl, F, C, hs, hr⟩
  have hz := hx2.mf F (by decide)
  have LZ := L2.mf F
  by_cases e : s.1 = T
  · left
    have ef : s = tfin c T := by
      rw [← hr, e, Nat.sub_self]
      rfl
    refine ⟨_, fun rec => ?_, Z, rfl, F, by rw [← ef]; exact C, by rw [← ef]; exact hs⟩
    unfold fX10_cutAll_l17_b
    rw [gI_M LZ, sb, hz.1, if_pos (nI_le (by omega) (by omega)), ef]
  · right
    have hk : s.1 < T := by
      have := hs.1
      omega
    have hb := tstp_b (c := c) (T := T) (s := s) hk
    obtain ⟨Z1, x1, x2, x3⟩ := m_cut1 LZ hz C hs hk
    exact ⟨T - (tstp c T s).1, _, _, Z1, by omega, ⟨tstp c T s, rfl, rfl, rfl, F.tr x2, x3, hs.stp hk (mx_b hz hk), by rw [← trun_s hk]; exact hr⟩, x1⟩
end MTk
