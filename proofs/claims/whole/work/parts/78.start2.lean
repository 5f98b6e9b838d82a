/-! THE START: statics and strings -/
def gl : List Cond := flatC (Jvm.Cond.and given_1 narrow_1)
def tmS (i : Nat) : Term := .string "VoiceShaper$Tokens" (if i = 0 then 72 else 64)
theorem gl_a : ∀ n, n < 5 → Cond.arrayOf (.static "VoiceShaper" (xsn n) "[I") .int ∈ gl ∧ Cond.eq (.length (.static "VoiceShaper" (xsn n) "[I")) (.int 3) ∈ gl ∧ ∀ j, j < 3 → Cond.eq (.elem (.static "VoiceShaper" (xsn n) "[I") (.int (Int32.ofNat j))) (.int (xsv n j)) ∈ gl := by decide +kernel
theorem gl_l : ∀ n, n < 5 → Cond.laysStatic "VoiceShaper" (xsn n) "[I" ∈ lw_tbl := by decide +kernel
theorem gl_s : ∀ i, i < 2 → Cond.exactly (tmS i) "java/lang/String" ∈ gl ∧ Cond.eq (.field (tmS i) "java/lang/String" "coder" "B") (.int 0) ∈ gl ∧ Cond.arrayOf (.field (tmS i) "java/lang/String" "value" "[B") .byte ∈ gl ∧ Cond.eq (.length (.field (tmS i) "java/lang/String" "value" "[B")) (.int (Int32.ofNat (xslen.getD i 0))) ∈ gl := by decide +kernel
theorem gl_e0 : ∀ j, j < 136 → gl[56 + j]? = some (Cond.eq (.elem (.field (.string "VoiceShaper$Tokens" 72) "java/lang/String" "value" "[B") (.int (Int32.ofNat j))) (.int ((xsbyt.getD 0 []).getD j 0))) := by decide +kernel
theorem gl_e1 : ∀ j, j < 7 → gl[196 + j]? = some (Cond.eq (.elem (.field (.string "VoiceShaper$Tokens" 64) "java/lang/String" "value" "[B") (.int (Int32.ofNat j))) (.int ((xsbyt.getD 1 []).getD j 0))) := by decide +kernel
theorem gl_e : ∀ i, i < 2 → ∀ j, j < xslen.getD i 0 → Cond.eq (.elem (.field (tmS i) "java/lang/String" "value" "[B") (.int (Int32.ofNat j))) (.int ((xsbyt.getD i []).getD j 0)) ∈ gl := fun i hi j hj => by
  match i, hi with
  | 0, _ => exact List.mem_of_getElem? (gl_e0 j hj)
  | 1, _ => exact List.mem_of_getElem? (gl_e1 j hj)
theorem gl_n : Cond.not (Cond.eq (tmS 0) (tmS 1)) ∈ gl := by decide +kernel
theorem gl_x : Cond.exactly (.string "VoiceShaper" 177) "java/lang/String" ∈ gl ∧ Cond.exactly (.string "VoiceShaper" 185) "java/lang/String" ∈ gl := by decide +kernel
theorem gl_o : Cond.eq (.static "java/lang/String" "COMPACT_STRINGS" "Z") (.int 1) ∈ gl ∧ Cond.isRef (.static "jdk/internal/util/Preconditions" "SIOOBE_FORMATTER" "Ljava/util/function/BiFunction;") ∈ gl ∧ Cond.isRef (.static Bundle.tN "UNASSIGNED_STACK" Bundle.steD) ∈ gl ∧ Cond.isRef (.static Bundle.tN "SUPPRESSED_SENTINEL" Bundle.listD) ∈ gl := by decide +kernel
theorem gl_w : Cond.initialized "VoiceShaper" ∈ lw_tbl ∧ Cond.laysStatic "java/lang/String" "COMPACT_STRINGS" "Z" ∈ lw_tbl ∧ Cond.initialized "java/lang/String" ∈ lw_tbl ∧ Cond.laysStatic "jdk/internal/util/Preconditions" "SIOOBE_FORMATTER" "Ljava/util/function/BiFunction;" ∈ lw_tbl ∧ Cond.initialized "jdk/internal/util/Preconditions" ∈ lw_tbl ∧ Cond.laysStatic Bundle.tN "UNASSIGNED_STACK" Bundle.steD ∈ lw_tbl ∧ Cond.laysStatic Bundle.tN "SUPPRESSED_SENTINEL" Bundle.listD ∈ lw_tbl ∧ Cond.initialized Bundle.tN ∈ lw_tbl := by decide +kernel
theorem gl_r : Cond.stringRef "VoiceShaper$Tokens" 72 xtx0 ∈ lw_tbl ∧ Cond.stringRef "VoiceShaper$Tokens" 64 xtx1 ∈ lw_tbl ∧ Cond.stringRef "VoiceShaper" 177 "no such syllable" ∈ lw_tbl ∧ Cond.stringRef "VoiceShaper" 185 "no such thing of a syllable" ∈ lw_tbl := by decide +kernel
section Sta2
variable {args : Array Value} {s : State}
theorem st_all (hts : ∀ w ∈ lw_tbl, w.before args s = true) (hgv : (Jvm.Cond.and given_1 narrow_1).before args s = true) : ∃ G : XG, xk G s ∧ xst G (fun q => s.heap.size ≤ q) s s.heap := by
  have hg : ∀ w ∈ gl, w.before args s = true := flat_of_before _ hgv
  have hx : ∀ w ∈ xws, w.before args s = true := fun w hw => hts w (List.mem_filter.mp hw).1
  have hA : ∀ a : Nat, a < s.heap.size → ¬ (fun q => s.heap.size ≤ q) a := fun a ha z => Nat.not_le.mpr ha z
  obtain ⟨dC, dI, hC⟩ := st_cls hx
  have hn := st_nw hts
  obtain ⟨dA, hAr⟩ := st_arr hx hn
  have h5 : ∀ n, ∃ t : Nat, n < 5 → va_Z "VoiceShaper" (xsn n) "[I" (.ref t) (fun q => s.heap.size ≤ q) s s.heap ∧ va_T .int t 3 (fun j => .int (xsv n j)) (fun q => s.heap.size ≤ q) s s.heap := fun n => by
    by_cases h : n < 5
    · obtain ⟨a1, a2, a3⟩ := gl_a n h
      obtain ⟨t, ht, hT⟩ := va_Tof (f := fun j => .int (xsv n j)) (A := fun q => s.heap.size ≤ q) (by decide) (hg _ a1) (va_eqt (hg _ a2)) (fun j hj => va_eqt (hg _ (a3 j hj))) hA
      exact ⟨t, fun _ => ⟨va_Zof (hts _ (gl_l n h)) (hts _ gl_w.1) ht hA, hT⟩⟩
    · exact ⟨0, fun z => absurd z h⟩
  obtain ⟨adK, adV, hS, hK⟩ := vk_Sof (N := 2) (tm := tmS) (len := xslen) (byt := xsbyt) (A := fun q => s.heap.size ≤ q) (by decide) (fun i hi => hg _ (gl_s i hi).1) (fun i hi => hg _ (gl_s i hi).2.1) (fun i hi => hg _ (gl_s i hi).2.2.1) (fun i hi => hg _ (gl_s i hi).2.2.2) (fun i hi j hj => hg _ (gl_e i hi j hj)) (fun i j hi hj hne => by
    match i, j, hi, hj, hne with
    | 0, 0, _, _, hne => exact absurd rfl hne
    | 0, 1, _, _, _ => exact Or.inl (hg _ gl_n)
    | 1, 0, _, _, _ => exact Or.inr (hg _ gl_n)
    | 1, 1, _, _, hne => exact absurd rfl hne) hA
  obtain ⟨a12, -, -, -, e12, -⟩ := Cond.exactly_spec (args := args) (first := s) (o := none) (s := s) (idx := []) (t := .string "VoiceShaper" 177) (cls := "java/lang/String") (hg _ gl_x.1)
  obtain ⟨a13, -, -, -, e13, -⟩ := Cond.exactly_spec (args := args) (first := s) (o := none) (s := s) (idx := []) (t := .string "VoiceShaper" 185) (cls := "java/lang/String") (hg _ gl_x.2)
  refine ⟨(dC, dI, dA, fun n => if n < 5 then Classical.choose (h5 n) else if n = 10 then adK 0 else if n = 11 then adK 1 else if n = 12 then a12 else if n = 13 then a13 else if n = 20 then adV 0 else adV 1), ⟨⟨hC, fun k q hq => ?_⟩, hn⟩, fun n hn5 => ?_, ?_, ?_, ?_, ?_, ?_, ?_, ?_, ?_, ?_⟩
  · match k, hq with
    | 0, hq => cases hq; exact hAr 0 (by decide)
    | 1, hq => cases hq; exact hAr 1 (by decide)
    | 2, hq => cases hq; exact hAr 2 (by decide)
    | 3, hq => cases hq; exact hAr 3 (by decide)
    | 4, hq => cases hq; exact hAr 4 (by decide)
    | 5, hq => cases hq; exact hAr 5 (by decide)
    | 6, hq => cases hq; exact hAr 6 (by decide)
    | k + 7, hq => simp [xtys] at hq
  · have h := Classical.choose_spec (h5 n) hn5
    show va_Z "VoiceShaper" (xsn n) "[I" (.ref (if n < 5 then Classical.choose (h5 n) else _)) _ s s.heap ∧ va_T .int (if n < 5 then Classical.choose (h5 n) else _) 3 _ _ s s.heap
    rw [if_pos hn5]
    exact h
  · refine ⟨fun i hi => ?_, fun i j hi hj e => ?_⟩
    · match i, hi with
      | 0, _ => exact hS.1 0 (by decide)
      | 1, _ => exact hS.1 1 (by decide)
    · match i, j, hi, hj, e with
      | 0, 0, _, _, _ => rfl
      | 0, 1, _, _, e => exact hS.2 0 1 (by decide) (by decide) e
      | 1, 0, _, _, e => exact hS.2 1 0 (by decide) (by decide) e
      | 1, 1, _, _, _ => rfl
  · exact vk_R.of (hts _ gl_r.1) (hK 0 (by decide))
  · exact vk_R.of (hts _ gl_r.2.1) (hK 1 (by decide))
  · exact va_Zof (hts _ gl_w.2.1) (hts _ gl_w.2.2.1) (va_eqt (hg _ gl_o.1)) hA
  · exact va_Zqof (hts _ gl_w.2.2.2.1) (hts _ gl_w.2.2.2.2.1) (hg _ gl_o.2.1) hA
  · exact vk_R.of (hts _ gl_r.2.2.1) e12
  · exact vk_R.of (hts _ gl_r.2.2.2) e13
  · exact vx_Zqof (hts _ gl_w.2.2.2.2.2.1) (hts _ gl_w.2.2.2.2.2.2.2) (hg _ gl_o.2.2.1) hA
  · exact vx_Zqof (hts _ gl_w.2.2.2.2.2.2.1) (hts _ gl_w.2.2.2.2.2.2.2) (hg _ gl_o.2.2.2) hA
end Sta2
