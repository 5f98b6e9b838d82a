def xAOA (U : State) : Prop := (Cond.arrayOver (.array .int)).before #[] U = true
theorem xAOA_moved {u U : State} (hvm : u.vm.Alike U.vm) (h : xAOA u) : xAOA U := by
  obtain ⟨comp, c, k, h1, h2, h3, h4, h5⟩ := arrayOverA_spec h
  obtain ⟨k', hk', he⟩ := hvm.2.2 _ _ h3
  have hi : (U.vm.classes.findIdx? fun (x : Class) => match x.kind with | .array component _ => component == comp | _ => false) = some c := by
    have hb : U.vm.bare = u.vm.bare := by first | exact hvm.bare_eq | exact hvm.bare_eq.symm
    refine Eq.trans (va_idx_bare U.vm comp).symm ?_
    rw [hb]
    exact (va_idx_bare u.vm comp).trans h2
  have hkind : k'.kind = .array comp (.array .int) := by rw [he]; exact h4
  have f1 : U.vm.findClass (FieldType.array .int).toString = some comp := by rw [hvm.findClass]; exact h1
  have f2 : U.vm.findClass ("[" ++ (FieldType.array .int).toString) = some c := by rw [hvm.findClass]; exact h5
  unfold xAOA Cond.before Cond.holds
  simp only [Cond.value]
  rw [f1, Option.bind_some]
  refine (congrArg (fun o : Option Nat => (o.bind (fun c => (U.vm.classes[c]?).map fun (k : Class) => match k.kind with | .array _ ty => decide (ty = FieldType.array .int) && decide (U.vm.findClass ("[" ++ (FieldType.array .int).toString) = some c) | _ => false) == some true)) hi).trans ?_
  simp [hk', hkind, f2]
/-! the constant texts -/
def xtx0 : String := "length  height  power   place   left    stress  accent  new     contrastphrase  final   word    tune    set     add     when    and     "
def xtx1 : String := "()<=+-;"
def xslen : List Nat := [136, 7]
def xsbyt : List (List Int32) := [[108, 101, 110, 103, 116, 104, 32, 32, 104, 101, 105, 103, 104, 116, 32, 32, 112, 111, 119, 101, 114, 32, 32, 32, 112, 108, 97, 99, 101, 32, 32, 32, 108, 101, 102, 116, 32, 32, 32, 32, 115, 116, 114, 101, 115, 115, 32, 32, 97, 99, 99, 101, 110, 116, 32, 32, 110, 101, 119, 32, 32, 32, 32, 32, 99, 111, 110, 116, 114, 97, 115, 116, 112, 104, 114, 97, 115, 101, 32, 32, 102, 105, 110, 97, 108, 32, 32, 32, 119, 111, 114, 100, 32, 32, 32, 32, 116, 117, 110, 101, 32, 32, 32, 32, 115, 101, 116, 32, 32, 32, 32, 32, 97, 100, 100, 32, 32, 32, 32, 32, 119, 104, 101, 110, 32, 32, 32, 32, 97, 110, 100, 32, 32, 32, 32, 32], [40, 41, 60, 61, 43, 45, 59]]
def xsr (G : XG) (A : Nat → Prop) (U : State) (H : Heap) : Prop := vk_S 2 xslen xsbyt (fun i => G.2.2.2 (10 + i)) (fun i => G.2.2.2 (20 + i)) A U H ∧ vk_R "VoiceShaper$Tokens" 72 xtx0 (G.2.2.2 (10 + 0)) U ∧ vk_R "VoiceShaper$Tokens" 64 xtx1 (G.2.2.2 (10 + 1)) U ∧ va_Z "java/lang/String" "COMPACT_STRINGS" "Z" (.int 1) A U H ∧ va_Zq "jdk/internal/util/Preconditions" "SIOOBE_FORMATTER" "Ljava/util/function/BiFunction;" A U H ∧ vk_R "VoiceShaper" 177 "no such syllable" (G.2.2.2 12) U ∧ vk_R "VoiceShaper" 185 "no such thing of a syllable" (G.2.2.2 13) U ∧ vx_Zq Bundle.tN "UNASSIGNED_STACK" Bundle.steD A U H ∧ vx_Zq Bundle.tN "SUPPRESSED_SENTINEL" Bundle.listD A U H
theorem xsr_moved {G : XG} {A : Nat → Prop} {u U : State} {H : Heap} (hvm : u.vm.Alike U.vm) (hR : ∀ (own : String) (k : Nat) (tx : String) (a : Nat), vk_R own k tx a u → vk_R own k tx a U) (h : xsr G A u H) : xsr G A U H := ⟨vk_S.moved hvm h.1, hR _ _ _ _ h.2.1, hR _ _ _ _ h.2.2.1, va_Z.moved hvm h.2.2.2.1, va_Zq.moved hvm h.2.2.2.2.1, hR _ _ _ _ h.2.2.2.2.2.1, hR _ _ _ _ h.2.2.2.2.2.2.1, vx_Zq.moved hvm h.2.2.2.2.2.2.2.1, vx_Zq.moved hvm h.2.2.2.2.2.2.2.2⟩
theorem xsr_kept {G : XG} {A : Nat → Prop} {U : State} {H H1 : Heap} (h : xsr G A U H) (hq : ∀ a : Nat, a < H.size → ¬ A a → H1[a]? = H[a]?) : xsr G A U H1 := ⟨vk_S.kept h.1 hq, h.2.1, h.2.2.1, h.2.2.2.1.kept hq, h.2.2.2.2.1.kept hq, h.2.2.2.2.2.1, h.2.2.2.2.2.2.1, h.2.2.2.2.2.2.2.1.kept hq, h.2.2.2.2.2.2.2.2.kept hq⟩
theorem xsr_narrow {G : XG} {A B : Nat → Prop} {U : State} {H : Heap} (h : xsr G A U H) (hAB : ∀ q, B q → A q) : xsr G B U H := ⟨vk_S.narrow h.1 hAB, h.2.1, h.2.2.1, h.2.2.2.1.narrow hAB, h.2.2.2.2.1.narrow hAB, h.2.2.2.2.2.1, h.2.2.2.2.2.2.1, h.2.2.2.2.2.2.2.1.narrow hAB, h.2.2.2.2.2.2.2.2.narrow hAB⟩
/-! the links between nest mates: they are no words that can be handed on, so they are carried -/
def xn_38 : Cond := Jvm.Cond.methodLinkNest "VoiceShaper" (42 : Nat) ({ cls := "VoiceShaper$Tape", name := "<init>", desc := "()V" } : Jvm.MethodName) "VoiceShaper"
def xn_55 : Cond := Jvm.Cond.methodLinkNest "VoiceShaper" (49 : Nat) ({ cls := "VoiceShaper$Calculator", name := "<init>", desc := "()V" } : Jvm.MethodName) "VoiceShaper"
def xn_69 : Cond := Jvm.Cond.methodLinkNest "VoiceShaper" (56 : Nat) ({ cls := "VoiceShaper$Shape", name := "<init>", desc := "()V" } : Jvm.MethodName) "VoiceShaper"
def xn_75 : Cond := Jvm.Cond.methodLinkNest "VoiceShaper$Shape" (11 : Nat) ({ cls := "VoiceShaper$Parting", name := "<init>", desc := "()V" } : Jvm.MethodName) "VoiceShaper"
def xn_197 : Cond := Jvm.Cond.methodLinkNest "VoiceShaper" (65 : Nat) ({ cls := "VoiceShaper$Manner", name := "<init>", desc := "()V" } : Jvm.MethodName) "VoiceShaper"
def xn_370 : Cond := Jvm.Cond.methodLinkNest "VoiceShaper$Tape" (19 : Nat) ({ cls := "VoiceShaper", name := "isWithin", desc := "(III)Z" } : Jvm.MethodName) "VoiceShaper"
def xn_434 : Cond := Jvm.Cond.methodLinkNest "VoiceShaper$Tokens" (57 : Nat) ({ cls := "VoiceShaper", name := "isWithin", desc := "(III)Z" } : Jvm.MethodName) "VoiceShaper"
def xn_570 : Cond := Jvm.Cond.methodLinkNest "VoiceShaper$Grammar" (62 : Nat) ({ cls := "VoiceShaper", name := "isWithin", desc := "(III)Z" } : Jvm.MethodName) "VoiceShaper"
def xn_643 : Cond := Jvm.Cond.fieldLinkNest "VoiceShaper$Shape" (52 : Nat) "VoiceShaper" "AT_FIRST" "[I" "VoiceShaper"
def xn_669 : Cond := Jvm.Cond.fieldLinkNest "VoiceShaper$Shape" (118 : Nat) "VoiceShaper" "LEAST_BY_LINE" "[I" "VoiceShaper"
def xn_671 : Cond := Jvm.Cond.fieldLinkNest "VoiceShaper$Shape" (121 : Nat) "VoiceShaper" "MOST_BY_LINE" "[I" "VoiceShaper"
def xn_673 : Cond := Jvm.Cond.methodLinkNest "VoiceShaper$Shape" (124 : Nat) ({ cls := "VoiceShaper", name := "bringWithin", desc := "(III)I" } : Jvm.MethodName) "VoiceShaper"
def xn_743 : Cond := Jvm.Cond.castable "java/util/NoSuchElementException" "java/util/NoSuchElementException"
def xn_745 : Cond := Jvm.Cond.declares ({ cls := "java/lang/RuntimeException", name := "<init>", desc := "(Ljava/lang/String;)V" } : Jvm.MethodName)
def xn_747 : Cond := Jvm.Cond.declares ({ cls := "java/lang/Exception", name := "<init>", desc := "(Ljava/lang/String;)V" } : Jvm.MethodName)
def xn_749 : Cond := Jvm.Cond.declares ({ cls := "java/lang/Throwable", name := "<init>", desc := "(Ljava/lang/String;)V" } : Jvm.MethodName)
def xnw (U : State) : Prop := va_Nw xn_38 U ∧ va_Nw xn_55 U ∧ va_Nw xn_69 U ∧ va_Nw xn_75 U ∧ va_Nw xn_197 U ∧ va_Nw xn_370 U ∧ va_Nw xn_434 U ∧ va_Nw xn_570 U ∧ va_Nw xn_643 U ∧ va_Nw xn_669 U ∧ va_Nw xn_671 U ∧ va_Nw xn_673 U ∧ va_Nw xn_743 U ∧ va_Nw xn_745 U ∧ va_Nw xn_747 U ∧ va_Nw xn_749 U ∧ va_AO "VoiceShaper$Manner" U ∧ va_AO "VoiceShaper$Reading" U ∧ xAOA U
theorem xnw_moved {s U : State} (hW : s.WarmedH U.vm) (h : xnw s) : xnw U := by
  obtain ⟨h38, h55, h69, h75, h197, h370, h434, h570, h643, h669, h671, h673, h743, h745, h747, h749, hm, hr, ha⟩ := h
  exact ⟨va_Nw.warmM hW h38, va_Nw.warmM hW h55, va_Nw.warmM hW h69, va_Nw.warmM hW h75, va_Nw.warmM hW h197, va_Nw.warmM hW h370, va_Nw.warmM hW h434, va_Nw.warmM hW h570, va_Nw.warmF hW h643, va_Nw.warmF hW h669, va_Nw.warmF hW h671, va_Nw.warmM hW h673, va_Nw.warmC hW h743, va_Nw.warmD hW h745, va_Nw.warmD hW h747, va_Nw.warmD hW h749, va_AO.moved hW.alike hm, va_AO.moved hW.alike hr, xAOA_moved hW.alike ha⟩
theorem xnw_same {s U : State} (hv : s.vm = U.vm) (h : xnw s) : xnw U := by
  obtain ⟨h38, h55, h69, h75, h197, h370, h434, h570, h643, h669, h671, h673, h743, h745, h747, h749, hm, hr, ha⟩ := h
  exact ⟨va_Nw.same rfl hv h38, va_Nw.same rfl hv h55, va_Nw.same rfl hv h69, va_Nw.same rfl hv h75, va_Nw.same rfl hv h197, va_Nw.same rfl hv h370, va_Nw.same rfl hv h434, va_Nw.same rfl hv h570, va_Nw.same rfl hv h643, va_Nw.same rfl hv h669, va_Nw.same rfl hv h671, va_Nw.same rfl hv h673, va_Nw.same rfl hv h743, va_Nw.same rfl hv h745, va_Nw.same rfl hv h747, va_Nw.same rfl hv h749, va_AO.moved (hv ▸ Vm.Alike.refl s.vm) hm, va_AO.moved (hv ▸ Vm.Alike.refl s.vm) hr, xAOA_moved (hv ▸ Vm.Alike.refl s.vm) ha⟩
theorem xnw_38 {U : State} (h : xnw U) : va_Nw xn_38 U := h.1
theorem xnw_55 {U : State} (h : xnw U) : va_Nw xn_55 U := h.2.1
theorem xnw_69 {U : State} (h : xnw U) : va_Nw xn_69 U := h.2.2.1
theorem xnw_75 {U : State} (h : xnw U) : va_Nw xn_75 U := h.2.2.2.1
theorem xnw_197 {U : State} (h : xnw U) : va_Nw xn_197 U := h.2.2.2.2.1
theorem xnw_370 {U : State} (h : xnw U) : va_Nw xn_370 U := h.2.2.2.2.2.1
theorem xnw_434 {U : State} (h : xnw U) : va_Nw xn_434 U := h.2.2.2.2.2.2.1
theorem xnw_570 {U : State} (h : xnw U) : va_Nw xn_570 U := h.2.2.2.2.2.2.2.1
theorem xnw_643 {U : State} (h : xnw U) : va_Nw xn_643 U := h.2.2.2.2.2.2.2.2.1
theorem xnw_669 {U : State} (h : xnw U) : va_Nw xn_669 U := h.2.2.2.2.2.2.2.2.2.1
theorem xnw_671 {U : State} (h : xnw U) : va_Nw xn_671 U := h.2.2.2.2.2.2.2.2.2.2.1
theorem xnw_673 {U : State} (h : xnw U) : va_Nw xn_673 U := h.2.2.2.2.2.2.2.2.2.2.2.1
theorem xnw_743 {U : State} (h : xnw U) : va_Nw xn_743 U := h.2.2.2.2.2.2.2.2.2.2.2.2.1
theorem xnw_745 {U : State} (h : xnw U) : va_Nw xn_745 U := h.2.2.2.2.2.2.2.2.2.2.2.2.2.1
theorem xnw_747 {U : State} (h : xnw U) : va_Nw xn_747 U := h.2.2.2.2.2.2.2.2.2.2.2.2.2.2.1
theorem xnw_749 {U : State} (h : xnw U) : va_Nw xn_749 U := h.2.2.2.2.2.2.2.2.2.2.2.2.2.2.2.1
theorem xnw_aoM {U : State} (h : xnw U) : va_AO "VoiceShaper$Manner" U := h.2.2.2.2.2.2.2.2.2.2.2.2.2.2.2.2.1
theorem xnw_aoR {U : State} (h : xnw U) : va_AO "VoiceShaper$Reading" U := h.2.2.2.2.2.2.2.2.2.2.2.2.2.2.2.2.2.1
theorem xnw_aoA {U : State} (h : xnw U) : xAOA U := h.2.2.2.2.2.2.2.2.2.2.2.2.2.2.2.2.2.2
/-! the static arrays: nobody writes them -/
def xsn : Nat → String := fun n => match n with
  | 0 => "LEAST_MARK"
  | 1 => "MOST_MARK"
  | 2 => "AT_FIRST"
  | 3 => "LEAST_BY_LINE"
  | _ => "MOST_BY_LINE"
def xsv : Nat → Nat → Int32 := fun n j => match n, j with
  | 0, 0 => 1
  | 0, 1 => 0
  | 0, 2 => 0
  | 1, 0 => 99
  | 1, 1 => 99
  | 1, 2 => 9
  | 2, 0 => 10
  | 2, 1 => 50
  | 2, 2 => 5
  | 3, 0 => 1
  | 3, 1 => (-999)
  | 3, 2 => 0
  | 4, 0 => 99
  | 4, 1 => 999
  | 4, 2 => 9
  | _, _ => 0
def xst (G : XG) (A : Nat → Prop) (U : State) (H : Heap) : Prop := (∀ n, n < 5 → va_Z "VoiceShaper" (xsn n) "[I" (.ref (G.2.2.2 n)) A U H ∧ va_T .int (G.2.2.2 n) 3 (fun j => .int (xsv n j)) A U H) ∧ xsr G A U H
theorem xst.moved {G : XG} {A : Nat → Prop} {u U : State} {H : Heap} (hvm : u.vm.Alike U.vm) (hR : ∀ (own : String) (k : Nat) (tx : String) (a : Nat), vk_R own k tx a u → vk_R own k tx a U) (h : xst G A u H) : xst G A U H := ⟨fun n hn => ⟨va_Z.moved hvm (h.1 n hn).1, va_T.moved hvm (h.1 n hn).2⟩, xsr_moved hvm hR h.2⟩
theorem xst.kept {G : XG} {A : Nat → Prop} {U : State} {H H1 : Heap} (h : xst G A U H) (hq : ∀ a : Nat, a < H.size → ¬ A a → H1[a]? = H[a]?) : xst G A U H1 := ⟨fun n hn => ⟨(h.1 n hn).1.kept hq, (h.1 n hn).2.kept hq⟩, xsr_kept h.2 hq⟩
theorem xst.narrow {G : XG} {A B : Nat → Prop} {U : State} {H : Heap} (h : xst G A U H) (hAB : ∀ q, B q → A q) : xst G B U H := ⟨fun n hn => ⟨(h.1 n hn).1.narrow hAB, (h.1 n hn).2.narrow hAB⟩, xsr_narrow h.2 hAB⟩
/-! THE WORLD IN THE HEAP -/
def xval (X : XW) (a ci k : Nat) : Value := if xfr ci k = true then va_rf (xR X a k) else .int (xI X a k)
def xarr (X : XW) (a t : Nat) : vp_A := (xLn X a, if t = 2 then .inr (.inl (xL X a)) else if 4 ≤ t then .inr (.inr (.inr (.inr (xQ X a)))) else .inl (xA X a))
def xAty : Nat → FieldType := fun t => match t with
  | 0 => .byte
  | 1 => .int
  | 2 => .long
  | 3 => .boolean
  | 4 => .object "VoiceShaper$Manner"
  | 5 => .object "VoiceShaper$Reading"
  | _ => .array .int
def xat (G : XG) (X : XW) (H : Heap) (a : Nat) : Prop :=
  (∀ (ci : Nat) (r : vw_C), xKd X a = ci + 1 → vwCl[ci]? = some r → t_OB a (G.1 ci) r.2.2 (G.2.1 ci) H (xval X a ci)) ∧
  (∀ t : Nat, xKd X a = 20 + t → H[a]? = some (vp_cell (G.2.2.1 t) (xarr X a t))) ∧
  (xKd X a ≠ 0 → a < H.size)
def xw (G : XG) (X : XW) (H : Heap) : Prop := H.size = xZ X ∧ ∀ a, xat G X H a
def xtys (G : XG) : List (ClassId × FieldType) := [(G.2.2.1 0, .byte), (G.2.2.1 1, .int), (G.2.2.1 2, .long), (G.2.2.1 3, .boolean), (G.2.2.1 4, .object "VoiceShaper$Manner"), (G.2.2.1 5, .object "VoiceShaper$Reading"), (G.2.2.1 6, .array .int)]
def xk (G : XG) (U : State) : Prop := va_K (G.1, G.2.1) vwCl (xtys G) U ∧ xnw U
theorem xk.moved {G : XG} {s U : State} (hW : s.WarmedH U.vm) (h : xk G s) : xk G U := ⟨va_K.moved hW.alike h.1, xnw_moved hW h.2⟩
/-- the cells that may change from X on -/
def xAd (X : XW) : Nat → Prop := fun q => xKd X q ≠ 0 ∨ xZ X ≤ q
def XPre (G : XG) (X : XW) (U : State) : Prop := xw G X U.heap ∧ xk G U ∧ xst G (xAd X) U U.heap
def XQ (G : XG) (X : XW) (r : Option Value × XW) : Array Value → State → Outcome → State → Prop := fun _ st oc t => oc = .returned r.1 ∧ xw G r.2 t.heap ∧ (∀ a, xKd r.2 a ≠ 0 → xAd X a) ∧ va_F (xAd X) st t
def XM (l : Launch) (G : XG) (y : MethodName) (cc : ByteArray) (maxL : Nat) (ret : Option FieldType) (fr lo mc ms : Nat) (As : List Value) (X : XW) (r : Option Value × XW) : Prop :=
  Met l y (.code y cc maxL ret :: xws) { frames := fr, cells := mc, slots := ms, locals := lo } (va_Pc As (XPre G X)) (XQ G X r) mc ms (xAd X)
/-- what holds of the method's frame all along -/
def XC (p : Program) (s : State) (m : MethodId) (args : Array Value) (meth : Method) (c : Code) (own : String) (cc : ByteArray) (nL : Nat) (G : XG) : Prop :=
  p.tables.exec = Jvm.exec ∧ c.code = cc ∧ c.maxLocals = nL ∧ s.vm.findClass own = some m.cls ∧ (∀ w ∈ xws, w.before args s = true) ∧ xk G s ∧ meth.locks = false
/-- what holds of the heap now -/
def XD (G : XG) (X0 X : XW) (s : State) (H : Heap) (locs : List Loc) : Prop :=
  xw G X H ∧ (∀ a, xKd X a ≠ 0 → xAd X0 a) ∧ va_S (xAd X0) s.heap H locs ∧ xZ X0 = s.heap.size ∧ xst G (xAd X0) s s.heap
theorem xarr_i {X : XW} {a t : Nat} (h : t = 0 ∨ t = 1 ∨ t = 3) : xarr X a t = (xLn X a, .inl (xA X a)) := by
  rcases h with rfl | rfl | rfl <;> rfl
theorem xarr_l {X : XW} {a : Nat} : xarr X a 2 = (xLn X a, .inr (.inl (xL X a))) := rfl
theorem xarr_q {X : XW} {a t : Nat} (h : 4 ≤ t) : xarr X a t = (xLn X a, .inr (.inr (.inr (.inr (xQ X a))))) := by
  unfold xarr
  rw [if_neg (by omega), if_pos h]
/-- X1 is X but at the cell a -/
def xbut (a : Nat) (X X1 : XW) : Prop := xZ X1 = xZ X ∧ (∀ b, X1.2.1 b = X.2.1 b) ∧ ∀ b, b ≠ a → xI X1 b = xI X b ∧ xR X1 b = xR X b ∧ xA X1 b = xA X b ∧ xL X1 b = xL X b ∧ xQ X1 b = xQ X b
theorem x2_ne {α : Type} {f : Nat → Nat → α} {a k b : Nat} {v : α} (h : b ≠ a) : x2 f a k v b = f b := by
  funext j
  simp [x2, h]
theorem x2_eq {α : Type} {f : Nat → Nat → α} {a k : Nat} {v : α} : x2 f a k v a = va_up (f a) k v := by
  funext j
  simp [x2, va_up]
theorem wI_but (X : XW) (a k : Nat) (v : Int32) : xbut a X (wI X a k v) := ⟨rfl, fun _ => rfl, fun b h => ⟨funext fun j => congrFun (x2_ne h) j, rfl, rfl, rfl, rfl⟩⟩
theorem wR_but (X : XW) (a k : Nat) (v : Option Nat) : xbut a X (wR X a k v) := ⟨rfl, fun _ => rfl, fun b h => ⟨rfl, funext fun j => congrFun (x2_ne h) j, rfl, rfl, rfl⟩⟩
theorem wA_but (X : XW) (a k : Nat) (v : Int32) : xbut a X (wA X a k v) := ⟨rfl, fun _ => rfl, fun b h => ⟨rfl, rfl, funext fun j => congrFun (x2_ne h) j, rfl, rfl⟩⟩
theorem wL_but (X : XW) (a k : Nat) (v : Int64) : xbut a X (wL X a k v) := ⟨rfl, fun _ => rfl, fun b h => ⟨rfl, rfl, rfl, funext fun j => congrFun (x2_ne h) j, rfl⟩⟩
theorem wQ_but (X : XW) (a k : Nat) (v : Option Nat) : xbut a X (wQ X a k v) := ⟨rfl, fun _ => rfl, fun b h => ⟨rfl, rfl, rfl, rfl, funext fun j => congrFun (x2_ne h) j⟩⟩
theorem xbut.kd {a : Nat} {X X1 : XW} (h : xbut a X X1) (b : Nat) : xKd X1 b = xKd X b := congrArg Prod.fst (h.2.1 b)
theorem xbut.ln {a : Nat} {X X1 : XW} (h : xbut a X X1) (b : Nat) : xLn X1 b = xLn X b := congrArg Prod.snd (h.2.1 b)
theorem xat.kept {G : XG} {X X1 : XW} {H H1 : Heap} {b : Nat} (h : xat G X H b) (hk : X1.2.1 b = X.2.1 b) (e1 : xI X1 b = xI X b) (e2 : xR X1 b = xR X b) (e3 : xA X1 b = xA X b) (e4 : xL X1 b = xL X b) (e5 : xQ X1 b = xQ X b) (hH : xKd X b ≠ 0 → H1[b]? = H[b]?) (hz : H.size ≤ H1.size) : xat G X1 H1 b := by
  have kd : xKd X1 b = xKd X b := congrArg Prod.fst hk
  have ln : xLn X1 b = xLn X b := congrArg Prod.snd hk
  refine ⟨fun ci r h1 h2 => ?_, fun t h1 => ?_, fun h1 => ?_⟩
  · have hv : xval X1 b ci = xval X b ci := by funext k; unfold xval; rw [e1, e2]
    rw [hv]
    rw [kd] at h1
    exact (h.1 ci r h1 h2).kept (hH (by omega))
  · rw [kd] at h1
    have hv : xarr X1 b t = xarr X b t := by unfold xarr; rw [ln, e3, e4, e5]
    rw [hv, hH (by omega)]
    exact h.2.1 t h1
  · rw [kd] at h1
    exact Nat.lt_of_lt_of_le (h.2.2 h1) hz
theorem XD.put {G : XG} {X0 X X1 : XW} {s : State} {H H1 : Heap} {locs : List Loc} {a i : Nat} (h : XD G X0 X s H locs) (hX : xbut a X X1) (hk : xKd X a ≠ 0) (z : H1.size = H.size) (oq : ∀ q : Nat, q ≠ a → H1[q]? = H[q]?) (ha : xat G X1 H1 a) : XD G X0 X1 s H1 (locs ++ [⟨a, i⟩]) := by
  obtain ⟨⟨h1, h2⟩, h3, h4, h5, h6⟩ := h
  refine ⟨⟨z.trans (h1.trans hX.1.symm), fun b => ?_⟩, fun b hb => h3 b (by rw [← hX.kd b]; exact hb), h4.put z oq (h3 a hk), h5, h6⟩
  by_cases hb : b = a
  · subst hb; exact ha
  · obtain ⟨e1, e2, e3, e4, e5⟩ := hX.2.2 b hb
    exact (h2 b).kept (hX.2.1 b) e1 e2 e3 e4 e5 (fun _ => oq b hb) (Nat.le_of_eq z.symm)
theorem XD.fresh {G : XG} {X0 X : XW} {s : State} {H H1 : Heap} {locs : List Loc} {kd len : Nat} (h : XD G X0 X s H locs) (z : H1.size = H.size + 1) (oq : ∀ q : Nat, q < H.size → H1[q]? = H[q]?) (ha : xat G (wN X kd len) H1 H.size) : XD G X0 (wN X kd len) s H1 locs := by
  obtain ⟨⟨h1, h2⟩, h3, h4, h5, h6⟩ := h
  have hX1 : X.1 = H.size := h1.symm
  refine ⟨⟨by rw [z, h1]; rfl, fun b => ?_⟩, fun b hb => ?_, ⟨Nat.le_trans h4.1 (by omega), fun q q1 q2 => (oq q (Nat.lt_of_lt_of_le q1 h4.1)).trans (h4.2.1 q q1 q2), h4.2.2⟩, h5, h6⟩
  · by_cases hb : b = H.size
    · rw [hb]; exact ha
    · have hb' : b ≠ X.1 := by rw [hX1]; exact hb
      have e0 : (wN X kd len).2.1 b = X.2.1 b := if_neg hb'
      refine (h2 b).kept e0 (funext fun j => if_neg hb') (funext fun j => if_neg hb') (funext fun j => if_neg hb') (funext fun j => if_neg hb') (funext fun j => if_neg hb') (fun q => oq b ((h2 b).2.2 q)) (by omega)
  · by_cases e : b = X.1
    · right; rw [h5, e, hX1]; exact h4.1
    · have e0 : (wN X kd len).2.1 b = X.2.1 b := if_neg e
      exact h3 b (by unfold xKd at hb ⊢; rw [e0] at hb; exact hb)
theorem xAd_sub {G : XG} {X0 X : XW} {s : State} {H : Heap} {locs : List Loc} (h : XD G X0 X s H locs) : ∀ q, xAd X q → xAd X0 q := by
  obtain ⟨⟨h1, h2⟩, h3, h4, h5, h6⟩ := h
  intro q hq
  rcases hq with hq | hq
  · exact h3 q hq
  · right; rw [h5]; exact Nat.le_trans h4.1 (by rw [h1]; exact hq)
section XR
variable {p : Program} {l : Launch} {e : Env} {R : Room} {s : State} {m : MethodId} {args : Array Value} {below : List Frame} {meth : Method} {c : Code} {H : Heap} {locs : List Loc} {cells slots : Nat} {Q : State → Prop}
variable {own : String} {cc : ByteArray} {nL : Nat} {G : XG} {X0 X : XW} {pc : Nat} {ls : Array Slot} {rest : List Value}
variable {ci : Nat} {C : String} {T : u_T} {N : Nat} {ty : Nat → FieldType}
theorem xr_get0 (C0 : XC p s m args meth c own cc nL G) (W0 : XD G X0 X s H locs) (hc : XCl ci C T N ty) (k : Nat) (hk : k < N) {idx : Nat} (hl : Cond.fieldLink own idx (T k).1 (T k).2.1 (T k).2.2.1 ∈ xws) {a : Nat} {v : Value} (hkd : xKd X a = ci + 1) (hv : xval X a ci k = v) (hdg : decode cc pc = .ok (.getfield idx, 3))
    (kk : W p l e R s m args below meth c H locs cells slots Q (F0 m (pc + 3) ls (v :: rest))) : W p l e R s m args below meth c H locs cells slots Q (F0 m pc ls (.ref a :: rest)) := by
  obtain ⟨hx, hb, -, hown, hts, hK, -⟩ := C0
  obtain ⟨hc1, hc2, hc3, hc4⟩ := hc
  obtain ⟨cell, q1, q2, q3, q4⟩ := (W0.1.2 a).1 ci _ hkd hc1
  obtain ⟨hS, hfc, kC, hkC, hkind⟩ := hK.1.1 ci _ hc1
  obtain ⟨cf, kf, fi, f, hi, hsl⟩ := hS k hk
  refine W.getf hx hb hown (hts _ hl) hi (u_facts hfc hkC (u_lays hts hc2 hk) hi).1 q1 (by rw [q3]; exact fun h => by cases h) (v := v) ?_ rfl rfl hdg kk
  rw [hsl, q4 k hk, hv]
theorem xr_getI (C0 : XC p s m args meth c own cc nL G) (W0 : XD G X0 X s H locs) (hc : XCl ci C T N ty) (k : Nat) (hk : k < N) {idx : Nat} (hl : Cond.fieldLink own idx (T k).1 (T k).2.1 (T k).2.2.1 ∈ xws) (hf : xfr ci k = false) {a : Nat} {v : Int32} (hg : gI X a ci k = some v) (hdg : decode cc pc = .ok (.getfield idx, 3))
    (kk : W p l e R s m args below meth c H locs cells slots Q (F0 m (pc + 3) ls (.int v :: rest))) : W p l e R s m args below meth c H locs cells slots Q (F0 m pc ls (.ref a :: rest)) := by
  unfold gI at hg
  split at hg
  · rename_i hkd
    cases hg
    exact xr_get0 C0 W0 hc k hk hl hkd (by unfold xval; rw [hf]; rfl) hdg kk
  · cases hg
theorem xr_getR (C0 : XC p s m args meth c own cc nL G) (W0 : XD G X0 X s H locs) (hc : XCl ci C T N ty) (k : Nat) (hk : k < N) {idx : Nat} (hl : Cond.fieldLink own idx (T k).1 (T k).2.1 (T k).2.2.1 ∈ xws) (hf : xfr ci k = true) {a v : Nat} (hg : gR X a ci k = some v) (hdg : decode cc pc = .ok (.getfield idx, 3))
    (kk : W p l e R s m args below meth c H locs cells slots Q (F0 m (pc + 3) ls (.ref v :: rest))) : W p l e R s m args below meth c H locs cells slots Q (F0 m pc ls (.ref a :: rest)) := by
  unfold gR at hg
  split at hg
  · rename_i hkd
    exact xr_get0 C0 W0 hc k hk hl hkd (by unfold xval; rw [hf, if_pos rfl, hg]; rfl) hdg kk
  · cases hg
/-- the fields of a, the k-th changed -/
theorem xob_put {cell : Cell} {iS : Nat → Nat} {cC : ClassId} {X1 : XW} {H1 : Heap} {a k : Nat} {v : Value} (q2 : cell.cls = cC) (q3 : cell.vm = .none) (q4 : ∀ k, k < N → cell.slots[iS k]? = some (xval X a ci k)) (hap : ∀ a b, a < N → b < N → a ≠ b → iS a ≠ iS b) (hk : k < N) (e1 : H1[a]? = some (cell.setSlot (iS k) v)) (hv : ∀ j, xval X1 a ci j = updV (xval X a ci) k v j) : t_OB a cC N iS H1 (xval X1 a ci) :=
  t_OB.to (V := updV (xval X a ci) k v) ⟨_, e1, q2, q3, t_set q4 hap hk v⟩ (fun j _ => (hv j).symm)
theorem xr_put0 (C0 : XC p s m args meth c own cc nL G) (W0 : XD G X0 X s H locs) (hc : XCl ci C T N ty) (k : Nat) (hk : k < N) {idx : Nat} (hl : Cond.fieldLink own idx (T k).1 (T k).2.1 (T k).2.2.1 ∈ xws) (hfin : (T k).2.2.2 = false ∨ ((T k).2.2.2 = true ∧ meth.name = "<init>" ∧ (T k).1 = own)) {a : Nat} {v : Value} {X1 : XW} (hkd : xKd X a = ci + 1) (hci : ci < 11) (hX : xbut a X X1) (hv : ∀ j, xval X1 a ci j = updV (xval X a ci) k v j) (hn : narrow (ty k) v = v) (hfit : fits (ty k) v = true) (hdg : decode cc pc = .ok (.putfield idx, 3))
    (kk : ∀ (H1 : Heap) (locs1 : List Loc), XD G X0 X1 s H1 locs1 → W p l e R s m args below meth c H1 locs1 cells slots Q (F0 m (pc + 3) ls rest)) : W p l e R s m args below meth c H locs cells slots Q (F0 m pc ls (v :: .ref a :: rest)) := by
  obtain ⟨hx, hb, -, hown, hts, hK, -⟩ := C0
  obtain ⟨hc1, hc2, hc3, hc4⟩ := hc
  have hap := va_apart (own := own) hts hc2 ty hc3 hc4 hK.1 hc1
  obtain ⟨cell, q1, q2, q3, q4⟩ := (W0.1.2 a).1 ci _ hkd hc1
  obtain ⟨hS, hfc, kC, hkC, hkind⟩ := hK.1.1 ci _ hc1
  obtain ⟨cf, kf, fi, f, hi, hsl⟩ := hS k hk
  have hst := (u_facts hfc hkC (u_lays hts hc2 hk) hi).1
  have hlay := hts _ (hc2 _ (u_in_lay hk))
  have fin : ∀ H' : Heap, H'[a]? = some (cell.setSlot f.slot v) → H'.size = H.size → (∀ q, q ≠ a → H'[q]? = H[q]?) → W p l e R s m args below meth c H' (locs ++ [⟨a, f.slot⟩]) cells slots Q (F0 m (pc + 3) ls rest) := by
    intro H' e1 e2 e3
    refine kk H' _ (W0.put hX (by omega) e2 e3 ⟨fun ci' r' h1 h2 => ?_, fun t h1 => ?_, fun _ => ?_⟩)
    · have hci' : ci' = ci := by rw [hX.kd a, hkd] at h1; omega
      subst hci'
      cases hc1.symm.trans h2
      rw [hsl] at e1
      exact xob_put q2 q3 q4 hap hk e1 hv
    · rw [hX.kd a, hkd] at h1; omega
    · exact (Array.getElem?_eq_some_iff.mp e1).1
  unfold u_lay at hlay
  rcases hfin with hfin | ⟨hfin, hin2, hdecl⟩
  · rw [if_neg (by rw [hfin]; decide)] at hlay
    have h6 := u_store hfc hkC hkind hlay hi (hc3 k hk) hn hfit
    exact W.putK hx hb (f := f) ⟨hown, hts _ hl, ⟨_, _, _, hi⟩, hst⟩ (by rw [q2]; exact h6) q1 q3 (by rw [hsl]; exact k2_hasslot (q4 k hk)) rfl rfl hdg fin
  · rw [if_pos hfin] at hlay
    have hcf : m.cls = cf := by
      obtain ⟨_, _, c', _, _, _, -, -, hf', -, -, -, hown2, -⟩ := Cond.laysFinal_spec hlay
      have e1 : c' = cf := by have := hi.symm.trans hf'; simp at this; exact this.1.symm
      rw [hdecl] at hown2
      rw [← e1]; exact Option.some.inj (hown.symm.trans hown2)
    have h6 := u_fits hfc hkC hkind (Or.inr hlay) hi (hc3 k hk) hn hfit
    exact W.putFinK hx hb hown (hts _ hl) hi hst hcf hin2 (by rw [q2]; exact h6) q1 q3 (by rw [hsl]; exact k2_hasslot (q4 k hk)) rfl rfl hdg fin
theorem xval_wI {a k : Nat} {v : Int32} (hf : xfr ci k = false) (j : Nat) : xval (wI X a k v) a ci j = updV (xval X a ci) k (.int v) j := by
  unfold updV xval
  by_cases hj : j = k
  · subst hj; simp [hf, xI, wI, x2]
  · simp [hj, xI, wI, x2, xR]
theorem xval_wR {a k : Nat} {v : Option Nat} (hf : xfr ci k = true) (j : Nat) : xval (wR X a k v) a ci j = updV (xval X a ci) k (va_rf v) j := by
  unfold updV xval
  by_cases hj : j = k
  · subst hj; simp [hf, xR, wR, x2]
  · simp [hj, xR, wR, x2, xI]
theorem xr_putI (C0 : XC p s m args meth c own cc nL G) (W0 : XD G X0 X s H locs) (hc : XCl ci C T N ty) (k : Nat) (hk : k < N) {idx : Nat} (hl : Cond.fieldLink own idx (T k).1 (T k).2.1 (T k).2.2.1 ∈ xws) (hfin : (T k).2.2.2 = false) (hf : xfr ci k = false) (hty : ty k = .int) {a : Nat} {v : Int32} {X1 : XW} (hci : ci < 11) (hp : pI X a ci k v = some X1) (hdg : decode cc pc = .ok (.putfield idx, 3))
    (kk : ∀ (H1 : Heap) (locs1 : List Loc), XD G X0 X1 s H1 locs1 → W p l e R s m args below meth c H1 locs1 cells slots Q (F0 m (pc + 3) ls rest)) : W p l e R s m args below meth c H locs cells slots Q (F0 m pc ls (.int v :: .ref a :: rest)) := by
  unfold pI at hp
  split at hp
  · rename_i hkd
    cases hp
    exact xr_put0 C0 W0 hc k hk hl (Or.inl hfin) hkd hci (wI_but X a k v) (xval_wI hf) (by rw [hty]; rfl) (by rw [hty]; rfl) hdg kk
  · cases hp
theorem xr_putZ (C0 : XC p s m args meth c own cc nL G) (W0 : XD G X0 X s H locs) (hc : XCl ci C T N ty) (k : Nat) (hk : k < N) {idx : Nat} (hl : Cond.fieldLink own idx (T k).1 (T k).2.1 (T k).2.2.1 ∈ xws) (hfin : (T k).2.2.2 = false) (hf : xfr ci k = false) (hty : ty k = .boolean) {a : Nat} {v : Int32} {X1 : XW} (hci : ci < 11) (hp : pZ X a ci k v = some X1) (hdg : decode cc pc = .ok (.putfield idx, 3))
    (kk : ∀ (H1 : Heap) (locs1 : List Loc), XD G X0 X1 s H1 locs1 → W p l e R s m args below meth c H1 locs1 cells slots Q (F0 m (pc + 3) ls rest)) : W p l e R s m args below meth c H locs cells slots Q (F0 m pc ls (.int v :: .ref a :: rest)) := by
  unfold pZ at hp
  split at hp
  · rename_i hkd
    cases hp
    refine xr_put0 C0 W0 hc k hk hl (Or.inl hfin) hkd.1 hci (wI_but X a k v) (xval_wI hf) ?_ ?_ hdg kk
    · rw [hty]; rcases hkd.2 with rfl | rfl <;> decide
    · rw [hty]; rcases hkd.2 with rfl | rfl <;> decide
  · cases hp
theorem xr_putR (C0 : XC p s m args meth c own cc nL G) (W0 : XD G X0 X s H locs) (hc : XCl ci C T N ty) (k : Nat) (hk : k < N) {idx : Nat} (hl : Cond.fieldLink own idx (T k).1 (T k).2.1 (T k).2.2.1 ∈ xws) (hfin : (T k).2.2.2 = false ∨ ((T k).2.2.2 = true ∧ meth.name = "<init>" ∧ (T k).1 = own)) (hf : xfr ci k = true) {a v : Nat} (hty : narrow (ty k) (.ref v) = .ref v ∧ fits (ty k) (.ref v) = true) {X1 : XW} (hci : ci < 11) (hp : pR X a ci k v = some X1) (hdg : decode cc pc = .ok (.putfield idx, 3))
    (kk : ∀ (H1 : Heap) (locs1 : List Loc), XD G X0 X1 s H1 locs1 → W p l e R s m args below meth c H1 locs1 cells slots Q (F0 m (pc + 3) ls rest)) : W p l e R s m args below meth c H locs cells slots Q (F0 m pc ls (.ref v :: .ref a :: rest)) := by
  unfold pR at hp
  split at hp
  · rename_i hkd
    cases hp
    exact xr_put0 C0 W0 hc k hk hl hfin hkd hci (wR_but X a k (some v)) (xval_wR hf) hty.1 hty.2 hdg kk
  · cases hp
end XR
