/-! THE SPLIT WORLD: what the cells of the system hold, by address: sizes, kinds, int fields, ref fields, int arrays, long arrays, ref arrays -/
abbrev XG : Type := (Nat → ClassId) × (Nat → Nat → Nat) × (Nat → ClassId) × (Nat → Nat)
abbrev XW : Type := Nat × (Nat → Nat × Nat) × (Nat → Nat → Int32) × (Nat → Nat → Option Nat) × (Nat → Nat → Int32) × (Nat → Nat → Int64) × (Nat → Nat → Option Nat)
def xZ (X : XW) : Nat := X.1
def xKd (X : XW) (a : Nat) : Nat := (X.2.1 a).1
def xLn (X : XW) (a : Nat) : Nat := (X.2.1 a).2
def xI (X : XW) (a k : Nat) : Int32 := X.2.2.1 a k
def xR (X : XW) (a k : Nat) : Option Nat := X.2.2.2.1 a k
def xA (X : XW) (a i : Nat) : Int32 := X.2.2.2.2.1 a i
def xL (X : XW) (a i : Nat) : Int64 := X.2.2.2.2.2.1 a i
def xQ (X : XW) (a i : Nat) : Option Nat := X.2.2.2.2.2.2 a i
def x2 {α : Type} (f : Nat → Nat → α) (a k : Nat) (v : α) : Nat → Nat → α := fun b j => if b = a ∧ j = k then v else f b j
def wI (X : XW) (a k : Nat) (v : Int32) : XW := (X.1, X.2.1, x2 X.2.2.1 a k v, X.2.2.2)
def wR (X : XW) (a k : Nat) (v : Option Nat) : XW := (X.1, X.2.1, X.2.2.1, x2 X.2.2.2.1 a k v, X.2.2.2.2)
def wA (X : XW) (a i : Nat) (v : Int32) : XW := (X.1, X.2.1, X.2.2.1, X.2.2.2.1, x2 X.2.2.2.2.1 a i v, X.2.2.2.2.2)
def wL (X : XW) (a i : Nat) (v : Int64) : XW := (X.1, X.2.1, X.2.2.1, X.2.2.2.1, X.2.2.2.2.1, x2 X.2.2.2.2.2.1 a i v, X.2.2.2.2.2.2)
def wQ (X : XW) (a i : Nat) (v : Option Nat) : XW := (X.1, X.2.1, X.2.2.1, X.2.2.2.1, X.2.2.2.2.1, X.2.2.2.2.2.1, x2 X.2.2.2.2.2.2 a i v)
def x1 {α : Type} (f : Nat → Nat → α) (a : Nat) (v : α) : Nat → Nat → α := fun b j => if b = a then v else f b j
/-- a new cell, at the heap's end: all its places at their defaults -/
def wN (X : XW) (kd len : Nat) : XW := (X.1 + 1, (fun b => if b = X.1 then (kd, len) else X.2.1 b), x1 X.2.2.1 X.1 0, x1 X.2.2.2.1 X.1 none, x1 X.2.2.2.2.1 X.1 0, x1 X.2.2.2.2.2.1 X.1 0, x1 X.2.2.2.2.2.2 X.1 none)
/-! what a method may ask of the world: none where it would throw -/
def gK (X : XW) (a ci : Nat) : Option Unit := if xKd X a = ci + 1 then some () else none
def gI (X : XW) (a ci k : Nat) : Option Int32 := if xKd X a = ci + 1 then some (xI X a k) else none
def gR (X : XW) (a ci k : Nat) : Option Nat := if xKd X a = ci + 1 then xR X a k else none
def pI (X : XW) (a ci k : Nat) (v : Int32) : Option XW := if xKd X a = ci + 1 then some (wI X a k v) else none
def pZ (X : XW) (a ci k : Nat) (v : Int32) : Option XW := if xKd X a = ci + 1 ∧ (v = 0 ∨ v = 1) then some (wI X a k v) else none
def pR (X : XW) (a ci k v : Nat) : Option XW := if xKd X a = ci + 1 then some (wR X a k (some v)) else none
def aI (X : XW) (a t : Nat) (i : Int32) : Option Int32 := if xKd X a = 20 + t ∧ ¬ (i < 0 ∨ xLn X a ≤ i.toNatClampNeg) then some (xA X a i.toNatClampNeg) else none
def aL (X : XW) (a : Nat) (i : Int32) : Option Int64 := if xKd X a = 22 ∧ ¬ (i < 0 ∨ xLn X a ≤ i.toNatClampNeg) then some (xL X a i.toNatClampNeg) else none
def aQ (X : XW) (a t : Nat) (i : Int32) : Option Nat := if xKd X a = 20 + t ∧ ¬ (i < 0 ∨ xLn X a ≤ i.toNatClampNeg) then xQ X a i.toNatClampNeg else none
def uI (X : XW) (a : Nat) (i v : Int32) : Option XW := if xKd X a = 21 ∧ ¬ (i < 0 ∨ xLn X a ≤ i.toNatClampNeg) then some (wA X a i.toNatClampNeg v) else none
def uB (X : XW) (a : Nat) (i v : Int32) : Option XW := if xKd X a = 20 ∧ ¬ (i < 0 ∨ xLn X a ≤ i.toNatClampNeg) then some (wA X a i.toNatClampNeg (vp_nar .byte v)) else none
def uZ (X : XW) (a : Nat) (i v : Int32) : Option XW := if xKd X a = 23 ∧ ¬ (i < 0 ∨ xLn X a ≤ i.toNatClampNeg) then some (wA X a i.toNatClampNeg (vp_nar .boolean v)) else none
def uL (X : XW) (a : Nat) (i : Int32) (v : Int64) : Option XW := if xKd X a = 22 ∧ ¬ (i < 0 ∨ xLn X a ≤ i.toNatClampNeg) then some (wL X a i.toNatClampNeg v) else none
/-- a reference stored: the array's kind t, the object's class ci -/
def uQ (X : XW) (a t ci : Nat) (i : Int32) (v : Nat) : Option XW := if xKd X a = 20 + t ∧ xKd X v = ci + 1 ∧ ¬ (i < 0 ∨ xLn X a ≤ i.toNatClampNeg) then some (wQ X a i.toNatClampNeg (some v)) else none
def aN (X : XW) (a : Nat) : Option Int32 := if 20 ≤ xKd X a then some (Int32.ofNat (xLn X a)) else none
/-- new arrays of kind t with n places, at most M -/
def nA (X : XW) (t M : Nat) (n : Int32) : Option (Nat × XW) := if ¬ n < 0 ∧ n.toNatClampNeg ≤ M then some (X.1, wN X (20 + t) n.toNatClampNeg) else none
def nO (X : XW) (ci : Nat) : Nat × XW := (X.1, wN X (ci + 1) 0)
def iD (x y : Int32) : Option Int32 := if y = 0 then none else some (x / y)
def iM (x y : Int32) : Option Int32 := if y = 0 then none else some (x - x / y * y)
theorem ob {α β : Type} {o : Option α} {f : α → Option β} {r : β} (h : (o >>= f) = some r) : ∃ x, o = some x ∧ f x = some r := by
  cases o with
  | none => cases h
  | some x => exact ⟨x, rfl, h⟩
/-! the words of the tables that may be handed on -/
def xws : List Cond := lw_tbl.filter goodWord
theorem xws_in {w : Cond} (h : w ∈ lw_tbl) (hg : goodWord w = true) : w ∈ xws := List.mem_filter.mpr ⟨h, hg⟩
theorem xws_t {w : Cond} (i : Nat) (h : tables_1[i]? = some w) (hg : goodWord w = true) : w ∈ xws := xws_in (List.mem_append_right _ (List.mem_of_getElem? h)) hg
theorem xws_s {w : Cond} (i : Nat) (h : (k2_sels lw_privs)[i]? = some w) (hg : goodWord w = true) : w ∈ xws := xws_in (List.mem_append_left _ (List.mem_of_getElem? h)) hg
theorem xws_good {w : Cond} (h : w ∈ xws) : goodWord w = true := (List.mem_filter.mp h).2
theorem xws_gi {y : MethodName} {cc cc2 : ByteArray} {n n2 : Nat} {r r2 : Option FieldType} {y2 : MethodName} (h : Cond.code y cc n r ∈ xws) : GoodIn xws (Cond.code y cc n r :: xws) := fun w hw => (List.mem_cons.mp hw).elim (fun e => by rw [e]; exact ⟨h, good_of_word (xws_good h)⟩) (fun q => ⟨q, good_of_word (xws_good q)⟩)
def xAOA (U : State) : Prop := (Cond.arrayOver (.array .int)).before #[] U = true
theorem xAOA_moved {u U : State} (hvm : u.vm.Alike U.vm) (h : xAOA u) : xAOA U := by
  obtain ⟨comp, c, k, h1, h2, h3, h4, h5⟩ := arrayOverA_spec h
  obtain ⟨k', hk', he⟩ := hvm.2.2 _ _ h3
  have hi : (U.vm.classes.findIdx? fun (x : Class) => match x.kind with | .array component _ => component == comp | _ => false) = some c := by
    have hb : U.vm.bare = u.vm.bare := by first | exact hvm.bare_eq | exact hvm.bare_eq.symm
    refine Eq.trans (va_idx_bare U.vm comp).symm ?_
    rw [hb]
    exact (va_idx_bare u.vm comp).trans h2
  have hkind : k'.kind = .array comp (.array .int) := by rw [he]; exact h4
  have f1 : U.vm.findClass (FieldType.array .int).toString = some comp := by rw [hvm.findClass]; exact h1
  have f2 : U.vm.findClass ("[" ++ (FieldType.array .int).toString) = some c := by rw [hvm.findClass]; exact h5
  unfold xAOA Cond.before Cond.holds
  simp only [Cond.value]
  rw [f1, Option.bind_some]
  refine (congrArg (fun o : Option Nat => (o.bind (fun c => (U.vm.classes[c]?).map fun (k : Class) => match k.kind with | .array _ ty => decide (ty = FieldType.array .int) && decide (U.vm.findClass ("[" ++ (FieldType.array .int).toString) = some c) | _ => false) == some true)) hi).trans ?_
  simp [hk', hkind, f2]
/-- the constant texts: to be said -/
def xsr (_ : XG) (_ : Nat → Prop) (_ : State) (_ : Heap) : Prop := True
theorem xsr_moved {G : XG} {A : Nat → Prop} {u U : State} {H : Heap} (hvm : u.vm.Alike U.vm) (h : xsr G A u H) : xsr G A U H := h
theorem xsr_kept {G : XG} {A : Nat → Prop} {U : State} {H H1 : Heap} (h : xsr G A U H) (hq : ∀ a : Nat, a < H.size → ¬ A a → H1[a]? = H[a]?) : xsr G A U H1 := h
theorem xsr_narrow {G : XG} {A B : Nat → Prop} {U : State} {H : Heap} (h : xsr G A U H) (hAB : ∀ q, B q → A q) : xsr G B U H := h
/-! the links between nest mates: they are no words that can be handed on, so they are carried -/
def xn_38 : Cond := Jvm.Cond.methodLinkNest "VoiceShaper" (42 : Nat) ({ cls := "VoiceShaper$Tape", name := "<init>", desc := "()V" } : Jvm.MethodName) "VoiceShaper"
def xn_55 : Cond := Jvm.Cond.methodLinkNest "VoiceShaper" (49 : Nat) ({ cls := "VoiceShaper$Calculator", name := "<init>", desc := "()V" } : Jvm.MethodName) "VoiceShaper"
def xn_69 : Cond := Jvm.Cond.methodLinkNest "VoiceShaper" (56 : Nat) ({ cls := "VoiceShaper$Shape", name := "<init>", desc := "()V" } : Jvm.MethodName) "VoiceShaper"
def xn_75 : Cond := Jvm.Cond.methodLinkNest "VoiceShaper$Shape" (11 : Nat) ({ cls := "VoiceShaper$Parting", name := "<init>", desc := "()V" } : Jvm.MethodName) "VoiceShaper"
def xn_197 : Cond := Jvm.Cond.methodLinkNest "VoiceShaper" (65 : Nat) ({ cls := "VoiceShaper$Manner", name := "<init>", desc := "()V" } : Jvm.MethodName) "VoiceShaper"
def xn_370 : Cond := Jvm.Cond.methodLinkNest "VoiceShaper$Tape" (19 : Nat) ({ cls := "VoiceShaper", name := "isWithin", desc := "(III)Z" } : Jvm.MethodName) "VoiceShaper"
def xn_434 : Cond := Jvm.Cond.methodLinkNest "VoiceShaper$Tokens" (57 : Nat) ({ cls := "VoiceShaper", name := "isWithin", desc := "(III)Z" } : Jvm.MethodName) "VoiceShaper"
def xn_570 : Cond := Jvm.Cond.methodLinkNest "VoiceShaper$Grammar" (62 : Nat) ({ cls := "VoiceShaper", name := "isWithin", desc := "(III)Z" } : Jvm.MethodName) "VoiceShaper"
def xn_643 : Cond := Jvm.Cond.fieldLinkNest "VoiceShaper$Shape" (52 : Nat) "VoiceShaper" "AT_FIRST" "[I" "VoiceShaper"
def xn_669 : Cond := Jvm.Cond.fieldLinkNest "VoiceShaper$Shape" (118 : Nat) "VoiceShaper" "LEAST_BY_LINE" "[I" "VoiceShaper"
def xn_671 : Cond := Jvm.Cond.fieldLinkNest "VoiceShaper$Shape" (121 : Nat) "VoiceShaper" "MOST_BY_LINE" "[I" "VoiceShaper"
def xn_673 : Cond := Jvm.Cond.methodLinkNest "VoiceShaper$Shape" (124 : Nat) ({ cls := "VoiceShaper", name := "bringWithin", desc := "(III)I" } : Jvm.MethodName) "VoiceShaper"
def xnw (U : State) : Prop := va_Nw xn_38 U ∧ va_Nw xn_55 U ∧ va_Nw xn_69 U ∧ va_Nw xn_75 U ∧ va_Nw xn_197 U ∧ va_Nw xn_370 U ∧ va_Nw xn_434 U ∧ va_Nw xn_570 U ∧ va_Nw xn_643 U ∧ va_Nw xn_669 U ∧ va_Nw xn_671 U ∧ va_Nw xn_673 U ∧ va_AO "VoiceShaper$Manner" U ∧ va_AO "VoiceShaper$Reading" U ∧ xAOA U
theorem xnw_moved {s U : State} (hW : s.WarmedH U.vm) (h : xnw s) : xnw U := by
  obtain ⟨h38, h55, h69, h75, h197, h370, h434, h570, h643, h669, h671, h673, hm, hr, ha⟩ := h
  exact ⟨va_Nw.warmM hW h38, va_Nw.warmM hW h55, va_Nw.warmM hW h69, va_Nw.warmM hW h75, va_Nw.warmM hW h197, va_Nw.warmM hW h370, va_Nw.warmM hW h434, va_Nw.warmM hW h570, va_Nw.warmF hW h643, va_Nw.warmF hW h669, va_Nw.warmF hW h671, va_Nw.warmM hW h673, va_AO.moved hW.alike hm, va_AO.moved hW.alike hr, xAOA_moved hW.alike ha⟩
theorem xnw_same {s U : State} (hv : s.vm = U.vm) (h : xnw s) : xnw U := by
  obtain ⟨h38, h55, h69, h75, h197, h370, h434, h570, h643, h669, h671, h673, hm, hr, ha⟩ := h
  exact ⟨va_Nw.same rfl hv h38, va_Nw.same rfl hv h55, va_Nw.same rfl hv h69, va_Nw.same rfl hv h75, va_Nw.same rfl hv h197, va_Nw.same rfl hv h370, va_Nw.same rfl hv h434, va_Nw.same rfl hv h570, va_Nw.same rfl hv h643, va_Nw.same rfl hv h669, va_Nw.same rfl hv h671, va_Nw.same rfl hv h673, va_AO.moved (hv ▸ Vm.Alike.refl s.vm) hm, va_AO.moved (hv ▸ Vm.Alike.refl s.vm) hr, xAOA_moved (hv ▸ Vm.Alike.refl s.vm) ha⟩
theorem xnw_38 {U : State} (h : xnw U) : va_Nw xn_38 U := h.1
theorem xnw_55 {U : State} (h : xnw U) : va_Nw xn_55 U := h.2.1
theorem xnw_69 {U : State} (h : xnw U) : va_Nw xn_69 U := h.2.2.1
theorem xnw_75 {U : State} (h : xnw U) : va_Nw xn_75 U := h.2.2.2.1
theorem xnw_197 {U : State} (h : xnw U) : va_Nw xn_197 U := h.2.2.2.2.1
theorem xnw_370 {U : State} (h : xnw U) : va_Nw xn_370 U := h.2.2.2.2.2.1
theorem xnw_434 {U : State} (h : xnw U) : va_Nw xn_434 U := h.2.2.2.2.2.2.1
theorem xnw_570 {U : State} (h : xnw U) : va_Nw xn_570 U := h.2.2.2.2.2.2.2.1
theorem xnw_643 {U : State} (h : xnw U) : va_Nw xn_643 U := h.2.2.2.2.2.2.2.2.1
theorem xnw_669 {U : State} (h : xnw U) : va_Nw xn_669 U := h.2.2.2.2.2.2.2.2.2.1
theorem xnw_671 {U : State} (h : xnw U) : va_Nw xn_671 U := h.2.2.2.2.2.2.2.2.2.2.1
theorem xnw_673 {U : State} (h : xnw U) : va_Nw xn_673 U := h.2.2.2.2.2.2.2.2.2.2.2.1
theorem xnw_aoM {U : State} (h : xnw U) : va_AO "VoiceShaper$Manner" U := h.2.2.2.2.2.2.2.2.2.2.2.2.1
theorem xnw_aoR {U : State} (h : xnw U) : va_AO "VoiceShaper$Reading" U := h.2.2.2.2.2.2.2.2.2.2.2.2.2.1
theorem xnw_aoA {U : State} (h : xnw U) : xAOA U := h.2.2.2.2.2.2.2.2.2.2.2.2.2.2
/-! the static arrays: nobody writes them -/
def xsn : Nat → String := fun n => match n with
  | 0 => "LEAST_MARK"
  | 1 => "MOST_MARK"
  | 2 => "AT_FIRST"
  | 3 => "LEAST_BY_LINE"
  | _ => "MOST_BY_LINE"
def xsv : Nat → Nat → Int32 := fun n j => match n, j with
  | 0, 0 => 1
  | 0, 1 => 0
  | 0, 2 => 0
  | 1, 0 => 99
  | 1, 1 => 99
  | 1, 2 => 9
  | 2, 0 => 10
  | 2, 1 => 50
  | 2, 2 => 5
  | 3, 0 => 1
  | 3, 1 => (-999)
  | 3, 2 => 0
  | 4, 0 => 99
  | 4, 1 => 999
  | 4, 2 => 9
  | _, _ => 0
def xst (G : XG) (A : Nat → Prop) (U : State) (H : Heap) : Prop := (∀ n, n < 5 → va_Z "VoiceShaper" (xsn n) "[I" (.ref (G.2.2.2 n)) A U H ∧ va_T .int (G.2.2.2 n) 3 (fun j => .int (xsv n j)) A U H) ∧ xsr G A U H
theorem xst.moved {G : XG} {A : Nat → Prop} {u U : State} {H : Heap} (hvm : u.vm.Alike U.vm) (h : xst G A u H) : xst G A U H := ⟨fun n hn => ⟨va_Z.moved hvm (h.1 n hn).1, va_T.moved hvm (h.1 n hn).2⟩, xsr_moved hvm h.2⟩
theorem xst.kept {G : XG} {A : Nat → Prop} {U : State} {H H1 : Heap} (h : xst G A U H) (hq : ∀ a : Nat, a < H.size → ¬ A a → H1[a]? = H[a]?) : xst G A U H1 := ⟨fun n hn => ⟨(h.1 n hn).1.kept hq, (h.1 n hn).2.kept hq⟩, xsr_kept h.2 hq⟩
theorem xst.narrow {G : XG} {A B : Nat → Prop} {U : State} {H : Heap} (h : xst G A U H) (hAB : ∀ q, B q → A q) : xst G B U H := ⟨fun n hn => ⟨(h.1 n hn).1.narrow hAB, (h.1 n hn).2.narrow hAB⟩, xsr_narrow h.2 hAB⟩
