/-! THE SPLIT WORLD: what the cells of the system hold, by address: sizes, kinds, int fields, ref fields, int arrays, long arrays, ref arrays -/
abbrev XG : Type := (Nat → ClassId) × (Nat → Nat → Nat) × (Nat → ClassId) × (Nat → Nat)
abbrev XW : Type := Nat × (Nat → Nat × Nat) × (Nat → Nat → Int32) × (Nat → Nat → Option Nat) × (Nat → Nat → Int32) × (Nat → Nat → Int64) × (Nat → Nat → Option Nat)
def xZ (X : XW) : Nat := X.1
def xKd (X : XW) (a : Nat) : Nat := (X.2.1 a).1
def xLn (X : XW) (a : Nat) : Nat := (X.2.1 a).2
def xI (X : XW) (a k : Nat) : Int32 := X.2.2.1 a k
def xR (X : XW) (a k : Nat) : Option Nat := X.2.2.2.1 a k
def xA (X : XW) (a i : Nat) : Int32 := X.2.2.2.2.1 a i
def xL (X : XW) (a i : Nat) : Int64 := X.2.2.2.2.2.1 a i
def xQ (X : XW) (a i : Nat) : Option Nat := X.2.2.2.2.2.2 a i
def x2 {α : Type} (f : Nat → Nat → α) (a k : Nat) (v : α) : Nat → Nat → α := fun b j => if b = a ∧ j = k then v else f b j
def wI (X : XW) (a k : Nat) (v : Int32) : XW := (X.1, X.2.1, x2 X.2.2.1 a k v, X.2.2.2)
def wR (X : XW) (a k : Nat) (v : Option Nat) : XW := (X.1, X.2.1, X.2.2.1, x2 X.2.2.2.1 a k v, X.2.2.2.2)
def wA (X : XW) (a i : Nat) (v : Int32) : XW := (X.1, X.2.1, X.2.2.1, X.2.2.2.1, x2 X.2.2.2.2.1 a i v, X.2.2.2.2.2)
def wL (X : XW) (a i : Nat) (v : Int64) : XW := (X.1, X.2.1, X.2.2.1, X.2.2.2.1, X.2.2.2.2.1, x2 X.2.2.2.2.2.1 a i v, X.2.2.2.2.2.2)
def wQ (X : XW) (a i : Nat) (v : Option Nat) : XW := (X.1, X.2.1, X.2.2.1, X.2.2.2.1, X.2.2.2.2.1, X.2.2.2.2.2.1, x2 X.2.2.2.2.2.2 a i v)
def x1 {α : Type} (f : Nat → Nat → α) (a : Nat) (v : α) : Nat → Nat → α := fun b j => if b = a then v else f b j
/-- a new cell, at the heap's end: all its places at their defaults -/
def wN (X : XW) (kd len : Nat) : XW := (X.1 + 1, (fun b => if b = X.1 then (kd, len) else X.2.1 b), x1 X.2.2.1 X.1 0, x1 X.2.2.2.1 X.1 none, x1 X.2.2.2.2.1 X.1 0, x1 X.2.2.2.2.2.1 X.1 0, x1 X.2.2.2.2.2.2 X.1 none)
/-! what a method may ask of the world: none where it would throw -/
def gK (X : XW) (a ci : Nat) : Option Unit := if xKd X a = ci + 1 then some () else none
def gI (X : XW) (a ci k : Nat) : Option Int32 := if xKd X a = ci + 1 then some (xI X a k) else none
def gR (X : XW) (a ci k : Nat) : Option Nat := if xKd X a = ci + 1 then xR X a k else none
def pI (X : XW) (a ci k : Nat) (v : Int32) : Option XW := if xKd X a = ci + 1 then some (wI X a k v) else none
def pZ (X : XW) (a ci k : Nat) (v : Int32) : Option XW := if xKd X a = ci + 1 ∧ (v = 0 ∨ v = 1) then some (wI X a k v) else none
def pR (X : XW) (a ci k v : Nat) : Option XW := if xKd X a = ci + 1 then some (wR X a k (some v)) else none
def aI (X : XW) (a t : Nat) (i : Int32) : Option Int32 := if xKd X a = 20 + t ∧ ¬ (i < 0 ∨ xLn X a ≤ i.toNatClampNeg) then some (xA X a i.toNatClampNeg) else none
def aL (X : XW) (a : Nat) (i : Int32) : Option Int64 := if xKd X a = 22 ∧ ¬ (i < 0 ∨ xLn X a ≤ i.toNatClampNeg) then some (xL X a i.toNatClampNeg) else none
def aQ (X : XW) (a t : Nat) (i : Int32) : Option Nat := if xKd X a = 20 + t ∧ ¬ (i < 0 ∨ xLn X a ≤ i.toNatClampNeg) then xQ X a i.toNatClampNeg else none
def uI (X : XW) (a : Nat) (i v : Int32) : Option XW := if xKd X a = 21 ∧ ¬ (i < 0 ∨ xLn X a ≤ i.toNatClampNeg) then some (wA X a i.toNatClampNeg v) else none
def uB (X : XW) (a : Nat) (i v : Int32) : Option XW := if xKd X a = 20 ∧ ¬ (i < 0 ∨ xLn X a ≤ i.toNatClampNeg) then some (wA X a i.toNatClampNeg (vp_nar .byte v)) else none
def uZ (X : XW) (a : Nat) (i v : Int32) : Option XW := if xKd X a = 23 ∧ ¬ (i < 0 ∨ xLn X a ≤ i.toNatClampNeg) then some (wA X a i.toNatClampNeg (vp_nar .boolean v)) else none
def uL (X : XW) (a : Nat) (i : Int32) (v : Int64) : Option XW := if xKd X a = 22 ∧ ¬ (i < 0 ∨ xLn X a ≤ i.toNatClampNeg) then some (wL X a i.toNatClampNeg v) else none
/-- a reference stored: the array's kind t, the object's class ci -/
def uQ (X : XW) (a t ci : Nat) (i : Int32) (v : Nat) : Option XW := if xKd X a = 20 + t ∧ xKd X v = ci + 1 ∧ ¬ (i < 0 ∨ xLn X a ≤ i.toNatClampNeg) then some (wQ X a i.toNatClampNeg (some v)) else none
def aN (X : XW) (a : Nat) : Option Int32 := if 20 ≤ xKd X a then some (Int32.ofNat (xLn X a)) else none
/-- new arrays of kind t with n places, at most M -/
def nA (X : XW) (t M : Nat) (n : Int32) : Option (Nat × XW) := if ¬ n < 0 ∧ n.toNatClampNeg ≤ M then some (X.1, wN X (20 + t) n.toNatClampNeg) else none
def nO (X : XW) (ci : Nat) : Nat × XW := (X.1, wN X (ci + 1) 0)
def iD (x y : Int32) : Option Int32 := if y = 0 then none else some (x / y)
def iM (x y : Int32) : Option Int32 := if y = 0 then none else some (x - x / y * y)
theorem ob {α β : Type} {o : Option α} {f : α → Option β} {r : β} (h : (o >>= f) = some r) : ∃ x, o = some x ∧ f x = some r := by
  cases o with
  | none => cases h
  | some x => exact ⟨x, rfl, h⟩
/-! the words of the tables that may be handed on -/
def xws : List Cond := lw_tbl.filter goodWord
theorem xws_in {w : Cond} (h : w ∈ lw_tbl) (hg : goodWord w = true) : w ∈ xws := List.mem_filter.mpr ⟨h, hg⟩
theorem xws_t {w : Cond} (i : Nat) (h : tables_1[i]? = some w) (hg : goodWord w = true) : w ∈ xws := xws_in (List.mem_append_right _ (List.mem_of_getElem? h)) hg
theorem xws_s {w : Cond} (i : Nat) (h : (k2_sels lw_privs)[i]? = some w) (hg : goodWord w = true) : w ∈ xws := xws_in (List.mem_append_left _ (List.mem_of_getElem? h)) hg
theorem xws_good {w : Cond} (h : w ∈ xws) : goodWord w = true := (List.mem_filter.mp h).2
theorem xws_gi {y : MethodName} {cc cc2 : ByteArray} {n n2 : Nat} {r r2 : Option FieldType} {y2 : MethodName} (h : Cond.code y cc n r ∈ xws) : GoodIn xws (Cond.code y cc n r :: xws) := fun w hw => (List.mem_cons.mp hw).elim (fun e => by rw [e]; exact ⟨h, good_of_word (xws_good h)⟩) (fun q => ⟨q, good_of_word (xws_good q)⟩)
def xfr (ci k : Nat) : Bool := match vwCl[ci]? with
  | some r => !((r.2.1 k).2.2.1 == "I" || (r.2.1 k).2.2.1 == "Z")
  | none => false
/-- a class of the world, by its number -/
def XCl (ci : Nat) (C : String) (T : u_T) (N : Nat) (ty : Nat → FieldType) : Prop := vwCl[ci]? = some (C, T, N) ∧ (∀ w ∈ u_ws C T N, w ∈ xws) ∧ (∀ k, k < N → parseFieldDescriptor (T k).2.2.1 = some (ty k)) ∧ (∀ a, a < N → ∀ b, b < N → a ≠ b → (T a).2.1 ≠ (T b).2.1)
/-- the words of a method -/
def XMc (y : MethodName) (bytes : ByteArray) (maxL : Nat) (ret : Option FieldType) (n : Nat) : Prop := Cond.code y bytes maxL ret ∈ xws ∧ Cond.initialized y.cls ∈ xws ∧ (y.cls ≠ "java/lang/invoke/MethodHandle" ∧ y.cls ≠ "java/lang/invoke/VarHandle" ∧ (parseMethodDescriptor y.desc).map (fun d => d.parameters.length) = some n)
def XMv (y : MethodName) : Prop := Cond.instanceMethod y ∈ xws ∧ Cond.selects y.cls y y ∈ xws
