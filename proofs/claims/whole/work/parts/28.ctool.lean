/-! the class's cells, one by one -/
section FldC
variable {X : XW} {s q : Nat}
theorem LSh_wI {a k : Nat} {v : Int32} : LSh (wI X a k v) s = LSh X s := propext ⟨fun h => h.mv (tr1 rfl), fun h => h.mv (tr1 rfl)⟩
theorem LSh_wF {a : Nat} {f : Nat → Int32} : LSh (wF X a f) s = LSh X s := propext ⟨fun h => h.mv (tr1 rfl), fun h => h.mv (tr1 rfl)⟩
theorem LRd_wI {a k : Nat} {v : Int32} : LRd (wI X a k v) s = LRd X s := propext ⟨fun h => h.mv (tr1 rfl), fun h => h.mv (tr1 rfl)⟩
theorem LRd_wF {a : Nat} {f : Nat → Int32} : LRd (wF X a f) s = LRd X s := propext ⟨fun h => h.mv (tr1 rfl), fun h => h.mv (tr1 rfl)⟩
theorem LRu_wI {a k : Nat} {v : Int32} : LRu (wI X a k v) s = LRu X s := propext ⟨fun h => h.mv (tr1 rfl), fun h => h.mv (tr1 rfl)⟩
theorem LRu_wF {a : Nat} {f : Nat → Int32} : LRu (wF X a f) s = LRu X s := propext ⟨fun h => h.mv (tr1 rfl), fun h => h.mv (tr1 rfl)⟩
theorem sK (h : LSh X s) : gK X s 6 = some () := gK_of' h.1
theorem sI (h : LSh X s) {k : Nat} : gI X s 6 k = some (xI X s k) := gI_of h.1
theorem sP (h : LSh X s) {k : Nat} {w : Int32} : pI X s 6 k w = some (wI X s k w) := pI_of h.1
theorem sZ (h : LSh X s) {k : Nat} {w : Int32} (hw : w = 0 ∨ w = 1) : pZ X s 6 k w = some (wI X s k w) := pZ_of h.1 hw
theorem sR0 (h : LSh X s) : gR X s 6 0 = some (s + 1) := gR_of h.1 h.2.1
theorem sR1 (h : LSh X s) : gR X s 6 1 = some (s + 9) := gR_of h.1 h.2.2.1
theorem tK (h : LSh X s) : gK X (s + 1) 3 = some () := gK_of' h.2.2.2.1
theorem tI (h : LSh X s) {k : Nat} : gI X (s + 1) 3 k = some (xI X (s + 1) k) := gI_of h.2.2.2.1
theorem tP (h : LSh X s) {k : Nat} {w : Int32} : pI X (s + 1) 3 k w = some (wI X (s + 1) k w) := pI_of h.2.2.2.1
theorem tR0 (h : LSh X s) : gR X (s + 1) 3 0 = some (s + 2) := gR_of h.2.2.2.1 (h.2.2.2.2.1 0 (by decide))
theorem tA0 (h : LSh X s) {i : Nat} (hi : i < 16) : aI X (s + 2) 1 (nI i) = some (xA X (s + 2) i) := aI_of h.2.2.2.2.2.1.1 h.2.2.2.2.2.1.2 hi (by decide)
theorem tU0 (h : LSh X s) {i : Nat} {w : Int32} (hi : i < 16) : uI X (s + 2) (nI i) w = some (wF X (s + 2) (va_up (xA X (s + 2)) i w)) := uI_of h.2.2.2.2.2.1.1 h.2.2.2.2.2.1.2 hi (by decide)
theorem tR1 (h : LSh X s) : gR X (s + 1) 3 1 = some (s + 3) := gR_of h.2.2.2.1 (h.2.2.2.2.1 1 (by decide))
theorem tA1 (h : LSh X s) {i : Nat} (hi : i < 16) : aI X (s + 3) 1 (nI i) = some (xA X (s + 3) i) := aI_of h.2.2.2.2.2.2.1.1 h.2.2.2.2.2.2.1.2 hi (by decide)
theorem tU1 (h : LSh X s) {i : Nat} {w : Int32} (hi : i < 16) : uI X (s + 3) (nI i) w = some (wF X (s + 3) (va_up (xA X (s + 3)) i w)) := uI_of h.2.2.2.2.2.2.1.1 h.2.2.2.2.2.2.1.2 hi (by decide)
theorem tR2 (h : LSh X s) : gR X (s + 1) 3 2 = some (s + 4) := gR_of h.2.2.2.1 (h.2.2.2.2.1 2 (by decide))
theorem tA2 (h : LSh X s) {i : Nat} (hi : i < 16) : aI X (s + 4) 1 (nI i) = some (xA X (s + 4) i) := aI_of h.2.2.2.2.2.2.2.1.1 h.2.2.2.2.2.2.2.1.2 hi (by decide)
theorem tU2 (h : LSh X s) {i : Nat} {w : Int32} (hi : i < 16) : uI X (s + 4) (nI i) w = some (wF X (s + 4) (va_up (xA X (s + 4)) i w)) := uI_of h.2.2.2.2.2.2.2.1.1 h.2.2.2.2.2.2.2.1.2 hi (by decide)
theorem tR3 (h : LSh X s) : gR X (s + 1) 3 3 = some (s + 5) := gR_of h.2.2.2.1 (h.2.2.2.2.1 3 (by decide))
theorem tA3 (h : LSh X s) {i : Nat} (hi : i < 16) : aI X (s + 5) 1 (nI i) = some (xA X (s + 5) i) := aI_of h.2.2.2.2.2.2.2.2.1.1 h.2.2.2.2.2.2.2.2.1.2 hi (by decide)
theorem tU3 (h : LSh X s) {i : Nat} {w : Int32} (hi : i < 16) : uI X (s + 5) (nI i) w = some (wF X (s + 5) (va_up (xA X (s + 5)) i w)) := uI_of h.2.2.2.2.2.2.2.2.1.1 h.2.2.2.2.2.2.2.2.1.2 hi (by decide)
theorem tR4 (h : LSh X s) : gR X (s + 1) 3 4 = some (s + 6) := gR_of h.2.2.2.1 (h.2.2.2.2.1 4 (by decide))
theorem tA4 (h : LSh X s) {i : Nat} (hi : i < 16) : aI X (s + 6) 3 (nI i) = some (xA X (s + 6) i) := aI_of h.2.2.2.2.2.2.2.2.2.1.1 h.2.2.2.2.2.2.2.2.2.1.2 hi (by decide)
theorem tU4 (h : LSh X s) {i : Nat} {w : Int32} (hi : i < 16) (hw : w = 0 ∨ w = 1) : uZ X (s + 6) (nI i) w = some (wF X (s + 6) (va_up (xA X (s + 6)) i w)) := uZ_of h.2.2.2.2.2.2.2.2.2.1.1 h.2.2.2.2.2.2.2.2.2.1.2 hi (by decide) hw
theorem tR5 (h : LSh X s) : gR X (s + 1) 3 5 = some (s + 7) := gR_of h.2.2.2.1 (h.2.2.2.2.1 5 (by decide))
theorem tA5 (h : LSh X s) {i : Nat} (hi : i < 17) : aI X (s + 7) 1 (nI i) = some (xA X (s + 7) i) := aI_of h.2.2.2.2.2.2.2.2.2.2.1.1 h.2.2.2.2.2.2.2.2.2.2.1.2 hi (by decide)
theorem tU5 (h : LSh X s) {i : Nat} {w : Int32} (hi : i < 17) : uI X (s + 7) (nI i) w = some (wF X (s + 7) (va_up (xA X (s + 7)) i w)) := uI_of h.2.2.2.2.2.2.2.2.2.2.1.1 h.2.2.2.2.2.2.2.2.2.2.1.2 hi (by decide)
theorem tR6 (h : LSh X s) : gR X (s + 1) 3 6 = some (s + 8) := gR_of h.2.2.2.1 (h.2.2.2.2.1 6 (by decide))
theorem tA6 (h : LSh X s) {i : Nat} (hi : i < 16) : aI X (s + 8) 1 (nI i) = some (xA X (s + 8) i) := aI_of h.2.2.2.2.2.2.2.2.2.2.2.1.1 h.2.2.2.2.2.2.2.2.2.2.2.1.2 hi (by decide)
theorem tU6 (h : LSh X s) {i : Nat} {w : Int32} (hi : i < 16) : uI X (s + 8) (nI i) w = some (wF X (s + 8) (va_up (xA X (s + 8)) i w)) := uI_of h.2.2.2.2.2.2.2.2.2.2.2.1.1 h.2.2.2.2.2.2.2.2.2.2.2.1.2 hi (by decide)
theorem rwQ (h : LSh X s) {i : Nat} (hi : i < 14) : aQ X (s + 9) 6 (nI i) = some (s + 10 + i) := aQ_of h.2.2.2.2.2.2.2.2.2.2.2.2.1.1 h.2.2.2.2.2.2.2.2.2.2.2.2.1.2 hi (by decide) (h.2.2.2.2.2.2.2.2.2.2.2.2.2 i hi).1
theorem rwQ1 (h : LSh X s) : aQ X (s + 9) 6 1 = some (s + 10 + 1) := rwQ h (i := 1) (by decide)
theorem rwA (h : LSh X s) {i j : Nat} (hi : i < 14) (hj : j < 80) : aI X (s + 10 + i) 1 (nI j) = some (xA X (s + 10 + i) j) := aI_of (h.2.2.2.2.2.2.2.2.2.2.2.2.2 i hi).2.1 (h.2.2.2.2.2.2.2.2.2.2.2.2.2 i hi).2.2 hj (by decide)
theorem rwU (h : LSh X s) {i j : Nat} {w : Int32} (hi : i < 14) (hj : j < 80) : uI X (s + 10 + i) (nI j) w = some (wF X (s + 10 + i) (va_up (xA X (s + 10 + i)) j w)) := uI_of (h.2.2.2.2.2.2.2.2.2.2.2.2.2 i hi).2.1 (h.2.2.2.2.2.2.2.2.2.2.2.2.2 i hi).2.2 hj (by decide)
theorem dK (h : LRd X q) : gK X q 4 = some () := gK_of' h.1
theorem dI (h : LRd X q) {k : Nat} : gI X q 4 k = some (xI X q k) := gI_of h.1
theorem dP (h : LRd X q) {k : Nat} {w : Int32} : pI X q 4 k w = some (wI X q k w) := pI_of h.1
theorem dR0 (h : LRd X q) : gR X q 4 0 = some (q + 1) := gR_of h.1 (h.2.1 0 (by decide))
theorem dA0 (h : LRd X q) {i : Nat} (hi : i < 16) : aI X (q + 1) 1 (nI i) = some (xA X (q + 1) i) := aI_of h.2.2.1.1 h.2.2.1.2 hi (by decide)
theorem dR1 (h : LRd X q) : gR X q 4 1 = some (q + 2) := gR_of h.1 (h.2.1 1 (by decide))
theorem dA1 (h : LRd X q) {i : Nat} (hi : i < 16) : aI X (q + 2) 1 (nI i) = some (xA X (q + 2) i) := aI_of h.2.2.2.1.1 h.2.2.2.1.2 hi (by decide)
theorem dR2 (h : LRd X q) : gR X q 4 2 = some (q + 3) := gR_of h.1 (h.2.1 2 (by decide))
theorem dA2 (h : LRd X q) {i : Nat} (hi : i < 16) : aI X (q + 3) 1 (nI i) = some (xA X (q + 3) i) := aI_of h.2.2.2.2.1.1 h.2.2.2.2.1.2 hi (by decide)
theorem dR3 (h : LRd X q) : gR X q 4 3 = some (q + 4) := gR_of h.1 (h.2.1 3 (by decide))
theorem dA3 (h : LRd X q) {i : Nat} (hi : i < 16) : aI X (q + 4) 3 (nI i) = some (xA X (q + 4) i) := aI_of h.2.2.2.2.2.1.1 h.2.2.2.2.2.1.2 hi (by decide)
theorem dR4 (h : LRd X q) : gR X q 4 4 = some (q + 5) := gR_of h.1 (h.2.1 4 (by decide))
theorem dA4 (h : LRd X q) {i : Nat} (hi : i < 16) : aI X (q + 5) 3 (nI i) = some (xA X (q + 5) i) := aI_of h.2.2.2.2.2.2.1.1 h.2.2.2.2.2.2.1.2 hi (by decide)
theorem dR5 (h : LRd X q) : gR X q 4 5 = some (q + 6) := gR_of h.1 (h.2.1 5 (by decide))
theorem dQ (h : LRd X q) {i : Nat} (hi : i < 3) : aQ X (q + 6) 6 (nI i) = some (q + 7 + i) := aQ_of h.2.2.2.2.2.2.2.1.1 h.2.2.2.2.2.2.2.1.2 hi (by decide) (h.2.2.2.2.2.2.2.2 i hi).1
theorem dQ1 (h : LRd X q) : aQ X (q + 6) 6 1 = some (q + 7 + 1) := dQ h (i := 1) (by decide)
theorem dMA (h : LRd X q) {i j : Nat} (hi : i < 3) (hj : j < 80) : aI X (q + 7 + i) 1 (nI j) = some (xA X (q + 7 + i) j) := aI_of (h.2.2.2.2.2.2.2.2 i hi).2.1 (h.2.2.2.2.2.2.2.2 i hi).2.2 hj (by decide)
theorem uK (h : LRu X q) : gK X q 5 = some () := gK_of' h.1
theorem uI_ (h : LRu X q) {k : Nat} : gI X q 5 k = some (xI X q k) := gI_of h.1
theorem uP_ (h : LRu X q) {k : Nat} {w : Int32} : pI X q 5 k w = some (wI X q k w) := pI_of h.1
theorem uR0 (h : LRu X q) : gR X q 5 0 = some (q + 1) := gR_of h.1 (h.2.1 0 (by decide))
theorem uA0 (h : LRu X q) {i : Nat} (hi : i < 24) : aI X (q + 1) 3 (nI i) = some (xA X (q + 1) i) := aI_of h.2.2.1.1 h.2.2.1.2 hi (by decide)
theorem uU0 (h : LRu X q) {i : Nat} {w : Int32} (hi : i < 24) (hw : w = 0 ∨ w = 1) : uZ X (q + 1) (nI i) w = some (wF X (q + 1) (va_up (xA X (q + 1)) i w)) := uZ_of h.2.2.1.1 h.2.2.1.2 hi (by decide) hw
theorem uR1 (h : LRu X q) : gR X q 5 1 = some (q + 2) := gR_of h.1 (h.2.1 1 (by decide))
theorem uA1 (h : LRu X q) {i : Nat} (hi : i < 24) : aI X (q + 2) 1 (nI i) = some (xA X (q + 2) i) := aI_of h.2.2.2.1.1 h.2.2.2.1.2 hi (by decide)
theorem uU1 (h : LRu X q) {i : Nat} {w : Int32} (hi : i < 24) : uI X (q + 2) (nI i) w = some (wF X (q + 2) (va_up (xA X (q + 2)) i w)) := uI_of h.2.2.2.1.1 h.2.2.2.1.2 hi (by decide)
theorem uR2 (h : LRu X q) : gR X q 5 2 = some (q + 3) := gR_of h.1 (h.2.1 2 (by decide))
theorem uA2 (h : LRu X q) {i : Nat} (hi : i < 24) : aI X (q + 3) 1 (nI i) = some (xA X (q + 3) i) := aI_of h.2.2.2.2.1.1 h.2.2.2.2.1.2 hi (by decide)
theorem uU2 (h : LRu X q) {i : Nat} {w : Int32} (hi : i < 24) : uI X (q + 3) (nI i) w = some (wF X (q + 3) (va_up (xA X (q + 3)) i w)) := uI_of h.2.2.2.2.1.1 h.2.2.2.2.1.2 hi (by decide)
theorem uR3 (h : LRu X q) : gR X q 5 3 = some (q + 4) := gR_of h.1 (h.2.1 3 (by decide))
theorem uA3 (h : LRu X q) {i : Nat} (hi : i < 24) : aI X (q + 4) 1 (nI i) = some (xA X (q + 4) i) := aI_of h.2.2.2.2.2.1.1 h.2.2.2.2.2.1.2 hi (by decide)
theorem uU3 (h : LRu X q) {i : Nat} {w : Int32} (hi : i < 24) : uI X (q + 4) (nI i) w = some (wF X (q + 4) (va_up (xA X (q + 4)) i w)) := uI_of h.2.2.2.2.2.1.1 h.2.2.2.2.2.1.2 hi (by decide)
theorem uR4 (h : LRu X q) : gR X q 5 4 = some (q + 5) := gR_of h.1 (h.2.1 4 (by decide))
theorem uA4 (h : LRu X q) {i : Nat} (hi : i < 24) : aI X (q + 5) 1 (nI i) = some (xA X (q + 5) i) := aI_of h.2.2.2.2.2.2.1.1 h.2.2.2.2.2.2.1.2 hi (by decide)
theorem uU4 (h : LRu X q) {i : Nat} {w : Int32} (hi : i < 24) : uI X (q + 5) (nI i) w = some (wF X (q + 5) (va_up (xA X (q + 5)) i w)) := uI_of h.2.2.2.2.2.2.1.1 h.2.2.2.2.2.2.1.2 hi (by decide)
theorem uR5 (h : LRu X q) : gR X q 5 5 = some (q + 6) := gR_of h.1 (h.2.1 5 (by decide))
theorem uAc (h : LRu X q) {i : Nat} (hi : i < xLn X (q + 6)) : aI X (q + 6) 1 (nI i) = some (xA X (q + 6) i) := aI_of h.2.2.2.2.2.2.2.1 rfl hi (Nat.lt_of_le_of_lt h.2.2.2.2.2.2.2.2 (by decide))
theorem uEc (h : LRu X q) : aE X (q + 6) 1 = some (nI (xLn X (q + 6))) := if_pos h.2.2.2.2.2.2.2.1
end FldC
