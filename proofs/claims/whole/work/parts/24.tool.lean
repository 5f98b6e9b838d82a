/-! the reference's fields, one by one; numbers -/
section FldM
variable {X : XW} {o : Nat}
theorem rM1 (L : LM X o) : gR X o 10 1 = some (mA o 1) := gR_M L (by decide) (by decide)
theorem aM1 (L : LM X o) {i : Nat} (h : i < 1000) : aI X (mA o 1) 1 (nI i) = some (xA X (mA o 1) i) := aI_M L (by decide) (by decide) h
theorem uM1 (L : LM X o) {i : Nat} {w : Int32} (h : i < 1000) : uI X (mA o 1) (nI i) w = some (wF X (mA o 1) (va_up (xA X (mA o 1)) i w)) := uI_M L w (by decide) (by decide) h
theorem rM4 (L : LM X o) : gR X o 10 4 = some (mA o 4) := gR_M L (by decide) (by decide)
theorem aM4 (L : LM X o) {i : Nat} (h : i < 1002) : aI X (mA o 4) 1 (nI i) = some (xA X (mA o 4) i) := aI_M L (by decide) (by decide) h
theorem uM4 (L : LM X o) {i : Nat} {w : Int32} (h : i < 1002) : uI X (mA o 4) (nI i) w = some (wF X (mA o 4) (va_up (xA X (mA o 4)) i w)) := uI_M L w (by decide) (by decide) h
theorem rM5 (L : LM X o) : gR X o 10 5 = some (mA o 5) := gR_M L (by decide) (by decide)
theorem aM5 (L : LM X o) {i : Nat} (h : i < 1002) : aI X (mA o 5) 1 (nI i) = some (xA X (mA o 5) i) := aI_M L (by decide) (by decide) h
theorem uM5 (L : LM X o) {i : Nat} {w : Int32} (h : i < 1002) : uI X (mA o 5) (nI i) w = some (wF X (mA o 5) (va_up (xA X (mA o 5)) i w)) := uI_M L w (by decide) (by decide) h
theorem rM6 (L : LM X o) : gR X o 10 6 = some (mA o 6) := gR_M L (by decide) (by decide)
theorem aM6 (L : LM X o) {i : Nat} (h : i < 1002) : aL X (mA o 6) (nI i) = some (xL X (mA o 6) i) := aL_M L (by decide) (by decide) h
theorem rM9 (L : LM X o) : gR X o 10 9 = some (mA o 9) := gR_M L (by decide) (by decide)
theorem aM9 (L : LM X o) {i : Nat} (h : i < 17) : aL X (mA o 9) (nI i) = some (xL X (mA o 9) i) := aL_M L (by decide) (by decide) h
theorem rM11 (L : LM X o) : gR X o 10 11 = some (mA o 11) := gR_M L (by decide) (by decide)
theorem aM11 (L : LM X o) {i : Nat} (h : i < 4) : aI X (mA o 11) 1 (nI i) = some (xA X (mA o 11) i) := aI_M L (by decide) (by decide) h
theorem uM11 (L : LM X o) {i : Nat} {w : Int32} (h : i < 4) : uI X (mA o 11) (nI i) w = some (wF X (mA o 11) (va_up (xA X (mA o 11)) i w)) := uI_M L w (by decide) (by decide) h
theorem rM12 (L : LM X o) : gR X o 10 12 = some (mA o 12) := gR_M L (by decide) (by decide)
theorem aM12 (L : LM X o) {i : Nat} (h : i < 4) : aI X (mA o 12) 1 (nI i) = some (xA X (mA o 12) i) := aI_M L (by decide) (by decide) h
theorem uM12 (L : LM X o) {i : Nat} {w : Int32} (h : i < 4) : uI X (mA o 12) (nI i) w = some (wF X (mA o 12) (va_up (xA X (mA o 12)) i w)) := uI_M L w (by decide) (by decide) h
theorem rM13 (L : LM X o) : gR X o 10 13 = some (mA o 13) := gR_M L (by decide) (by decide)
theorem aM13 (L : LM X o) {i : Nat} (h : i < 4) : aI X (mA o 13) 1 (nI i) = some (xA X (mA o 13) i) := aI_M L (by decide) (by decide) h
theorem uM13 (L : LM X o) {i : Nat} {w : Int32} (h : i < 4) : uI X (mA o 13) (nI i) w = some (wF X (mA o 13) (va_up (xA X (mA o 13)) i w)) := uI_M L w (by decide) (by decide) h
theorem rM14 (L : LM X o) : gR X o 10 14 = some (mA o 14) := gR_M L (by decide) (by decide)
theorem aM14 (L : LM X o) {i : Nat} (h : i < 5) : aI X (mA o 14) 1 (nI i) = some (xA X (mA o 14) i) := aI_M L (by decide) (by decide) h
theorem uM14 (L : LM X o) {i : Nat} {w : Int32} (h : i < 5) : uI X (mA o 14) (nI i) w = some (wF X (mA o 14) (va_up (xA X (mA o 14)) i w)) := uI_M L w (by decide) (by decide) h
theorem rM15 (L : LM X o) : gR X o 10 15 = some (mA o 15) := gR_M L (by decide) (by decide)
theorem aM15 (L : LM X o) {i : Nat} (h : i < 120) : aI X (mA o 15) 3 (nI i) = some (xA X (mA o 15) i) := aI_M L (by decide) (by decide) h
theorem uM15 (L : LM X o) {i : Nat} {w : Int32} (h : i < 120) (hw : w = 0 ∨ w = 1) : uZ X (mA o 15) (nI i) w = some (wF X (mA o 15) (va_up (xA X (mA o 15)) i w)) := (uZ_M L w (by decide) (by decide) h).trans (by rw [nar1 hw])
theorem rM16 (L : LM X o) : gR X o 10 16 = some (mA o 16) := gR_M L (by decide) (by decide)
theorem aM16 (L : LM X o) {i : Nat} (h : i < 120) : aI X (mA o 16) 1 (nI i) = some (xA X (mA o 16) i) := aI_M L (by decide) (by decide) h
theorem uM16 (L : LM X o) {i : Nat} {w : Int32} (h : i < 120) : uI X (mA o 16) (nI i) w = some (wF X (mA o 16) (va_up (xA X (mA o 16)) i w)) := uI_M L w (by decide) (by decide) h
theorem rM17 (L : LM X o) : gR X o 10 17 = some (mA o 17) := gR_M L (by decide) (by decide)
theorem aM17 (L : LM X o) {i : Nat} (h : i < 120) : aI X (mA o 17) 1 (nI i) = some (xA X (mA o 17) i) := aI_M L (by decide) (by decide) h
theorem uM17 (L : LM X o) {i : Nat} {w : Int32} (h : i < 120) : uI X (mA o 17) (nI i) w = some (wF X (mA o 17) (va_up (xA X (mA o 17)) i w)) := uI_M L w (by decide) (by decide) h
theorem rM18 (L : LM X o) : gR X o 10 18 = some (mA o 18) := gR_M L (by decide) (by decide)
theorem aM18 (L : LM X o) {i : Nat} (h : i < 120) : aI X (mA o 18) 1 (nI i) = some (xA X (mA o 18) i) := aI_M L (by decide) (by decide) h
theorem uM18 (L : LM X o) {i : Nat} {w : Int32} (h : i < 120) : uI X (mA o 18) (nI i) w = some (wF X (mA o 18) (va_up (xA X (mA o 18)) i w)) := uI_M L w (by decide) (by decide) h
theorem rM19 (L : LM X o) : gR X o 10 19 = some (mA o 19) := gR_M L (by decide) (by decide)
theorem aM19 (L : LM X o) {i : Nat} (h : i < 5300) : aI X (mA o 19) 1 (nI i) = some (xA X (mA o 19) i) := aI_M L (by decide) (by decide) h
theorem uM19 (L : LM X o) {i : Nat} {w : Int32} (h : i < 5300) : uI X (mA o 19) (nI i) w = some (wF X (mA o 19) (va_up (xA X (mA o 19)) i w)) := uI_M L w (by decide) (by decide) h
theorem rM20 (L : LM X o) : gR X o 10 20 = some (mA o 20) := gR_M L (by decide) (by decide)
theorem aM20 (L : LM X o) {i : Nat} (h : i < 5300) : aI X (mA o 20) 1 (nI i) = some (xA X (mA o 20) i) := aI_M L (by decide) (by decide) h
theorem uM20 (L : LM X o) {i : Nat} {w : Int32} (h : i < 5300) : uI X (mA o 20) (nI i) w = some (wF X (mA o 20) (va_up (xA X (mA o 20)) i w)) := uI_M L w (by decide) (by decide) h
theorem rM23 (L : LM X o) : gR X o 10 23 = some (mA o 23) := gR_M L (by decide) (by decide)
theorem aM23 (L : LM X o) {i : Nat} (h : i < 7) : aI X (mA o 23) 1 (nI i) = some (xA X (mA o 23) i) := aI_M L (by decide) (by decide) h
theorem uM23 (L : LM X o) {i : Nat} {w : Int32} (h : i < 7) : uI X (mA o 23) (nI i) w = some (wF X (mA o 23) (va_up (xA X (mA o 23)) i w)) := uI_M L w (by decide) (by decide) h
theorem rM24 (L : LM X o) : gR X o 10 24 = some (mA o 24) := gR_M L (by decide) (by decide)
theorem aM24 (L : LM X o) {i : Nat} (h : i < 7) : aI X (mA o 24) 1 (nI i) = some (xA X (mA o 24) i) := aI_M L (by decide) (by decide) h
theorem uM24 (L : LM X o) {i : Nat} {w : Int32} (h : i < 7) : uI X (mA o 24) (nI i) w = some (wF X (mA o 24) (va_up (xA X (mA o 24)) i w)) := uI_M L w (by decide) (by decide) h
theorem rM25 (L : LM X o) : gR X o 10 25 = some (mA o 25) := gR_M L (by decide) (by decide)
theorem aM25 (L : LM X o) {i : Nat} (h : i < 7) : aI X (mA o 25) 1 (nI i) = some (xA X (mA o 25) i) := aI_M L (by decide) (by decide) h
theorem uM25 (L : LM X o) {i : Nat} {w : Int32} (h : i < 7) : uI X (mA o 25) (nI i) w = some (wF X (mA o 25) (va_up (xA X (mA o 25)) i w)) := uI_M L w (by decide) (by decide) h
theorem rM26 (L : LM X o) : gR X o 10 26 = some (mA o 26) := gR_M L (by decide) (by decide)
theorem aM26 (L : LM X o) {i : Nat} (h : i < 13) : aI X (mA o 26) 1 (nI i) = some (xA X (mA o 26) i) := aI_M L (by decide) (by decide) h
theorem uM26 (L : LM X o) {i : Nat} {w : Int32} (h : i < 13) : uI X (mA o 26) (nI i) w = some (wF X (mA o 26) (va_up (xA X (mA o 26)) i w)) := uI_M L w (by decide) (by decide) h
theorem rM27 (L : LM X o) : gR X o 10 27 = some (mA o 27) := gR_M L (by decide) (by decide)
theorem aM27 (L : LM X o) {i : Nat} (h : i < 1060) : aI X (mA o 27) 1 (nI i) = some (xA X (mA o 27) i) := aI_M L (by decide) (by decide) h
theorem uM27 (L : LM X o) {i : Nat} {w : Int32} (h : i < 1060) : uI X (mA o 27) (nI i) w = some (wF X (mA o 27) (va_up (xA X (mA o 27)) i w)) := uI_M L w (by decide) (by decide) h
theorem rM30 (L : LM X o) : gR X o 10 30 = some (mA o 30) := gR_M L (by decide) (by decide)
theorem aM30 (L : LM X o) {i : Nat} (h : i < 4) : aI X (mA o 30) 1 (nI i) = some (xA X (mA o 30) i) := aI_M L (by decide) (by decide) h
theorem uM30 (L : LM X o) {i : Nat} {w : Int32} (h : i < 4) : uI X (mA o 30) (nI i) w = some (wF X (mA o 30) (va_up (xA X (mA o 30)) i w)) := uI_M L w (by decide) (by decide) h
theorem rM31 (L : LM X o) : gR X o 10 31 = some (mA o 31) := gR_M L (by decide) (by decide)
theorem aM31 (L : LM X o) {i : Nat} (h : i < 64) : aI X (mA o 31) 1 (nI i) = some (xA X (mA o 31) i) := aI_M L (by decide) (by decide) h
theorem uM31 (L : LM X o) {i : Nat} {w : Int32} (h : i < 64) : uI X (mA o 31) (nI i) w = some (wF X (mA o 31) (va_up (xA X (mA o 31)) i w)) := uI_M L w (by decide) (by decide) h
theorem rM32 (L : LM X o) : gR X o 10 32 = some (mA o 32) := gR_M L (by decide) (by decide)
theorem aM32 (L : LM X o) {i : Nat} (h : i < 64) : aI X (mA o 32) 1 (nI i) = some (xA X (mA o 32) i) := aI_M L (by decide) (by decide) h
theorem uM32 (L : LM X o) {i : Nat} {w : Int32} (h : i < 64) : uI X (mA o 32) (nI i) w = some (wF X (mA o 32) (va_up (xA X (mA o 32)) i w)) := uI_M L w (by decide) (by decide) h
theorem rM33 (L : LM X o) : gR X o 10 33 = some (mA o 33) := gR_M L (by decide) (by decide)
theorem aM33 (L : LM X o) {i : Nat} (h : i < 64) : aI X (mA o 33) 1 (nI i) = some (xA X (mA o 33) i) := aI_M L (by decide) (by decide) h
theorem uM33 (L : LM X o) {i : Nat} {w : Int32} (h : i < 64) : uI X (mA o 33) (nI i) w = some (wF X (mA o 33) (va_up (xA X (mA o 33)) i w)) := uI_M L w (by decide) (by decide) h
theorem rM34 (L : LM X o) : gR X o 10 34 = some (mA o 34) := gR_M L (by decide) (by decide)
theorem aM34 (L : LM X o) {i : Nat} (h : i < 64) : aI X (mA o 34) 3 (nI i) = some (xA X (mA o 34) i) := aI_M L (by decide) (by decide) h
theorem uM34 (L : LM X o) {i : Nat} {w : Int32} (h : i < 64) (hw : w = 0 ∨ w = 1) : uZ X (mA o 34) (nI i) w = some (wF X (mA o 34) (va_up (xA X (mA o 34)) i w)) := (uZ_M L w (by decide) (by decide) h).trans (by rw [nar1 hw])
theorem rM35 (L : LM X o) : gR X o 10 35 = some (mA o 35) := gR_M L (by decide) (by decide)
theorem aM35 (L : LM X o) {i : Nat} (h : i < 64) : aI X (mA o 35) 3 (nI i) = some (xA X (mA o 35) i) := aI_M L (by decide) (by decide) h
theorem uM35 (L : LM X o) {i : Nat} {w : Int32} (h : i < 64) (hw : w = 0 ∨ w = 1) : uZ X (mA o 35) (nI i) w = some (wF X (mA o 35) (va_up (xA X (mA o 35)) i w)) := (uZ_M L w (by decide) (by decide) h).trans (by rw [nar1 hw])
theorem rM36 (L : LM X o) : gR X o 10 36 = some (mA o 36) := gR_M L (by decide) (by decide)
theorem aM36 (L : LM X o) {i : Nat} (h : i < 4) : aI X (mA o 36) 1 (nI i) = some (xA X (mA o 36) i) := aI_M L (by decide) (by decide) h
theorem uM36 (L : LM X o) {i : Nat} {w : Int32} (h : i < 4) : uI X (mA o 36) (nI i) w = some (wF X (mA o 36) (va_up (xA X (mA o 36)) i w)) := uI_M L w (by decide) (by decide) h
theorem rM37 (L : LM X o) : gR X o 10 37 = some (mA o 37) := gR_M L (by decide) (by decide)
theorem aM37 (L : LM X o) {i : Nat} (h : i < 960) : aI X (mA o 37) 1 (nI i) = some (xA X (mA o 37) i) := aI_M L (by decide) (by decide) h
theorem uM37 (L : LM X o) {i : Nat} {w : Int32} (h : i < 960) : uI X (mA o 37) (nI i) w = some (wF X (mA o 37) (va_up (xA X (mA o 37)) i w)) := uI_M L w (by decide) (by decide) h
theorem rM41 (L : LM X o) : gR X o 10 41 = some (mA o 41) := gR_M L (by decide) (by decide)
theorem aM41 (L : LM X o) {i : Nat} (h : i < 17) : aI X (mA o 41) 1 (nI i) = some (xA X (mA o 41) i) := aI_M L (by decide) (by decide) h
theorem uM41 (L : LM X o) {i : Nat} {w : Int32} (h : i < 17) : uI X (mA o 41) (nI i) w = some (wF X (mA o 41) (va_up (xA X (mA o 41)) i w)) := uI_M L w (by decide) (by decide) h
theorem rM43 (L : LM X o) : gR X o 10 43 = some (mA o 43) := gR_M L (by decide) (by decide)
theorem aM43 (L : LM X o) {i : Nat} (h : i < 16) : aI X (mA o 43) 1 (nI i) = some (xA X (mA o 43) i) := aI_M L (by decide) (by decide) h
theorem uM43 (L : LM X o) {i : Nat} {w : Int32} (h : i < 16) : uI X (mA o 43) (nI i) w = some (wF X (mA o 43) (va_up (xA X (mA o 43)) i w)) := uI_M L w (by decide) (by decide) h
theorem rM44 (L : LM X o) : gR X o 10 44 = some (mA o 44) := gR_M L (by decide) (by decide)
theorem aM44 (L : LM X o) {i : Nat} (h : i < 16) : aI X (mA o 44) 1 (nI i) = some (xA X (mA o 44) i) := aI_M L (by decide) (by decide) h
theorem uM44 (L : LM X o) {i : Nat} {w : Int32} (h : i < 16) : uI X (mA o 44) (nI i) w = some (wF X (mA o 44) (va_up (xA X (mA o 44)) i w)) := uI_M L w (by decide) (by decide) h
theorem rM45 (L : LM X o) : gR X o 10 45 = some (mA o 45) := gR_M L (by decide) (by decide)
theorem aM45 (L : LM X o) {i : Nat} (h : i < 16) : aI X (mA o 45) 1 (nI i) = some (xA X (mA o 45) i) := aI_M L (by decide) (by decide) h
theorem uM45 (L : LM X o) {i : Nat} {w : Int32} (h : i < 16) : uI X (mA o 45) (nI i) w = some (wF X (mA o 45) (va_up (xA X (mA o 45)) i w)) := uI_M L w (by decide) (by decide) h
theorem rM46 (L : LM X o) : gR X o 10 46 = some (mA o 46) := gR_M L (by decide) (by decide)
theorem aM46 (L : LM X o) {i : Nat} (h : i < 16) : aI X (mA o 46) 3 (nI i) = some (xA X (mA o 46) i) := aI_M L (by decide) (by decide) h
theorem uM46 (L : LM X o) {i : Nat} {w : Int32} (h : i < 16) (hw : w = 0 ∨ w = 1) : uZ X (mA o 46) (nI i) w = some (wF X (mA o 46) (va_up (xA X (mA o 46)) i w)) := (uZ_M L w (by decide) (by decide) h).trans (by rw [nar1 hw])
theorem rM48 (L : LM X o) : gR X o 10 48 = some (mA o 48) := gR_M L (by decide) (by decide)
theorem aM48 (L : LM X o) {i : Nat} (h : i < 80) : aI X (mA o 48) 1 (nI i) = some (xA X (mA o 48) i) := aI_M L (by decide) (by decide) h
theorem uM48 (L : LM X o) {i : Nat} {w : Int32} (h : i < 80) : uI X (mA o 48) (nI i) w = some (wF X (mA o 48) (va_up (xA X (mA o 48)) i w)) := uI_M L w (by decide) (by decide) h
theorem rM49 (L : LM X o) : gR X o 10 49 = some (mA o 49) := gR_M L (by decide) (by decide)
theorem aM49 (L : LM X o) {i : Nat} (h : i < 80) : aI X (mA o 49) 1 (nI i) = some (xA X (mA o 49) i) := aI_M L (by decide) (by decide) h
theorem uM49 (L : LM X o) {i : Nat} {w : Int32} (h : i < 80) : uI X (mA o 49) (nI i) w = some (wF X (mA o 49) (va_up (xA X (mA o 49)) i w)) := uI_M L w (by decide) (by decide) h
theorem rM50 (L : LM X o) : gR X o 10 50 = some (mA o 50) := gR_M L (by decide) (by decide)
theorem aM50 (L : LM X o) {i : Nat} (h : i < 80) : aI X (mA o 50) 1 (nI i) = some (xA X (mA o 50) i) := aI_M L (by decide) (by decide) h
theorem uM50 (L : LM X o) {i : Nat} {w : Int32} (h : i < 80) : uI X (mA o 50) (nI i) w = some (wF X (mA o 50) (va_up (xA X (mA o 50)) i w)) := uI_M L w (by decide) (by decide) h
theorem rM51 (L : LM X o) : gR X o 10 51 = some (mA o 51) := gR_M L (by decide) (by decide)
theorem aM51 (L : LM X o) {i : Nat} (h : i < 80) : aI X (mA o 51) 3 (nI i) = some (xA X (mA o 51) i) := aI_M L (by decide) (by decide) h
theorem uM51 (L : LM X o) {i : Nat} {w : Int32} (h : i < 80) (hw : w = 0 ∨ w = 1) : uZ X (mA o 51) (nI i) w = some (wF X (mA o 51) (va_up (xA X (mA o 51)) i w)) := (uZ_M L w (by decide) (by decide) h).trans (by rw [nar1 hw])
theorem rM52 (L : LM X o) : gR X o 10 52 = some (mA o 52) := gR_M L (by decide) (by decide)
theorem aM52 (L : LM X o) {i : Nat} (h : i < 240) : aI X (mA o 52) 1 (nI i) = some (xA X (mA o 52) i) := aI_M L (by decide) (by decide) h
theorem uM52 (L : LM X o) {i : Nat} {w : Int32} (h : i < 240) : uI X (mA o 52) (nI i) w = some (wF X (mA o 52) (va_up (xA X (mA o 52)) i w)) := uI_M L w (by decide) (by decide) h
theorem rM53 (L : LM X o) : gR X o 10 53 = some (mA o 53) := gR_M L (by decide) (by decide)
theorem aM53 (L : LM X o) {i : Nat} (h : i < 16) : aI X (mA o 53) 1 (nI i) = some (xA X (mA o 53) i) := aI_M L (by decide) (by decide) h
theorem uM53 (L : LM X o) {i : Nat} {w : Int32} (h : i < 16) : uI X (mA o 53) (nI i) w = some (wF X (mA o 53) (va_up (xA X (mA o 53)) i w)) := uI_M L w (by decide) (by decide) h
theorem rM54 (L : LM X o) : gR X o 10 54 = some (mA o 54) := gR_M L (by decide) (by decide)
theorem aM54 (L : LM X o) {i : Nat} (h : i < 16) : aI X (mA o 54) 1 (nI i) = some (xA X (mA o 54) i) := aI_M L (by decide) (by decide) h
theorem uM54 (L : LM X o) {i : Nat} {w : Int32} (h : i < 16) : uI X (mA o 54) (nI i) w = some (wF X (mA o 54) (va_up (xA X (mA o 54)) i w)) := uI_M L w (by decide) (by decide) h
theorem rM56 (L : LM X o) : gR X o 10 56 = some (mA o 56) := gR_M L (by decide) (by decide)
theorem aM56 (L : LM X o) {i : Nat} (h : i < 320) : aI X (mA o 56) 1 (nI i) = some (xA X (mA o 56) i) := aI_M L (by decide) (by decide) h
theorem uM56 (L : LM X o) {i : Nat} {w : Int32} (h : i < 320) : uI X (mA o 56) (nI i) w = some (wF X (mA o 56) (va_up (xA X (mA o 56)) i w)) := uI_M L w (by decide) (by decide) h
theorem uL_M6 (L : LM X o) {i : Nat} {w : Int64} (h : i < 1002) : uL X (mA o 6) (nI i) w = some (wL X (mA o 6) i w) := by
  obtain ⟨-, h1, h2⟩ := L.2 6 (by decide) (by decide)
  unfold uL
  rw [if_pos ⟨h1, by rw [h2]; exact in_nI h (by decide)⟩, nI_clamp (by omega)]
theorem LM_wI {a k : Nat} {v : Int32} : LM (wI X a k v) o = LM X o := propext ⟨fun h => h.mv (tr1 rfl), fun h => h.mv (tr1 rfl)⟩
theorem LM_wF {a : Nat} {f : Nat → Int32} : LM (wF X a f) o = LM X o := propext ⟨fun h => h.mv (tr1 rfl), fun h => h.mv (tr1 rfl)⟩
end FldM
theorem Lt0 : ((0 : Int32)) = nI 0 := by decide
theorem Lt2 : ((2 : Int32)) = nI 2 := by decide
theorem Lt3 : ((3 : Int32)) = nI 3 := by decide
theorem Lt4 : ((4 : Int32)) = nI 4 := by decide
theorem Lt5 : ((5 : Int32)) = nI 5 := by decide
theorem Lt6 : ((6 : Int32)) = nI 6 := by decide
theorem Lt7 : ((7 : Int32)) = nI 7 := by decide
theorem Lt8 : ((8 : Int32)) = nI 8 := by decide
theorem Lt9 : ((9 : Int32)) = nI 9 := by decide
theorem Lt10 : ((10 : Int32)) = nI 10 := by decide
theorem Lt11 : ((11 : Int32)) = nI 11 := by decide
theorem Lt12 : ((12 : Int32)) = nI 12 := by decide
theorem Lt13 : ((13 : Int32)) = nI 13 := by decide
theorem Lt14 : ((14 : Int32)) = nI 14 := by decide
theorem Lt16 : ((16 : Int32)) = nI 16 := by decide
theorem Lt17 : ((17 : Int32)) = nI 17 := by decide
theorem Lt18 : ((18 : Int32)) = nI 18 := by decide
theorem Lt19 : ((19 : Int32)) = nI 19 := by decide
theorem Lt20 : ((20 : Int32)) = nI 20 := by decide
theorem Lt21 : ((21 : Int32)) = nI 21 := by decide
theorem Lt22 : ((22 : Int32)) = nI 22 := by decide
theorem Lt23 : ((23 : Int32)) = nI 23 := by decide
theorem Lt24 : ((24 : Int32)) = nI 24 := by decide
theorem Lt25 : ((25 : Int32)) = nI 25 := by decide
theorem Lt26 : ((26 : Int32)) = nI 26 := by decide
theorem Lt50 : ((50 : Int32)) = nI 50 := by decide
theorem Lt80 : ((80 : Int32)) = nI 80 := by decide
theorem Lt99 : ((99 : Int32)) = nI 99 := by decide
theorem Lt100 : ((100 : Int32)) = nI 100 := by decide
theorem Lt240 : ((240 : Int32)) = nI 240 := by decide
theorem Lt1000 : ((1000 : Int32)) = nI 1000 := by decide
theorem Lt1060 : ((1060 : Int32)) = nI 1060 := by decide
theorem nI_mul (a b : Nat) : nI a * nI b = nI (a * b) := (Int32.ofNat_mul a b).symm
theorem nI_subI {a b : Nat} (h : b ≤ a) : nI a - nI b = nI (a - b) := by
  obtain ⟨c, rfl⟩ : ∃ c, a = b + c := ⟨a - b, by omega⟩
  rw [← nI_add, Int32.add_comm, Int32.add_sub_cancel, Nat.add_sub_cancel_left]
theorem nI_p1 {a : Nat} (h : 0 < a) : nI a - 1 = nI (a - 1) := nI_subI (b := 1) h
theorem nI_m1 {a : Nat} (h : 0 < a) : nI a + (-1) = nI (a - 1) := by
  rw [← nI_p1 h]
  exact (Int32.sub_eq_add_neg ..).symm
theorem leT {a b : Nat} (h : a ≤ b) : (a ≤ b) = True := eq_true h
theorem leF {a b : Nat} (h : ¬ a ≤ b) : (a ≤ b) = False := eq_false h
theorem ltT {a b : Nat} (h : a < b) : (a < b) = True := eq_true h
theorem ltF {a b : Nat} (h : ¬ a < b) : (a < b) = False := eq_false h
theorem nI_n0 {n : Nat} (h : n < 2 ^ 31) : (nI n < 0) = False := eq_false (nI_pos h)
def ps (f : Nat → Nat) : Nat → Nat
  | 0 => 0
  | k + 1 => ps f k + f k
theorem ps_mono {f : Nat → Nat} {a b : Nat} (h : a ≤ b) : ps f a ≤ ps f b := by
  induction b with
  | zero => obtain rfl : a = 0 := by omega
            exact Nat.le_refl _
  | succ b ih =>
    by_cases h2 : a ≤ b
    · exact Nat.le_trans (ih h2) (Nat.le_add_right _ _)
    · obtain rfl : a = b + 1 := by omega
      exact Nat.le_refl _
theorem ps_bd {f : Nat → Nat} {w m : Nat} (h : ∀ k, k < w → f k ≤ m) : ∀ k, k ≤ w → ps f k ≤ m * k
  | 0, _ => Nat.le_refl _
  | k + 1, hk => by
    have h1 := ps_bd h k (by omega)
    have h2 := h k (by omega)
    show ps f k + f k ≤ m * (k + 1)
    rw [Nat.mul_succ]; omega
theorem ps_congr {f g : Nat → Nat} : ∀ {k : Nat}, (∀ j, j < k → f j = g j) → ps f k = ps g k
  | 0, _ => rfl
  | k + 1, h => by
    show ps f k + f k = ps g k + g k
    rw [ps_congr (fun j hj => h j (by omega)), h k (by omega)]
