/-! the state s (rows of numbers; row 0 the counters), and what the cells of both sides say of it -/
abbrev SS : Type := Nat → Nat → Nat
/-- a day that never comes, as the class writes it -/
def dC (x : Nat) : Nat := if x = 100000 then 4000 else x
def okDy (x now : Nat) : Prop := x ≤ now ∨ x = 100000
def CN (s : SS) (h : HS) : Prop := (hI h 32 0 = nI (s 0 0) ∧ hI h 86 1 = nI (s 0 0) ∧ s 0 0 ≤ 3999) ∧
  (hI h 33 0 = nI (s 0 1) ∧ hI h 86 2 = nI (s 0 1) ∧ s 0 1 ≤ 20) ∧
  (hI h 33 1 = nI (s 0 2) ∧ hI h 86 3 = nI (s 0 2) ∧ s 0 2 ≤ 200) ∧
  (hI h 32 2 = nI (s 0 3) ∧ hI h 86 14 = nI (s 0 3) ∧ s 0 3 ≤ 200) ∧
  (hI h 50 0 = nI (s 0 4) ∧ hI h 86 20 = nI (s 0 4) ∧ s 0 4 ≤ 60) ∧
  (hI h 50 2 = nI (s 0 5) ∧ hI h 86 21 = nI (s 0 5) ∧ s 0 5 ≤ 400) ∧
  (hI h 50 1 = nI (s 0 6) ∧ hI h 86 31 = nI (s 0 6) ∧ s 0 6 ≤ 40) ∧
  (hI h 50 3 = nI (s 0 7) ∧ hI h 86 32 = nI (s 0 7) ∧ s 0 7 ≤ 200) ∧
  (hI h 50 4 = nI (s 0 8) ∧ hI h 86 33 = nI (s 0 8) ∧ s 0 8 ≤ 200) ∧
  (hI h 32 3 = nI (s 0 9) ∧ hI h 86 58 = nI (s 0 9) ∧ s 0 9 ≤ 20) ∧
  (hI h 32 4 = nI (s 0 10) ∧ hI h 86 72 = nI (s 0 10) ∧ s 0 10 ≤ 30) ∧
  (hI h 68 0 = nI (s 0 11) ∧ hI h 86 85 = nI (s 0 11) ∧ s 0 11 ≤ 60) ∧
  (hI h 57 0 = nI (s 0 12) ∧ hI h 86 52 = nI (s 0 12) ∧ s 0 12 ≤ 400) ∧
  (hI h 77 1 = nI (s 0 13) ∧ hI h 86 91 = nI (s 0 13) ∧ s 0 13 ≤ 12)
theorem CN.c0 {s : SS} {h : HS} (H : CN s h) : hI h 32 0 = nI (s 0 0) := H.1.1
theorem CN.m0 {s : SS} {h : HS} (H : CN s h) : hI h 86 1 = nI (s 0 0) := H.1.2.1
theorem CN.b0 {s : SS} {h : HS} (H : CN s h) : s 0 0 ≤ 3999 := H.1.2.2
theorem CN.c1 {s : SS} {h : HS} (H : CN s h) : hI h 33 0 = nI (s 0 1) := H.2.1.1
theorem CN.m1 {s : SS} {h : HS} (H : CN s h) : hI h 86 2 = nI (s 0 1) := H.2.1.2.1
theorem CN.b1 {s : SS} {h : HS} (H : CN s h) : s 0 1 ≤ 20 := H.2.1.2.2
theorem CN.c2 {s : SS} {h : HS} (H : CN s h) : hI h 33 1 = nI (s 0 2) := H.2.2.1.1
theorem CN.m2 {s : SS} {h : HS} (H : CN s h) : hI h 86 3 = nI (s 0 2) := H.2.2.1.2.1
theorem CN.b2 {s : SS} {h : HS} (H : CN s h) : s 0 2 ≤ 200 := H.2.2.1.2.2
theorem CN.c3 {s : SS} {h : HS} (H : CN s h) : hI h 32 2 = nI (s 0 3) := H.2.2.2.1.1
theorem CN.m3 {s : SS} {h : HS} (H : CN s h) : hI h 86 14 = nI (s 0 3) := H.2.2.2.1.2.1
theorem CN.b3 {s : SS} {h : HS} (H : CN s h) : s 0 3 ≤ 200 := H.2.2.2.1.2.2
theorem CN.c4 {s : SS} {h : HS} (H : CN s h) : hI h 50 0 = nI (s 0 4) := H.2.2.2.2.1.1
theorem CN.m4 {s : SS} {h : HS} (H : CN s h) : hI h 86 20 = nI (s 0 4) := H.2.2.2.2.1.2.1
theorem CN.b4 {s : SS} {h : HS} (H : CN s h) : s 0 4 ≤ 60 := H.2.2.2.2.1.2.2
theorem CN.c5 {s : SS} {h : HS} (H : CN s h) : hI h 50 2 = nI (s 0 5) := H.2.2.2.2.2.1.1
theorem CN.m5 {s : SS} {h : HS} (H : CN s h) : hI h 86 21 = nI (s 0 5) := H.2.2.2.2.2.1.2.1
theorem CN.b5 {s : SS} {h : HS} (H : CN s h) : s 0 5 ≤ 400 := H.2.2.2.2.2.1.2.2
theorem CN.c6 {s : SS} {h : HS} (H : CN s h) : hI h 50 1 = nI (s 0 6) := H.2.2.2.2.2.2.1.1
theorem CN.m6 {s : SS} {h : HS} (H : CN s h) : hI h 86 31 = nI (s 0 6) := H.2.2.2.2.2.2.1.2.1
theorem CN.b6 {s : SS} {h : HS} (H : CN s h) : s 0 6 ≤ 40 := H.2.2.2.2.2.2.1.2.2
theorem CN.c7 {s : SS} {h : HS} (H : CN s h) : hI h 50 3 = nI (s 0 7) := H.2.2.2.2.2.2.2.1.1
theorem CN.m7 {s : SS} {h : HS} (H : CN s h) : hI h 86 32 = nI (s 0 7) := H.2.2.2.2.2.2.2.1.2.1
theorem CN.b7 {s : SS} {h : HS} (H : CN s h) : s 0 7 ≤ 200 := H.2.2.2.2.2.2.2.1.2.2
theorem CN.c8 {s : SS} {h : HS} (H : CN s h) : hI h 50 4 = nI (s 0 8) := H.2.2.2.2.2.2.2.2.1.1
theorem CN.m8 {s : SS} {h : HS} (H : CN s h) : hI h 86 33 = nI (s 0 8) := H.2.2.2.2.2.2.2.2.1.2.1
theorem CN.b8 {s : SS} {h : HS} (H : CN s h) : s 0 8 ≤ 200 := H.2.2.2.2.2.2.2.2.1.2.2
theorem CN.c9 {s : SS} {h : HS} (H : CN s h) : hI h 32 3 = nI (s 0 9) := H.2.2.2.2.2.2.2.2.2.1.1
theorem CN.m9 {s : SS} {h : HS} (H : CN s h) : hI h 86 58 = nI (s 0 9) := H.2.2.2.2.2.2.2.2.2.1.2.1
theorem CN.b9 {s : SS} {h : HS} (H : CN s h) : s 0 9 ≤ 20 := H.2.2.2.2.2.2.2.2.2.1.2.2
theorem CN.c10 {s : SS} {h : HS} (H : CN s h) : hI h 32 4 = nI (s 0 10) := H.2.2.2.2.2.2.2.2.2.2.1.1
theorem CN.m10 {s : SS} {h : HS} (H : CN s h) : hI h 86 72 = nI (s 0 10) := H.2.2.2.2.2.2.2.2.2.2.1.2.1
theorem CN.b10 {s : SS} {h : HS} (H : CN s h) : s 0 10 ≤ 30 := H.2.2.2.2.2.2.2.2.2.2.1.2.2
theorem CN.c11 {s : SS} {h : HS} (H : CN s h) : hI h 68 0 = nI (s 0 11) := H.2.2.2.2.2.2.2.2.2.2.2.1.1
theorem CN.m11 {s : SS} {h : HS} (H : CN s h) : hI h 86 85 = nI (s 0 11) := H.2.2.2.2.2.2.2.2.2.2.2.1.2.1
theorem CN.b11 {s : SS} {h : HS} (H : CN s h) : s 0 11 ≤ 60 := H.2.2.2.2.2.2.2.2.2.2.2.1.2.2
theorem CN.c12 {s : SS} {h : HS} (H : CN s h) : hI h 57 0 = nI (s 0 12) := H.2.2.2.2.2.2.2.2.2.2.2.2.1.1
theorem CN.m12 {s : SS} {h : HS} (H : CN s h) : hI h 86 52 = nI (s 0 12) := H.2.2.2.2.2.2.2.2.2.2.2.2.1.2.1
theorem CN.b12 {s : SS} {h : HS} (H : CN s h) : s 0 12 ≤ 400 := H.2.2.2.2.2.2.2.2.2.2.2.2.1.2.2
theorem CN.c13 {s : SS} {h : HS} (H : CN s h) : hI h 77 1 = nI (s 0 13) := H.2.2.2.2.2.2.2.2.2.2.2.2.2.1
theorem CN.m13 {s : SS} {h : HS} (H : CN s h) : hI h 86 91 = nI (s 0 13) := H.2.2.2.2.2.2.2.2.2.2.2.2.2.2.1
theorem CN.b13 {s : SS} {h : HS} (H : CN s h) : s 0 13 ≤ 12 := H.2.2.2.2.2.2.2.2.2.2.2.2.2.2.2
/-- the sheets -/
def SHc (s : SS) (h : HS) : Prop := ∀ i, i < s 0 3 → (hI h 95 i = nI (s 1 i)) ∧
  (hI h 96 i = nI (s 2 i)) ∧
  (hI h 97 i = nI (s 3 i)) ∧
  (hI h 98 i = nI (s 4 i)) ∧
  (hI h 99 i = nI (s 5 i)) ∧
  (hR h 49 i = some (s 30 i)) ∧
  (hT h (s 30 i) = 9) ∧
  (hI h (s 30 i) 0 = nI i) ∧
  (hI h (s 30 i) 1 = nI (s 1 i)) ∧
  (hI h (s 30 i) 2 = nI (dC (s 2 i))) ∧
  (hI h (s 30 i) 3 = nI (dC (s 3 i))) ∧
  (hI h (s 30 i) 4 = nI (s 4 i)) ∧
  (hI h (s 30 i) 7 = nI (s 5 i)) ∧
  (s 1 i ≤ 3999) ∧
  (okDy (s 2 i) 3999) ∧
  (okDy (s 3 i) 3999) ∧
  (s 4 i ≤ 8) ∧
  (s 5 i ≤ 20) ∧
  (hR h (s 30 i) 8 = some (s 30 i + 1)) ∧
  (hR h (s 30 i) 9 = some (s 30 i + 2)) ∧
  (hR h (s 30 i) 10 = some (s 30 i + 3)) ∧
  (hR h (s 30 i) 11 = some (s 30 i + 4)) ∧
  (hR h (s 30 i) 12 = some (s 30 i + 5)) ∧
  (hT h (s 30 i + 1) = 23 ∧ hN h (s 30 i + 1) = 20) ∧
  (hT h (s 30 i + 2) = 20 ∧ hN h (s 30 i + 2) = 20) ∧
  (hT h (s 30 i + 3) = 20 ∧ hN h (s 30 i + 3) = 20) ∧
  (hT h (s 30 i + 4) = 20 ∧ hN h (s 30 i + 4) = 20) ∧
  (hT h (s 30 i + 5) = 20 ∧ hN h (s 30 i + 5) = 20) ∧
  (160 ≤ s 30 i) ∧
  (s 30 i + 6 ≤ h.1)
theorem SHc.m1 {s : SS} {h : HS} (H : SHc s h) {i : Nat} (hi : i < s 0 3) : hI h 95 i = nI (s 1 i) := (H i hi).1
theorem SHc.m2 {s : SS} {h : HS} (H : SHc s h) {i : Nat} (hi : i < s 0 3) : hI h 96 i = nI (s 2 i) := (H i hi).2.1
theorem SHc.m3 {s : SS} {h : HS} (H : SHc s h) {i : Nat} (hi : i < s 0 3) : hI h 97 i = nI (s 3 i) := (H i hi).2.2.1
theorem SHc.m4 {s : SS} {h : HS} (H : SHc s h) {i : Nat} (hi : i < s 0 3) : hI h 98 i = nI (s 4 i) := (H i hi).2.2.2.1
theorem SHc.m5 {s : SS} {h : HS} (H : SHc s h) {i : Nat} (hi : i < s 0 3) : hI h 99 i = nI (s 5 i) := (H i hi).2.2.2.2.1
theorem SHc.o {s : SS} {h : HS} (H : SHc s h) {i : Nat} (hi : i < s 0 3) : hR h 49 i = some (s 30 i) := (H i hi).2.2.2.2.2.1
theorem SHc.t {s : SS} {h : HS} (H : SHc s h) {i : Nat} (hi : i < s 0 3) : hT h (s 30 i) = 9 := (H i hi).2.2.2.2.2.2.1
theorem SHc.f0 {s : SS} {h : HS} (H : SHc s h) {i : Nat} (hi : i < s 0 3) : hI h (s 30 i) 0 = nI i := (H i hi).2.2.2.2.2.2.2.1
theorem SHc.f1 {s : SS} {h : HS} (H : SHc s h) {i : Nat} (hi : i < s 0 3) : hI h (s 30 i) 1 = nI (s 1 i) := (H i hi).2.2.2.2.2.2.2.2.1
theorem SHc.f2 {s : SS} {h : HS} (H : SHc s h) {i : Nat} (hi : i < s 0 3) : hI h (s 30 i) 2 = nI (dC (s 2 i)) := (H i hi).2.2.2.2.2.2.2.2.2.1
theorem SHc.f3 {s : SS} {h : HS} (H : SHc s h) {i : Nat} (hi : i < s 0 3) : hI h (s 30 i) 3 = nI (dC (s 3 i)) := (H i hi).2.2.2.2.2.2.2.2.2.2.1
theorem SHc.f4 {s : SS} {h : HS} (H : SHc s h) {i : Nat} (hi : i < s 0 3) : hI h (s 30 i) 4 = nI (s 4 i) := (H i hi).2.2.2.2.2.2.2.2.2.2.2.1
theorem SHc.f7 {s : SS} {h : HS} (H : SHc s h) {i : Nat} (hi : i < s 0 3) : hI h (s 30 i) 7 = nI (s 5 i) := (H i hi).2.2.2.2.2.2.2.2.2.2.2.2.1
theorem SHc.b1 {s : SS} {h : HS} (H : SHc s h) {i : Nat} (hi : i < s 0 3) : s 1 i ≤ 3999 := (H i hi).2.2.2.2.2.2.2.2.2.2.2.2.2.1
theorem SHc.b2 {s : SS} {h : HS} (H : SHc s h) {i : Nat} (hi : i < s 0 3) : okDy (s 2 i) 3999 := (H i hi).2.2.2.2.2.2.2.2.2.2.2.2.2.2.1
theorem SHc.b3 {s : SS} {h : HS} (H : SHc s h) {i : Nat} (hi : i < s 0 3) : okDy (s 3 i) 3999 := (H i hi).2.2.2.2.2.2.2.2.2.2.2.2.2.2.2.1
theorem SHc.b4 {s : SS} {h : HS} (H : SHc s h) {i : Nat} (hi : i < s 0 3) : s 4 i ≤ 8 := (H i hi).2.2.2.2.2.2.2.2.2.2.2.2.2.2.2.2.1
theorem SHc.b5 {s : SS} {h : HS} (H : SHc s h) {i : Nat} (hi : i < s 0 3) : s 5 i ≤ 20 := (H i hi).2.2.2.2.2.2.2.2.2.2.2.2.2.2.2.2.2.1
theorem SHc.r8 {s : SS} {h : HS} (H : SHc s h) {i : Nat} (hi : i < s 0 3) : hR h (s 30 i) 8 = some (s 30 i + 1) := (H i hi).2.2.2.2.2.2.2.2.2.2.2.2.2.2.2.2.2.2.1
theorem SHc.r9 {s : SS} {h : HS} (H : SHc s h) {i : Nat} (hi : i < s 0 3) : hR h (s 30 i) 9 = some (s 30 i + 2) := (H i hi).2.2.2.2.2.2.2.2.2.2.2.2.2.2.2.2.2.2.2.1
theorem SHc.r10 {s : SS} {h : HS} (H : SHc s h) {i : Nat} (hi : i < s 0 3) : hR h (s 30 i) 10 = some (s 30 i + 3) := (H i hi).2.2.2.2.2.2.2.2.2.2.2.2.2.2.2.2.2.2.2.2.1
theorem SHc.r11 {s : SS} {h : HS} (H : SHc s h) {i : Nat} (hi : i < s 0 3) : hR h (s 30 i) 11 = some (s 30 i + 4) := (H i hi).2.2.2.2.2.2.2.2.2.2.2.2.2.2.2.2.2.2.2.2.2.1
theorem SHc.r12 {s : SS} {h : HS} (H : SHc s h) {i : Nat} (hi : i < s 0 3) : hR h (s 30 i) 12 = some (s 30 i + 5) := (H i hi).2.2.2.2.2.2.2.2.2.2.2.2.2.2.2.2.2.2.2.2.2.2.1
theorem SHc.t1 {s : SS} {h : HS} (H : SHc s h) {i : Nat} (hi : i < s 0 3) : hT h (s 30 i + 1) = 23 ∧ hN h (s 30 i + 1) = 20 := (H i hi).2.2.2.2.2.2.2.2.2.2.2.2.2.2.2.2.2.2.2.2.2.2.2.1
theorem SHc.t2 {s : SS} {h : HS} (H : SHc s h) {i : Nat} (hi : i < s 0 3) : hT h (s 30 i + 2) = 20 ∧ hN h (s 30 i + 2) = 20 := (H i hi).2.2.2.2.2.2.2.2.2.2.2.2.2.2.2.2.2.2.2.2.2.2.2.2.1
theorem SHc.t3 {s : SS} {h : HS} (H : SHc s h) {i : Nat} (hi : i < s 0 3) : hT h (s 30 i + 3) = 20 ∧ hN h (s 30 i + 3) = 20 := (H i hi).2.2.2.2.2.2.2.2.2.2.2.2.2.2.2.2.2.2.2.2.2.2.2.2.2.1
theorem SHc.t4 {s : SS} {h : HS} (H : SHc s h) {i : Nat} (hi : i < s 0 3) : hT h (s 30 i + 4) = 20 ∧ hN h (s 30 i + 4) = 20 := (H i hi).2.2.2.2.2.2.2.2.2.2.2.2.2.2.2.2.2.2.2.2.2.2.2.2.2.2.1
theorem SHc.t5 {s : SS} {h : HS} (H : SHc s h) {i : Nat} (hi : i < s 0 3) : hT h (s 30 i + 5) = 20 ∧ hN h (s 30 i + 5) = 20 := (H i hi).2.2.2.2.2.2.2.2.2.2.2.2.2.2.2.2.2.2.2.2.2.2.2.2.2.2.2.1
theorem SHc.lo {s : SS} {h : HS} (H : SHc s h) {i : Nat} (hi : i < s 0 3) : 160 ≤ s 30 i := (H i hi).2.2.2.2.2.2.2.2.2.2.2.2.2.2.2.2.2.2.2.2.2.2.2.2.2.2.2.2.1
theorem SHc.hi {s : SS} {h : HS} (H : SHc s h) {i : Nat} (hi : i < s 0 3) : s 30 i + 6 ≤ h.1 := (H i hi).2.2.2.2.2.2.2.2.2.2.2.2.2.2.2.2.2.2.2.2.2.2.2.2.2.2.2.2.2
/-- what was seen -/
def SNc (s : SS) (h : HS) : Prop := ∀ i, i < s 0 5 → (hI h 103 i = nI (s 6 i)) ∧
  (hI h 104 i = nI (s 7 i)) ∧
  (hI h 105 i = nI (s 8 i)) ∧
  (hI h 106 i = nI (s 9 i)) ∧
  (hI h 107 i = nI (s 10 i)) ∧
  (hI h 108 i = nI (s 11 i)) ∧
  (hR h 53 i = some (s 31 i)) ∧
  (hT h (s 31 i) = 5) ∧
  (hR h (s 31 i) 0 = none) ∧
  (hI h (s 31 i) 1 = nI (s 10 i)) ∧
  (hI h (s 31 i) 2 = nI (dC (s 11 i))) ∧
  (hI h (s 31 i) 4 = nI (s 6 i)) ∧
  (hI h (s 31 i) 6 = nI (s 7 i)) ∧
  (hI h (s 31 i) 8 = nI (s 8 i)) ∧
  (hI h (s 31 i) 9 = nI (s 9 i)) ∧
  (s 6 i < s 0 4) ∧
  (s 7 i ≤ 99) ∧
  (s 8 i ≤ s 9 i) ∧
  (s 9 i ≤ 9999) ∧
  (s 10 i ≤ 3999) ∧
  (okDy (s 11 i) 3999) ∧
  (160 ≤ s 31 i) ∧
  (s 31 i < h.1)
theorem SNc.m0 {s : SS} {h : HS} (H : SNc s h) {i : Nat} (hi : i < s 0 5) : hI h 103 i = nI (s 6 i) := (H i hi).1
theorem SNc.m1 {s : SS} {h : HS} (H : SNc s h) {i : Nat} (hi : i < s 0 5) : hI h 104 i = nI (s 7 i) := (H i hi).2.1
theorem SNc.m2 {s : SS} {h : HS} (H : SNc s h) {i : Nat} (hi : i < s 0 5) : hI h 105 i = nI (s 8 i) := (H i hi).2.2.1
theorem SNc.m3 {s : SS} {h : HS} (H : SNc s h) {i : Nat} (hi : i < s 0 5) : hI h 106 i = nI (s 9 i) := (H i hi).2.2.2.1
theorem SNc.m4 {s : SS} {h : HS} (H : SNc s h) {i : Nat} (hi : i < s 0 5) : hI h 107 i = nI (s 10 i) := (H i hi).2.2.2.2.1
theorem SNc.m5 {s : SS} {h : HS} (H : SNc s h) {i : Nat} (hi : i < s 0 5) : hI h 108 i = nI (s 11 i) := (H i hi).2.2.2.2.2.1
theorem SNc.o {s : SS} {h : HS} (H : SNc s h) {i : Nat} (hi : i < s 0 5) : hR h 53 i = some (s 31 i) := (H i hi).2.2.2.2.2.2.1
theorem SNc.t {s : SS} {h : HS} (H : SNc s h) {i : Nat} (hi : i < s 0 5) : hT h (s 31 i) = 5 := (H i hi).2.2.2.2.2.2.2.1
theorem SNc.r0 {s : SS} {h : HS} (H : SNc s h) {i : Nat} (hi : i < s 0 5) : hR h (s 31 i) 0 = none := (H i hi).2.2.2.2.2.2.2.2.1
theorem SNc.f1 {s : SS} {h : HS} (H : SNc s h) {i : Nat} (hi : i < s 0 5) : hI h (s 31 i) 1 = nI (s 10 i) := (H i hi).2.2.2.2.2.2.2.2.2.1
theorem SNc.f2 {s : SS} {h : HS} (H : SNc s h) {i : Nat} (hi : i < s 0 5) : hI h (s 31 i) 2 = nI (dC (s 11 i)) := (H i hi).2.2.2.2.2.2.2.2.2.2.1
theorem SNc.f4 {s : SS} {h : HS} (H : SNc s h) {i : Nat} (hi : i < s 0 5) : hI h (s 31 i) 4 = nI (s 6 i) := (H i hi).2.2.2.2.2.2.2.2.2.2.2.1
theorem SNc.f6 {s : SS} {h : HS} (H : SNc s h) {i : Nat} (hi : i < s 0 5) : hI h (s 31 i) 6 = nI (s 7 i) := (H i hi).2.2.2.2.2.2.2.2.2.2.2.2.1
theorem SNc.f8 {s : SS} {h : HS} (H : SNc s h) {i : Nat} (hi : i < s 0 5) : hI h (s 31 i) 8 = nI (s 8 i) := (H i hi).2.2.2.2.2.2.2.2.2.2.2.2.2.1
theorem SNc.f9 {s : SS} {h : HS} (H : SNc s h) {i : Nat} (hi : i < s 0 5) : hI h (s 31 i) 9 = nI (s 9 i) := (H i hi).2.2.2.2.2.2.2.2.2.2.2.2.2.2.1
theorem SNc.b0 {s : SS} {h : HS} (H : SNc s h) {i : Nat} (hi : i < s 0 5) : s 6 i < s 0 4 := (H i hi).2.2.2.2.2.2.2.2.2.2.2.2.2.2.2.1
theorem SNc.b1 {s : SS} {h : HS} (H : SNc s h) {i : Nat} (hi : i < s 0 5) : s 7 i ≤ 99 := (H i hi).2.2.2.2.2.2.2.2.2.2.2.2.2.2.2.2.1
theorem SNc.b2 {s : SS} {h : HS} (H : SNc s h) {i : Nat} (hi : i < s 0 5) : s 8 i ≤ s 9 i := (H i hi).2.2.2.2.2.2.2.2.2.2.2.2.2.2.2.2.2.1
theorem SNc.b3 {s : SS} {h : HS} (H : SNc s h) {i : Nat} (hi : i < s 0 5) : s 9 i ≤ 9999 := (H i hi).2.2.2.2.2.2.2.2.2.2.2.2.2.2.2.2.2.2.1
theorem SNc.b4 {s : SS} {h : HS} (H : SNc s h) {i : Nat} (hi : i < s 0 5) : s 10 i ≤ 3999 := (H i hi).2.2.2.2.2.2.2.2.2.2.2.2.2.2.2.2.2.2.2.1
theorem SNc.b5 {s : SS} {h : HS} (H : SNc s h) {i : Nat} (hi : i < s 0 5) : okDy (s 11 i) 3999 := (H i hi).2.2.2.2.2.2.2.2.2.2.2.2.2.2.2.2.2.2.2.2.1
theorem SNc.lo {s : SS} {h : HS} (H : SNc s h) {i : Nat} (hi : i < s 0 5) : 160 ≤ s 31 i := (H i hi).2.2.2.2.2.2.2.2.2.2.2.2.2.2.2.2.2.2.2.2.2.1
theorem SNc.hi {s : SS} {h : HS} (H : SNc s h) {i : Nat} (hi : i < s 0 5) : s 31 i < h.1 := (H i hi).2.2.2.2.2.2.2.2.2.2.2.2.2.2.2.2.2.2.2.2.2.2
/-- the reports -/
def RPc (s : SS) (h : HS) : Prop := ∀ i, i < s 0 7 → (hI h 111 i = nI (s 12 i)) ∧
  (hI h 112 i = nI (s 13 i)) ∧
  (hI h 113 i = nI (s 14 i)) ∧
  (hI h 114 i = nI (s 15 i)) ∧
  (hI h 115 i = nI (s 16 i)) ∧
  (hI h 116 i = nI (s 17 i)) ∧
  (hI h 117 i = nI (s 18 i)) ∧
  (hI h 118 i = nI (s 19 i)) ∧
  (hI h 119 i = nI (s 20 i)) ∧
  (hR h 54 i = some (s 32 i)) ∧
  (hT h (s 32 i) = 5) ∧
  (hR h (s 32 i) 0 = some (s 30 (s 12 i))) ∧
  (hI h (s 32 i) 1 = nI (s 19 i)) ∧
  (hI h (s 32 i) 2 = nI (dC (s 20 i))) ∧
  (hI h (s 32 i) 3 = nI (s 13 i)) ∧
  (hI h (s 32 i) 4 = nI (s 14 i)) ∧
  (hI h (s 32 i) 5 = nI (s 15 i)) ∧
  (hI h (s 32 i) 6 = nI (s 16 i)) ∧
  (hI h (s 32 i) 8 = nI (s 17 i)) ∧
  (hI h (s 32 i) 9 = nI (s 18 i)) ∧
  (s 12 i < s 0 3) ∧
  (s 13 i < s 0 6) ∧
  (s 14 i < s 0 4) ∧
  (s 15 i < 32) ∧
  (s 16 i ≤ 99) ∧
  (s 17 i ≤ s 18 i) ∧
  (s 18 i ≤ 9999) ∧
  (s 19 i ≤ 3999) ∧
  (okDy (s 20 i) 3999) ∧
  (s 3 (s 12 i) = 100000 ∨ s 20 i ≤ 3999) ∧
  (160 ≤ s 32 i) ∧
  (s 32 i < h.1)
theorem RPc.m0 {s : SS} {h : HS} (H : RPc s h) {i : Nat} (hi : i < s 0 7) : hI h 111 i = nI (s 12 i) := (H i hi).1
theorem RPc.m1 {s : SS} {h : HS} (H : RPc s h) {i : Nat} (hi : i < s 0 7) : hI h 112 i = nI (s 13 i) := (H i hi).2.1
theorem RPc.m2 {s : SS} {h : HS} (H : RPc s h) {i : Nat} (hi : i < s 0 7) : hI h 113 i = nI (s 14 i) := (H i hi).2.2.1
theorem RPc.m3 {s : SS} {h : HS} (H : RPc s h) {i : Nat} (hi : i < s 0 7) : hI h 114 i = nI (s 15 i) := (H i hi).2.2.2.1
theorem RPc.m4 {s : SS} {h : HS} (H : RPc s h) {i : Nat} (hi : i < s 0 7) : hI h 115 i = nI (s 16 i) := (H i hi).2.2.2.2.1
theorem RPc.m5 {s : SS} {h : HS} (H : RPc s h) {i : Nat} (hi : i < s 0 7) : hI h 116 i = nI (s 17 i) := (H i hi).2.2.2.2.2.1
theorem RPc.m6 {s : SS} {h : HS} (H : RPc s h) {i : Nat} (hi : i < s 0 7) : hI h 117 i = nI (s 18 i) := (H i hi).2.2.2.2.2.2.1
theorem RPc.m7 {s : SS} {h : HS} (H : RPc s h) {i : Nat} (hi : i < s 0 7) : hI h 118 i = nI (s 19 i) := (H i hi).2.2.2.2.2.2.2.1
theorem RPc.m8 {s : SS} {h : HS} (H : RPc s h) {i : Nat} (hi : i < s 0 7) : hI h 119 i = nI (s 20 i) := (H i hi).2.2.2.2.2.2.2.2.1
theorem RPc.o {s : SS} {h : HS} (H : RPc s h) {i : Nat} (hi : i < s 0 7) : hR h 54 i = some (s 32 i) := (H i hi).2.2.2.2.2.2.2.2.2.1
theorem RPc.t {s : SS} {h : HS} (H : RPc s h) {i : Nat} (hi : i < s 0 7) : hT h (s 32 i) = 5 := (H i hi).2.2.2.2.2.2.2.2.2.2.1
theorem RPc.r0 {s : SS} {h : HS} (H : RPc s h) {i : Nat} (hi : i < s 0 7) : hR h (s 32 i) 0 = some (s 30 (s 12 i)) := (H i hi).2.2.2.2.2.2.2.2.2.2.2.1
theorem RPc.f1 {s : SS} {h : HS} (H : RPc s h) {i : Nat} (hi : i < s 0 7) : hI h (s 32 i) 1 = nI (s 19 i) := (H i hi).2.2.2.2.2.2.2.2.2.2.2.2.1
theorem RPc.f2 {s : SS} {h : HS} (H : RPc s h) {i : Nat} (hi : i < s 0 7) : hI h (s 32 i) 2 = nI (dC (s 20 i)) := (H i hi).2.2.2.2.2.2.2.2.2.2.2.2.2.1
theorem RPc.f3 {s : SS} {h : HS} (H : RPc s h) {i : Nat} (hi : i < s 0 7) : hI h (s 32 i) 3 = nI (s 13 i) := (H i hi).2.2.2.2.2.2.2.2.2.2.2.2.2.2.1
theorem RPc.f4 {s : SS} {h : HS} (H : RPc s h) {i : Nat} (hi : i < s 0 7) : hI h (s 32 i) 4 = nI (s 14 i) := (H i hi).2.2.2.2.2.2.2.2.2.2.2.2.2.2.2.1
theorem RPc.f5 {s : SS} {h : HS} (H : RPc s h) {i : Nat} (hi : i < s 0 7) : hI h (s 32 i) 5 = nI (s 15 i) := (H i hi).2.2.2.2.2.2.2.2.2.2.2.2.2.2.2.2.1
theorem RPc.f6 {s : SS} {h : HS} (H : RPc s h) {i : Nat} (hi : i < s 0 7) : hI h (s 32 i) 6 = nI (s 16 i) := (H i hi).2.2.2.2.2.2.2.2.2.2.2.2.2.2.2.2.2.1
theorem RPc.f8 {s : SS} {h : HS} (H : RPc s h) {i : Nat} (hi : i < s 0 7) : hI h (s 32 i) 8 = nI (s 17 i) := (H i hi).2.2.2.2.2.2.2.2.2.2.2.2.2.2.2.2.2.2.1
theorem RPc.f9 {s : SS} {h : HS} (H : RPc s h) {i : Nat} (hi : i < s 0 7) : hI h (s 32 i) 9 = nI (s 18 i) := (H i hi).2.2.2.2.2.2.2.2.2.2.2.2.2.2.2.2.2.2.2.1
theorem RPc.b0 {s : SS} {h : HS} (H : RPc s h) {i : Nat} (hi : i < s 0 7) : s 12 i < s 0 3 := (H i hi).2.2.2.2.2.2.2.2.2.2.2.2.2.2.2.2.2.2.2.2.1
theorem RPc.b1 {s : SS} {h : HS} (H : RPc s h) {i : Nat} (hi : i < s 0 7) : s 13 i < s 0 6 := (H i hi).2.2.2.2.2.2.2.2.2.2.2.2.2.2.2.2.2.2.2.2.2.1
theorem RPc.b2 {s : SS} {h : HS} (H : RPc s h) {i : Nat} (hi : i < s 0 7) : s 14 i < s 0 4 := (H i hi).2.2.2.2.2.2.2.2.2.2.2.2.2.2.2.2.2.2.2.2.2.2.1
theorem RPc.b3 {s : SS} {h : HS} (H : RPc s h) {i : Nat} (hi : i < s 0 7) : s 15 i < 32 := (H i hi).2.2.2.2.2.2.2.2.2.2.2.2.2.2.2.2.2.2.2.2.2.2.2.1
theorem RPc.b4 {s : SS} {h : HS} (H : RPc s h) {i : Nat} (hi : i < s 0 7) : s 16 i ≤ 99 := (H i hi).2.2.2.2.2.2.2.2.2.2.2.2.2.2.2.2.2.2.2.2.2.2.2.2.1
theorem RPc.b5 {s : SS} {h : HS} (H : RPc s h) {i : Nat} (hi : i < s 0 7) : s 17 i ≤ s 18 i := (H i hi).2.2.2.2.2.2.2.2.2.2.2.2.2.2.2.2.2.2.2.2.2.2.2.2.2.1
theorem RPc.b6 {s : SS} {h : HS} (H : RPc s h) {i : Nat} (hi : i < s 0 7) : s 18 i ≤ 9999 := (H i hi).2.2.2.2.2.2.2.2.2.2.2.2.2.2.2.2.2.2.2.2.2.2.2.2.2.2.1
theorem RPc.b7 {s : SS} {h : HS} (H : RPc s h) {i : Nat} (hi : i < s 0 7) : s 19 i ≤ 3999 := (H i hi).2.2.2.2.2.2.2.2.2.2.2.2.2.2.2.2.2.2.2.2.2.2.2.2.2.2.2.1
theorem RPc.b8 {s : SS} {h : HS} (H : RPc s h) {i : Nat} (hi : i < s 0 7) : okDy (s 20 i) 3999 := (H i hi).2.2.2.2.2.2.2.2.2.2.2.2.2.2.2.2.2.2.2.2.2.2.2.2.2.2.2.2.1
theorem RPc.b9 {s : SS} {h : HS} (H : RPc s h) {i : Nat} (hi : i < s 0 7) : s 3 (s 12 i) = 100000 ∨ s 20 i ≤ 3999 := (H i hi).2.2.2.2.2.2.2.2.2.2.2.2.2.2.2.2.2.2.2.2.2.2.2.2.2.2.2.2.2.1
theorem RPc.lo {s : SS} {h : HS} (H : RPc s h) {i : Nat} (hi : i < s 0 7) : 160 ≤ s 32 i := (H i hi).2.2.2.2.2.2.2.2.2.2.2.2.2.2.2.2.2.2.2.2.2.2.2.2.2.2.2.2.2.2.1
theorem RPc.hi {s : SS} {h : HS} (H : RPc s h) {i : Nat} (hi : i < s 0 7) : s 32 i < h.1 := (H i hi).2.2.2.2.2.2.2.2.2.2.2.2.2.2.2.2.2.2.2.2.2.2.2.2.2.2.2.2.2.2.2
/-- the bills -/
def BLc (s : SS) (h : HS) : Prop := ∀ i, i < s 0 8 → (hI h 120 i = nI (s 21 i)) ∧
  (hI h 121 i = nI (s 22 i)) ∧
  (hI h 122 i = nI (s 23 i)) ∧
  (hI h 123 i = nI (s 24 i)) ∧
  (hI h 124 i = nI (s 25 i)) ∧
  (hR h 55 i = some (s 33 i)) ∧
  (hT h (s 33 i) = 5) ∧
  (hR h (s 33 i) 0 = some (s 30 (s 21 i))) ∧
  (hI h (s 33 i) 1 = nI (s 24 i)) ∧
  (hI h (s 33 i) 2 = nI (dC (s 25 i))) ∧
  (hI h (s 33 i) 3 = nI (s 22 i)) ∧
  (hI h (s 33 i) 7 = nI (s 23 i)) ∧
  (s 21 i < s 0 3) ∧
  (s 22 i < s 0 6) ∧
  (s 23 i ≤ 9999) ∧
  (s 24 i ≤ 3999) ∧
  (okDy (s 25 i) 3999) ∧
  (160 ≤ s 33 i) ∧
  (s 33 i < h.1)
theorem BLc.m0 {s : SS} {h : HS} (H : BLc s h) {i : Nat} (hi : i < s 0 8) : hI h 120 i = nI (s 21 i) := (H i hi).1
theorem BLc.m1 {s : SS} {h : HS} (H : BLc s h) {i : Nat} (hi : i < s 0 8) : hI h 121 i = nI (s 22 i) := (H i hi).2.1
theorem BLc.m2 {s : SS} {h : HS} (H : BLc s h) {i : Nat} (hi : i < s 0 8) : hI h 122 i = nI (s 23 i) := (H i hi).2.2.1
theorem BLc.m3 {s : SS} {h : HS} (H : BLc s h) {i : Nat} (hi : i < s 0 8) : hI h 123 i = nI (s 24 i) := (H i hi).2.2.2.1
theorem BLc.m4 {s : SS} {h : HS} (H : BLc s h) {i : Nat} (hi : i < s 0 8) : hI h 124 i = nI (s 25 i) := (H i hi).2.2.2.2.1
theorem BLc.o {s : SS} {h : HS} (H : BLc s h) {i : Nat} (hi : i < s 0 8) : hR h 55 i = some (s 33 i) := (H i hi).2.2.2.2.2.1
theorem BLc.t {s : SS} {h : HS} (H : BLc s h) {i : Nat} (hi : i < s 0 8) : hT h (s 33 i) = 5 := (H i hi).2.2.2.2.2.2.1
theorem BLc.r0 {s : SS} {h : HS} (H : BLc s h) {i : Nat} (hi : i < s 0 8) : hR h (s 33 i) 0 = some (s 30 (s 21 i)) := (H i hi).2.2.2.2.2.2.2.1
theorem BLc.f1 {s : SS} {h : HS} (H : BLc s h) {i : Nat} (hi : i < s 0 8) : hI h (s 33 i) 1 = nI (s 24 i) := (H i hi).2.2.2.2.2.2.2.2.1
theorem BLc.f2 {s : SS} {h : HS} (H : BLc s h) {i : Nat} (hi : i < s 0 8) : hI h (s 33 i) 2 = nI (dC (s 25 i)) := (H i hi).2.2.2.2.2.2.2.2.2.1
theorem BLc.f3 {s : SS} {h : HS} (H : BLc s h) {i : Nat} (hi : i < s 0 8) : hI h (s 33 i) 3 = nI (s 22 i) := (H i hi).2.2.2.2.2.2.2.2.2.2.1
theorem BLc.f7 {s : SS} {h : HS} (H : BLc s h) {i : Nat} (hi : i < s 0 8) : hI h (s 33 i) 7 = nI (s 23 i) := (H i hi).2.2.2.2.2.2.2.2.2.2.2.1
theorem BLc.b0 {s : SS} {h : HS} (H : BLc s h) {i : Nat} (hi : i < s 0 8) : s 21 i < s 0 3 := (H i hi).2.2.2.2.2.2.2.2.2.2.2.2.1
theorem BLc.b1 {s : SS} {h : HS} (H : BLc s h) {i : Nat} (hi : i < s 0 8) : s 22 i < s 0 6 := (H i hi).2.2.2.2.2.2.2.2.2.2.2.2.2.1
theorem BLc.b2 {s : SS} {h : HS} (H : BLc s h) {i : Nat} (hi : i < s 0 8) : s 23 i ≤ 9999 := (H i hi).2.2.2.2.2.2.2.2.2.2.2.2.2.2.1
theorem BLc.b3 {s : SS} {h : HS} (H : BLc s h) {i : Nat} (hi : i < s 0 8) : s 24 i ≤ 3999 := (H i hi).2.2.2.2.2.2.2.2.2.2.2.2.2.2.2.1
theorem BLc.b4 {s : SS} {h : HS} (H : BLc s h) {i : Nat} (hi : i < s 0 8) : okDy (s 25 i) 3999 := (H i hi).2.2.2.2.2.2.2.2.2.2.2.2.2.2.2.2.1
theorem BLc.lo {s : SS} {h : HS} (H : BLc s h) {i : Nat} (hi : i < s 0 8) : 160 ≤ s 33 i := (H i hi).2.2.2.2.2.2.2.2.2.2.2.2.2.2.2.2.2.1
theorem BLc.hi {s : SS} {h : HS} (H : BLc s h) {i : Nat} (hi : i < s 0 8) : s 33 i < h.1 := (H i hi).2.2.2.2.2.2.2.2.2.2.2.2.2.2.2.2.2.2
/-- what the class and the reference know of persons, covers, sheets and papers -/
def EV (s : SS) (h : HS) : Prop := WF h ∧ CN s h ∧ SHc s h ∧ SNc s h ∧ RPc s h ∧ BLc s h
theorem EV.w {s : SS} {h : HS} (H : EV s h) : WF h := H.1
theorem EV.cn {s : SS} {h : HS} (H : EV s h) : CN s h := H.2.1
theorem EV.sh {s : SS} {h : HS} (H : EV s h) : SHc s h := H.2.2.1
theorem EV.sn {s : SS} {h : HS} (H : EV s h) : SNc s h := H.2.2.2.1
theorem EV.rp {s : SS} {h : HS} (H : EV s h) : RPc s h := H.2.2.2.2.1
theorem EV.bl {s : SS} {h : HS} (H : EV s h) : BLc s h := H.2.2.2.2.2
