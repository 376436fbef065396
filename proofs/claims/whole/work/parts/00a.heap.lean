/-! the interpreter: an abstract heap, steps, runs -/
abbrev HS : Type := Nat × Nat × (Nat → Nat) × (Nat → Nat) × (Nat → Nat → Int32) × (Nat → Nat → Int64) × (Nat → Nat → Option Nat)
def hT (h : HS) : Nat → Nat := h.2.2.1
def hN (h : HS) : Nat → Nat := h.2.2.2.1
def hI (h : HS) : Nat → Nat → Int32 := h.2.2.2.2.1
def hL (h : HS) : Nat → Nat → Int64 := h.2.2.2.2.2.1
def hR (h : HS) : Nat → Nat → Option Nat := h.2.2.2.2.2.2
def u1 {α : Type} (f : Nat → α) (a : Nat) (v : α) : Nat → α := fun x => if x = a then v else f x
def u2 {α : Type} (f : Nat → Nat → α) (a k : Nat) (v : α) : Nat → Nat → α := fun x y => if x = a ∧ y = k then v else f x y
def uw {α : Type} (f : Nat → Nat → α) (a : Nat) (g : Nat → α) : Nat → Nat → α := fun x y => if x = a then g y else f x y
def hsI (h : HS) (a k : Nat) (v : Int32) : HS := (h.1, h.2.1, hT h, hN h, u2 (hI h) a k v, hL h, hR h)
def hsL (h : HS) (a k : Nat) (v : Int64) : HS := (h.1, h.2.1, hT h, hN h, hI h, u2 (hL h) a k v, hR h)
def hsR (h : HS) (a k : Nat) (v : Option Nat) : HS := (h.1, h.2.1, hT h, hN h, hI h, hL h, u2 (hR h) a k v)
/-- a new cell, with its tag, its size, its first content -/
def hnew (h : HS) (t n : Nat) (g : Nat → Int32) : HS := (h.1 + 1, h.2.1 + n, u1 (hT h) h.1 t, u1 (hN h) h.1 n, uw (hI h) h.1 g, uw (hL h) h.1 (fun _ => 0), uw (hR h) h.1 (fun _ => none))
