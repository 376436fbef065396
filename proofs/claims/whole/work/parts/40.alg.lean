/-! heaps as whole rows: what is read of what was written; ranges; small numbers -/
def haI (h : HS) (a : Nat) (f : Nat → Int32) : HS := (h.1, h.2.1, hT h, hN h, uw (hI h) a f, hL h, hR h)
def haL (h : HS) (a : Nat) (f : Nat → Int64) : HS := (h.1, h.2.1, hT h, hN h, hI h, uw (hL h) a f, hR h)
def haR (h : HS) (a : Nat) (f : Nat → Option Nat) : HS := (h.1, h.2.1, hT h, hN h, hI h, hL h, uw (hR h) a f)
theorem u1_eq {α : Type} (f : Nat → α) (a : Nat) (v : α) : u1 f a v a = v := if_pos rfl
theorem u1_ne {α : Type} {f : Nat → α} {a x : Nat} {v : α} (h : ¬ x = a) : u1 f a v x = f x := if_neg h
theorem u1_u1 {α : Type} (f : Nat → α) (a : Nat) (v w : α) : u1 (u1 f a v) a w = u1 f a w := by
  funext x
  unfold u1
  split <;> rfl
theorem u1_self {α : Type} (f : Nat → α) (a : Nat) : u1 f a (f a) = f := by
  funext x
  unfold u1
  split
  · next e => rw [e]
  · rfl
theorem u2_u {α : Type} {f : Nat → Nat → α} {a k y : Nat} {v : α} : u2 f a k v a y = u1 (f a) k v y := by
  unfold u2 u1
  by_cases e : y = k
  · rw [if_pos ⟨rfl, e⟩, if_pos e]
  · rw [if_neg (fun z => e z.2), if_neg e]
theorem u2_ne {α : Type} {f : Nat → Nat → α} {a k x y : Nat} {v : α} (h : ¬ x = a) : u2 f a k v x y = f x y := if_neg (fun z => h z.1)
theorem u2_row {α : Type} {f : Nat → Nat → α} {a k : Nat} {v : α} : u2 f a k v a = u1 (f a) k v := funext fun _ => u2_u
theorem u2_rowne {α : Type} {f : Nat → Nat → α} {a k x : Nat} {v : α} (h : ¬ x = a) : u2 f a k v x = f x := funext fun _ => u2_ne h
theorem hsI_ha (h : HS) (a k : Nat) (v : Int32) : hsI h a k v = haI h a (u1 (hI h a) k v) := by
  have : u2 (hI h) a k v = uw (hI h) a (u1 (hI h a) k v) := by
    funext x y
    unfold uw
    by_cases e : x = a
    · subst e
      rw [if_pos rfl, u2_u]
    · rw [if_neg e, u2_ne e]
  unfold hsI haI
  rw [this]
theorem hsL_ha (h : HS) (a k : Nat) (v : Int64) : hsL h a k v = haL h a (u1 (hL h a) k v) := by
  have : u2 (hL h) a k v = uw (hL h) a (u1 (hL h a) k v) := by
    funext x y
    unfold uw
    by_cases e : x = a
    · subst e
      rw [if_pos rfl, u2_u]
    · rw [if_neg e, u2_ne e]
  unfold hsL haL
  rw [this]
theorem hsR_ha (h : HS) (a k : Nat) (v : Option Nat) : hsR h a k v = haR h a (u1 (hR h a) k v) := by
  have : u2 (hR h) a k v = uw (hR h) a (u1 (hR h a) k v) := by
    funext x y
    unfold uw
    by_cases e : x = a
    · subst e
      rw [if_pos rfl, u2_u]
    · rw [if_neg e, u2_ne e]
  unfold hsR haR
  rw [this]
theorem hI_I (h : HS) (a : Nat) (f : Nat → Int32) : hI (haI h a f) a = f := funext fun _ => if_pos rfl
theorem hI_In {h : HS} {a x : Nat} {f : Nat → Int32} (e : ¬ x = a) : hI (haI h a f) x = hI h x := funext fun _ => if_neg e
theorem hL_L (h : HS) (a : Nat) (f : Nat → Int64) : hL (haL h a f) a = f := funext fun _ => if_pos rfl
theorem hL_Ln {h : HS} {a x : Nat} {f : Nat → Int64} (e : ¬ x = a) : hL (haL h a f) x = hL h x := funext fun _ => if_neg e
theorem hR_R (h : HS) (a : Nat) (f : Nat → Option Nat) : hR (haR h a f) a = f := funext fun _ => if_pos rfl
theorem hR_Rn {h : HS} {a x : Nat} {f : Nat → Option Nat} (e : ¬ x = a) : hR (haR h a f) x = hR h x := funext fun _ => if_neg e
theorem hL_I (h : HS) (a : Nat) (f : Nat → Int32) : hL (haI h a f) = hL h := Eq.trans rfl rfl
theorem hR_I (h : HS) (a : Nat) (f : Nat → Int32) : hR (haI h a f) = hR h := Eq.trans rfl rfl
theorem hT_I (h : HS) (a : Nat) (f : Nat → Int32) : hT (haI h a f) = hT h := Eq.trans rfl rfl
theorem hN_I (h : HS) (a : Nat) (f : Nat → Int32) : hN (haI h a f) = hN h := Eq.trans rfl rfl
theorem h1_I (h : HS) (a : Nat) (f : Nat → Int32) : (haI h a f).1 = h.1 := Eq.trans rfl rfl
theorem h2_I (h : HS) (a : Nat) (f : Nat → Int32) : (haI h a f).2.1 = h.2.1 := Eq.trans rfl rfl
theorem hI_L (h : HS) (a : Nat) (f : Nat → Int64) : hI (haL h a f) = hI h := Eq.trans rfl rfl
theorem hR_L (h : HS) (a : Nat) (f : Nat → Int64) : hR (haL h a f) = hR h := Eq.trans rfl rfl
theorem hT_L (h : HS) (a : Nat) (f : Nat → Int64) : hT (haL h a f) = hT h := Eq.trans rfl rfl
theorem hN_L (h : HS) (a : Nat) (f : Nat → Int64) : hN (haL h a f) = hN h := Eq.trans rfl rfl
theorem h1_L (h : HS) (a : Nat) (f : Nat → Int64) : (haL h a f).1 = h.1 := Eq.trans rfl rfl
theorem h2_L (h : HS) (a : Nat) (f : Nat → Int64) : (haL h a f).2.1 = h.2.1 := Eq.trans rfl rfl
theorem hI_R (h : HS) (a : Nat) (f : Nat → Option Nat) : hI (haR h a f) = hI h := Eq.trans rfl rfl
theorem hL_R (h : HS) (a : Nat) (f : Nat → Option Nat) : hL (haR h a f) = hL h := Eq.trans rfl rfl
theorem hT_R (h : HS) (a : Nat) (f : Nat → Option Nat) : hT (haR h a f) = hT h := Eq.trans rfl rfl
theorem hN_R (h : HS) (a : Nat) (f : Nat → Option Nat) : hN (haR h a f) = hN h := Eq.trans rfl rfl
theorem h1_R (h : HS) (a : Nat) (f : Nat → Option Nat) : (haR h a f).1 = h.1 := Eq.trans rfl rfl
theorem h2_R (h : HS) (a : Nat) (f : Nat → Option Nat) : (haR h a f).2.1 = h.2.1 := Eq.trans rfl rfl
theorem hI_W (h : HS) (t n : Nat) (g : Nat → Int32) : hI (hnew h t n g) h.1 = g := funext fun _ => if_pos rfl
theorem hI_Wn {h : HS} {t n x : Nat} {g : Nat → Int32} (e : ¬ x = h.1) : hI (hnew h t n g) x = hI h x := funext fun _ => if_neg e
theorem hL_W (h : HS) (t n : Nat) (g : Nat → Int32) : hL (hnew h t n g) h.1 = fun _ => 0 := funext fun _ => if_pos rfl
theorem hL_Wn {h : HS} {t n x : Nat} {g : Nat → Int32} (e : ¬ x = h.1) : hL (hnew h t n g) x = hL h x := funext fun _ => if_neg e
theorem hR_W (h : HS) (t n : Nat) (g : Nat → Int32) : hR (hnew h t n g) h.1 = fun _ => none := funext fun _ => if_pos rfl
theorem hR_Wn {h : HS} {t n x : Nat} {g : Nat → Int32} (e : ¬ x = h.1) : hR (hnew h t n g) x = hR h x := funext fun _ => if_neg e
theorem hT_W (h : HS) (t n : Nat) (g : Nat → Int32) : hT (hnew h t n g) h.1 = t := if_pos rfl
theorem hT_Wn {h : HS} {t n x : Nat} {g : Nat → Int32} (e : ¬ x = h.1) : hT (hnew h t n g) x = hT h x := if_neg e
theorem hN_W (h : HS) (t n : Nat) (g : Nat → Int32) : hN (hnew h t n g) h.1 = n := if_pos rfl
theorem hN_Wn {h : HS} {t n x : Nat} {g : Nat → Int32} (e : ¬ x = h.1) : hN (hnew h t n g) x = hN h x := if_neg e
theorem h1_W (h : HS) (t n : Nat) (g : Nat → Int32) : (hnew h t n g).1 = h.1 + 1 := Eq.trans rfl rfl
theorem h2_W (h : HS) (t n : Nat) (g : Nat → Int32) : (hnew h t n g).2.1 = h.2.1 + n := Eq.trans rfl rfl
theorem haI_I (h : HS) (a : Nat) (f g : Nat → Int32) : haI (haI h a f) a g = haI h a g := by
  have : uw (hI (haI h a f)) a g = uw (hI h) a g := by
    funext x y
    show (if x = a then g y else hI (haI h a f) x y) = if x = a then g y else hI h x y
    split
    · rfl
    · next e => rw [hI_In e]
  show (_, _, _, _, uw (hI (haI h a f)) a g, _, _) = _
  rw [this]
  rfl
theorem haI_self (h : HS) (a : Nat) : haI h a (hI h a) = h := by
  have : uw (hI h) a (hI h a) = hI h := by
    funext x y
    show (if x = a then hI h a y else hI h x y) = hI h x y
    split
    · next e => rw [e]
    · rfl
  unfold haI
  rw [this]
  rfl
/-! numbers -/
theorem cl_nI {n : Nat} (h : n < 2147483648) : (nI n).toNatClampNeg = n := nI_clamp h
theorem lt_nI {a b : Nat} (ha : a < 2147483648) (hb : b < 2147483648) : (nI a < nI b) = (a < b) := propext (nI_ltI ha hb)
theorem le_nI {a b : Nat} (ha : a < 2147483648) (hb : b < 2147483648) : (nI a ≤ nI b) = (a ≤ b) := propext (nI_leI ha hb)
theorem eq_nI {a b : Nat} (ha : a < 2147483648) (hb : b < 2147483648) : (nI a = nI b) = (a = b) := propext (nI_eq ha hb)
theorem neg_nI {n : Nat} (h : n < 2147483648) : (nI n < 0) = False := eq_false (nI_pos h)
theorem m1_nI {n : Nat} (h : n < 2147483648) : (nI n = -1) = False := eq_false fun e => by
  have h1 := congrArg Int32.toInt e
  rw [nI_toInt h, show (-1 : Int32).toInt = -1 by decide] at h1
  omega
theorem bd_nI {n N : Nat} (h : n < N) (hN : N < 2147483648) : (nI n < 0 ∨ N ≤ (nI n).toNatClampNeg) = False := eq_false (nI_in h hN)
theorem i32_0 : (0 : Int32) = nI 0 := rfl
/-- a range: both sides' test of it -/
theorem rng (a lo hi : Int32) : ((∀ h, p166 h a lo hi = some 0) ∧ (∀ h, p187 h a lo hi = some 0) ∧ ¬ (lo ≤ a ∧ a ≤ hi)) ∨ ((∀ h, p166 h a lo hi = some 1) ∧ (∀ h, p187 h a lo hi = some 1) ∧ lo ≤ a ∧ a ≤ hi) := by
  by_cases h1 : a < lo
  · left
    exact ⟨fun h => by unfold p166; rw [if_pos h1], fun h => by unfold p187; rw [if_pos h1], fun z => Int32.not_le.mpr h1 z.1⟩
  · by_cases h2 : hi < a
    · left
      exact ⟨fun h => by unfold p166; rw [if_neg h1, if_pos h2], fun h => by unfold p187; rw [if_neg h1, if_pos h2], fun z => Int32.not_le.mpr h2 z.2⟩
    · right
      exact ⟨fun h => by unfold p166; rw [if_neg h1, if_neg h2], fun h => by unfold p187; rw [if_neg h1, if_neg h2], Int32.not_lt.mp h1, Int32.not_lt.mp h2⟩
theorem le_of_nI {a : Int32} {m n : Nat} (hm : m < 2147483648) (hn : n < 2147483648) (h1 : nI m ≤ a) (h2 : a ≤ nI n) : ∃ k, m ≤ k ∧ k ≤ n ∧ a = nI k := by
  have h0 : ¬ a < 0 := by
    have := nI_toInt hm
    rw [Int32.le_iff_toInt_le, nI_toInt hm] at h1
    rw [Int32.lt_iff_toInt_lt]
    have : (0 : Int32).toInt = 0 := rfl
    omega
  obtain ⟨j, hj, rfl⟩ := nI_of h0
  exact ⟨j, (nI_leI hm hj).mp h1, (nI_leI hj hn).mp h2, rfl⟩
/-- a range of numbers -/
theorem rngN (a : Int32) (m n : Nat) (hm : m < 2147483648) (hn : n < 2147483648) : ((∀ h, p166 h a (nI m) (nI n) = some 0) ∧ (∀ h, p187 h a (nI m) (nI n) = some 0)) ∨ ((∀ h, p166 h a (nI m) (nI n) = some 1) ∧ (∀ h, p187 h a (nI m) (nI n) = some 1) ∧ ∃ k, m ≤ k ∧ k ≤ n ∧ a = nI k) := by
  rcases rng a (nI m) (nI n) with ⟨h1, h2, -⟩ | ⟨h1, h2, h3, h4⟩
  · exact Or.inl ⟨h1, h2⟩
  · exact Or.inr ⟨h1, h2, le_of_nI hm hn h3 h4⟩
theorem sub1_nI {n : Nat} (hn : n < 2147483648) : (nI n - 1).toInt = (n : Int) - 1 := by
  rcases n with - | n
  · decide
  · rw [nI_pred, nI_toInt (by omega)]
    omega
/-- a place among n -/
theorem ixc (a : Int32) (n : Nat) (hn : n < 2147483648) : ((∀ h, p166 h a 0 (nI n - 1) = some 0) ∧ (∀ h, p187 h a 0 (nI n - 1) = some 0) ∧ ∀ i, i < n → ¬ a = nI i) ∨ ∃ i, i < n ∧ a = nI i ∧ (∀ h, p166 h (nI i) 0 (nI n - 1) = some 1) ∧ (∀ h, p187 h (nI i) 0 (nI n - 1) = some 1) := by
  rcases rng a 0 (nI n - 1) with ⟨h1, h2, h3⟩ | ⟨h1, h2, h3, h4⟩
  · refine Or.inl ⟨h1, h2, fun i hi e => h3 ?_⟩
    subst e
    refine ⟨nI_pos' (by omega), ?_⟩
    rw [Int32.le_iff_toInt_le, sub1_nI hn, nI_toInt (by omega)]
    omega
  · right
    have h0 : ¬ a < 0 := Int32.not_lt.mpr h3
    obtain ⟨j, hj, rfl⟩ := nI_of h0
    rw [Int32.le_iff_toInt_le, sub1_nI hn, nI_toInt hj] at h4
    exact ⟨j, by omega, rfl, h1, h2⟩
theorem b01 {r : Int32} : ((0 : Int32) = 0 ∨ (0 : Int32) = 1) = True ∧ ((1 : Int32) = 0 ∨ (1 : Int32) = 1) = True := ⟨by decide, by decide⟩
