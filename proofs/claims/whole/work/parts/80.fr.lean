/-! frames: what a call may have written -/
def FR (W : List Nat) (K : List (Nat × Nat)) (D : Nat → Prop) (h h' : HS) : Prop := h.1 ≤ h'.1 ∧ ((∀ a, h'.1 ≤ a → hT h' a = hT h a) ∧ (31 ∈ W ∨ (h'.1 = h.1 ∧ h'.2.1 = h.2.1))) ∧ (∀ a, D a → 160 ≤ a) ∧ ∀ a, a < h.1 → hT h' a = hT h a ∧ hN h' a = hN h a ∧ (¬ a ∈ W → ¬ D a → hL h' a = hL h a ∧ hR h' a = hR h a ∧ ∀ k, ¬ (a, k) ∈ K → hI h' a k = hI h a k)
def nD : Nat → Prop := fun _ => False
theorem nD160 : ∀ a, nD a → 160 ≤ a := fun _ z => z.elim
section FRS
variable {W W2 : List Nat} {K K2 : List (Nat × Nat)} {D D2 : Nat → Prop} {h0 h h1 h2 : HS}
theorem FR.rf (hD : ∀ a, D a → 160 ≤ a) : FR W K D h h := ⟨Nat.le_refl _, ⟨fun _ _ => rfl, Or.inr ⟨rfl, rfl⟩⟩, hD, fun _ _ => ⟨rfl, rfl, fun _ _ => ⟨rfl, rfl, fun _ _ => rfl⟩⟩⟩
theorem FR.tr (f : FR W K D h0 h1) (g : FR W K D h1 h2) : FR W K D h0 h2 := by
  obtain ⟨f1, f2, f3, f4⟩ := f
  obtain ⟨g1, g2, g3, g4⟩ := g
  refine ⟨by omega, ⟨fun a ha => (g2.1 a ha).trans (f2.1 a (by omega)), f2.2.elim Or.inl fun z1 => g2.2.elim Or.inl fun z2 => Or.inr ⟨z2.1.trans z1.1, z2.2.trans z1.2⟩⟩, f3, fun a ha => ?_⟩
  obtain ⟨x1, x2, x3⟩ := f4 a ha
  obtain ⟨y1, y2, y3⟩ := g4 a (by omega)
  refine ⟨y1.trans x1, y2.trans x2, fun n1 n2 => ?_⟩
  obtain ⟨u1, u2, u3⟩ := x3 n1 n2
  obtain ⟨v1, v2, v3⟩ := y3 n1 n2
  exact ⟨v1.trans u1, v2.trans u2, fun k hk => (v3 k hk).trans (u3 k hk)⟩
theorem FR.mo (f : FR W K D h0 h1) (hW : ∀ a, a ∈ W → a ∈ W2) (hK : ∀ a, a ∈ K → a ∈ K2 ∨ a.1 ∈ W2) (hD : ∀ a, D a → D2 a) (h2 : ∀ a, D2 a → 160 ≤ a) : FR W2 K2 D2 h0 h1 := by
  obtain ⟨f1, f2, f3, f4⟩ := f
  refine ⟨f1, ⟨f2.1, f2.2.imp (hW 31) id⟩, h2, fun a ha => ?_⟩
  obtain ⟨x1, x2, x3⟩ := f4 a ha
  refine ⟨x1, x2, fun n1 n2 => ?_⟩
  obtain ⟨u1, u2, u3⟩ := x3 (fun z => n1 (hW a z)) (fun z => n2 (hD a z))
  exact ⟨u1, u2, fun k hk => u3 k (fun z => (hK _ z).elim hk n1)⟩
theorem FR.sI (f : FR W K D h0 h) {a k : Nat} {v : Int32} (hh : a ∈ W ∨ D a ∨ (a, k) ∈ K ∨ h0.1 ≤ a) : FR W K D h0 (hsI h a k v) := by
  obtain ⟨f1, f2, f3, f4⟩ := f
  refine ⟨f1, f2, f3, fun x hx => ?_⟩
  obtain ⟨x1, x2, x3⟩ := f4 x hx
  refine ⟨x1, x2, fun n1 n2 => ?_⟩
  obtain ⟨u1, u2, u3⟩ := x3 n1 n2
  refine ⟨u1, u2, fun j hj => ?_⟩
  refine Eq.trans (if_neg ?_) (u3 j hj)
  rintro ⟨rfl, rfl⟩
  rcases hh with z | z | z | z
  · exact n1 z
  · exact n2 z
  · exact hj z
  · omega
theorem FR.sL (f : FR W K D h0 h) {a k : Nat} {v : Int64} (hh : a ∈ W ∨ D a ∨ h0.1 ≤ a) : FR W K D h0 (hsL h a k v) := by
  obtain ⟨f1, f2, f3, f4⟩ := f
  refine ⟨f1, f2, f3, fun x hx => ?_⟩
  obtain ⟨x1, x2, x3⟩ := f4 x hx
  refine ⟨x1, x2, fun n1 n2 => ?_⟩
  obtain ⟨u1, u2, u3⟩ := x3 n1 n2
  refine ⟨Eq.trans (funext fun j => if_neg ?_) u1, u2, u3⟩
  rintro ⟨rfl, rfl⟩
  rcases hh with z | z | z
  · exact n1 z
  · exact n2 z
  · omega
theorem FR.sR (f : FR W K D h0 h) {a k : Nat} {v : Option Nat} (hh : a ∈ W ∨ D a ∨ h0.1 ≤ a) : FR W K D h0 (hsR h a k v) := by
  obtain ⟨f1, f2, f3, f4⟩ := f
  refine ⟨f1, f2, f3, fun x hx => ?_⟩
  obtain ⟨x1, x2, x3⟩ := f4 x hx
  refine ⟨x1, x2, fun n1 n2 => ?_⟩
  obtain ⟨u1, u2, u3⟩ := x3 n1 n2
  refine ⟨u1, Eq.trans (funext fun j => if_neg ?_) u2, u3⟩
  rintro ⟨rfl, rfl⟩
  rcases hh with z | z | z
  · exact n1 z
  · exact n2 z
  · omega
theorem FR.aI (f : FR W K D h0 h) {a : Nat} {g : Nat → Int32} (hh : a ∈ W ∨ D a ∨ h0.1 ≤ a) : FR W K D h0 (haI h a g) := by
  obtain ⟨f1, f2, f3, f4⟩ := f
  refine ⟨f1, f2, f3, fun x hx => ?_⟩
  obtain ⟨x1, x2, x3⟩ := f4 x hx
  refine ⟨x1, x2, fun n1 n2 => ?_⟩
  obtain ⟨u1, u2, u3⟩ := x3 n1 n2
  refine ⟨u1, u2, fun j hj => Eq.trans (if_neg ?_) (u3 j hj)⟩
  rintro rfl
  rcases hh with z | z | z
  · exact n1 z
  · exact n2 z
  · omega
theorem FR.aL (f : FR W K D h0 h) {a : Nat} {g : Nat → Int64} (hh : a ∈ W ∨ D a ∨ h0.1 ≤ a) : FR W K D h0 (haL h a g) := by
  obtain ⟨f1, f2, f3, f4⟩ := f
  refine ⟨f1, f2, f3, fun x hx => ?_⟩
  obtain ⟨x1, x2, x3⟩ := f4 x hx
  refine ⟨x1, x2, fun n1 n2 => ?_⟩
  obtain ⟨u1, u2, u3⟩ := x3 n1 n2
  refine ⟨Eq.trans (funext fun j => if_neg ?_) u1, u2, u3⟩
  rintro rfl
  rcases hh with z | z | z
  · exact n1 z
  · exact n2 z
  · omega
/-- a row of which one field is written -/
theorem FR.aI1 (f : FR W K D h0 h) {a k : Nat} {v : Int32} (hh : a ∈ W ∨ D a ∨ (a, k) ∈ K ∨ h0.1 ≤ a) : FR W K D h0 (haI h a (u1 (hI h a) k v)) := by
  rw [← hsI_ha]
  exact f.sI hh
theorem FR.nw (f : FR W K D h0 h) {t n : Nat} {g : Nat → Int32} (hz : 31 ∈ W := by decide) : FR W K D h0 (hnew h t n g) := by
  obtain ⟨f1, f2, f3, f4⟩ := f
  refine ⟨by show h0.1 ≤ h.1 + 1; omega, ⟨fun a ha => ?_, Or.inl hz⟩, f3, fun x hx => ?_⟩
  · have ha' : h.1 + 1 ≤ a := ha
    exact (hT_Wn (by omega)).trans (f2.1 a (by omega))
  obtain ⟨x1, x2, x3⟩ := f4 x hx
  have ne : ¬ x = h.1 := by omega
  refine ⟨(hT_Wn ne).trans x1, (hN_Wn ne).trans x2, fun n1 n2 => ?_⟩
  obtain ⟨u1, u2, u3⟩ := x3 n1 n2
  exact ⟨(hL_Wn ne).trans u1, (hR_Wn ne).trans u2, fun j hj => (congrFun (hI_Wn ne) j).trans (u3 j hj)⟩
/-- nothing new was made -/
theorem FR.z (f : FR W K D h h1) (hz : ¬ 31 ∈ W) : h1.1 = h.1 ∧ h1.2.1 = h.2.1 := f.2.1.2.resolve_left hz
theorem FR.T (f : FR W K D h h1) {a : Nat} (ha : a < h.1) : hT h1 a = hT h a := (f.2.2.2 a ha).1
theorem FR.N (f : FR W K D h h1) {a : Nat} (ha : a < h.1) : hN h1 a = hN h a := (f.2.2.2 a ha).2.1
theorem FR.L (f : FR W K D h h1) {a : Nat} (ha : a < h.1) (n1 : ¬ a ∈ W) (n2 : ¬ D a) : hL h1 a = hL h a := ((f.2.2.2 a ha).2.2 n1 n2).1
theorem FR.R (f : FR W K D h h1) {a : Nat} (ha : a < h.1) (n1 : ¬ a ∈ W) (n2 : ¬ D a) : hR h1 a = hR h a := ((f.2.2.2 a ha).2.2 n1 n2).2.1
theorem FR.I (f : FR W K D h h1) {a k : Nat} (ha : a < h.1) (n1 : ¬ a ∈ W) (n2 : ¬ D a) (n3 : ¬ (a, k) ∈ K) : hI h1 a k = hI h a k := ((f.2.2.2 a ha).2.2 n1 n2).2.2 k n3
/-- fixed cells -/
theorem FR.fI (f : FR W K D h h1) (w : 160 ≤ h.1) (a k : Nat) (hd : a < 160 ∧ ¬ a ∈ W ∧ ¬ (a, k) ∈ K) : hI h1 a k = hI h a k := f.I (by omega) hd.2.1 (fun z => by have := f.2.2.1 a z; omega) hd.2.2
theorem FR.fA (f : FR W K D h h1) (w : 160 ≤ h.1) (a : Nat) (hd : a < 160 ∧ ¬ a ∈ W ∧ ¬ a ∈ K.map (fun p => p.1)) : hI h1 a = hI h a := funext fun k => f.fI w a k ⟨hd.1, hd.2.1, fun z => hd.2.2 (List.mem_map.mpr ⟨_, z, rfl⟩)⟩
theorem FR.fL (f : FR W K D h h1) (w : 160 ≤ h.1) (a : Nat) (hd : a < 160 ∧ ¬ a ∈ W) : hL h1 a = hL h a := f.L (by omega) hd.2 (fun z => by have := f.2.2.1 a z; omega)
theorem FR.fR (f : FR W K D h h1) (w : 160 ≤ h.1) (a : Nat) (hd : a < 160 ∧ ¬ a ∈ W) : hR h1 a = hR h a := f.R (by omega) hd.2 (fun z => by have := f.2.2.1 a z; omega)
/-- own cells -/
theorem FR.oI (f : FR W K D h h1) (hW : ∀ a, a ∈ W → a < 160) (hK : ∀ p, p ∈ K → p.1 < 160) {a : Nat} (l1 : 160 ≤ a) (l2 : a < h.1) (hd : ¬ D a) (k : Nat) : hI h1 a k = hI h a k := f.I l2 (fun z => by have := hW a z; omega) hd (fun z => by have := hK _ z; simp only at this; omega)
theorem FR.oLo (f : FR W K D h h1) (hW : ∀ a, a ∈ W → a < 160) {a : Nat} (l1 : 160 ≤ a) (l2 : a < h.1) (hd : ¬ D a) (k : Nat) : hL h1 a k = hL h a k := congrFun (f.L l2 (fun z => by have := hW a z; omega) hd) k
theorem FR.oR (f : FR W K D h h1) (hW : ∀ a, a ∈ W → a < 160) {a : Nat} (l1 : 160 ≤ a) (l2 : a < h.1) (hd : ¬ D a) (k : Nat) : hR h1 a k = hR h a k := congrFun (f.R l2 (fun z => by have := hW a z; omega) hd) k
def fxR : List Nat := [32, 33, 39, 50, 57, 61, 68, 77, 86]
theorem fz_in : ∀ o k q, fz o k = some q → o ∈ fxR := by
  intro o k q e
  have ho : o < 160 := by
    rcases Nat.lt_or_ge o 160 with z | z
    · exact z
    · have : F0r.getD o [] = [] := by rw [List.getD_eq_getElem?_getD, List.getElem?_eq_none (by show 160 ≤ o; exact z)]; rfl
      unfold fz at e
      rw [this] at e
      cases e
  have hz : ∀ o, o < 160 → ¬ o ∈ fxR → F0r.getD o [] = [] := by decide +kernel
  by_cases m : o ∈ fxR
  · exact m
  · exfalso
    unfold fz at e
    rw [hz o ho m] at e
    cases e
theorem WF.fr (w : WF h) (f : FR W K D h h1) (hW : ∀ a, a ∈ fxR → ¬ a ∈ W) : WF h1 := by
  obtain ⟨w1, w2, w3, w4, w5⟩ := w
  refine ⟨Nat.le_trans w1 f.1, fun i hi => (f.T (by omega)).trans (w2 i hi), fun i hi h1 => (f.N (by omega)).trans (w3 i hi h1), fun o k q hq => ?_, fun i hi => (f.2.1.1 i hi).trans (w5 i (Nat.le_trans f.1 hi))⟩
  have ho := fz_in o k q hq
  have hl : ∀ a, a ∈ fxR → a < 160 := by decide
  exact (congrFun (f.fR w1 o ⟨hl o ho, hW o ho⟩) k).trans (w4 o k q hq)
end FRS
