/-! the fixed cells: both objects and what they hold for good; laid by wip/whole/gen19.py -/
def tT0 : List Nat := [40, 40, 41, 41, 41, 41, 41, 41, 41, 41, 41, 41, 41, 41, 41, 41, 41, 41, 41, 41, 41, 41, 41, 41, 99, 99, 99, 99, 99, 99, 99, 99, 11, 8, 20, 20, 20, 20, 23, 3, 20, 20, 20, 20, 20, 20, 20, 20, 20, 24, 0, 20, 20, 27, 27, 27, 23, 10, 20, 20, 20, 2, 20, 20, 20, 20, 25, 26, 4, 20, 20, 20, 20, 22, 20, 20, 20, 7, 20, 20, 20, 20, 20, 20, 23, 23, 12, 20, 20, 20, 20, 20, 20, 20, 20, 20, 20, 20, 20, 20, 20, 20, 20, 20, 20, 20, 20, 20, 20, 20, 20, 20, 20, 20, 20, 20, 20, 20, 20, 20, 20, 20, 20, 20, 20, 22, 21, 20, 20, 20, 20, 20, 20, 20, 20, 20, 23, 23, 23, 20, 20, 20, 20, 20, 20, 22, 21, 22, 22, 20, 20, 20, 20, 22, 20, 20, 20, 20, 20, 23]
def tN0 : List Nat := [9, 0, 106, 4, 4, 4, 3, 5, 3, 2, 3, 4, 5, 6, 3, 5, 5, 5, 5, 7, 5, 3, 3, 2, 0, 0, 0, 0, 0, 0, 0, 0, 16, 7, 20, 200, 200, 200, 200, 14, 8, 8, 8, 8, 9, 8, 8, 8, 8, 200, 11, 40, 32, 400, 200, 200, 200, 5, 400, 401, 401, 11, 12, 12, 12, 400, 20, 30, 9, 60, 60, 60, 60, 60, 60, 60, 60, 10, 12, 12, 9, 9, 512, 512, 512, 11, 99, 20, 200, 200, 800, 200, 8, 8, 8, 200, 200, 200, 200, 200, 60, 60, 60, 400, 400, 400, 400, 400, 400, 40, 32, 200, 200, 200, 200, 200, 200, 200, 200, 200, 200, 200, 200, 200, 200, 60, 400, 20, 20, 240, 240, 240, 240, 8000, 8000, 400, 400, 11, 4000, 4000, 4000, 30, 30, 30, 30, 30, 120000, 60, 200, 60, 60, 60, 60, 60, 12, 12, 9, 9, 9, 512]
def F0r : List (List (Nat × Nat)) := [[],
  [],
  [],
  [],
  [],
  [],
  [],
  [],
  [],
  [],
  [],
  [],
  [],
  [],
  [],
  [],
  [],
  [],
  [],
  [],
  [],
  [],
  [],
  [],
  [],
  [],
  [],
  [],
  [],
  [],
  [],
  [],
  [(5, 33), (6, 39), (7, 49), (8, 50), (9, 57), (10, 61), (11, 66), (12, 67), (13, 68), (14, 77), (15, 85)],
  [(2, 34), (3, 35), (4, 36), (5, 37), (6, 38)],
  [],
  [],
  [],
  [],
  [],
  [(0, 33), (5, 40), (6, 41), (7, 42), (8, 43), (9, 44), (10, 45), (11, 46), (12, 47), (13, 48)],
  [],
  [],
  [],
  [],
  [],
  [],
  [],
  [],
  [],
  [],
  [(5, 51), (6, 52), (7, 53), (8, 54), (9, 55), (10, 56)],
  [],
  [],
  [],
  [],
  [],
  [],
  [(1, 58), (3, 59), (4, 60)],
  [],
  [],
  [],
  [(0, 59), (1, 60), (7, 62), (8, 63), (9, 64), (10, 65)],
  [],
  [],
  [],
  [],
  [],
  [],
  [(1, 69), (2, 70), (3, 71), (4, 72), (5, 73), (6, 74), (7, 75), (8, 76)],
  [],
  [],
  [],
  [],
  [],
  [],
  [],
  [],
  [(0, 33), (2, 78), (3, 79), (5, 80), (6, 81), (7, 82), (8, 83), (9, 84)],
  [],
  [],
  [],
  [],
  [],
  [],
  [],
  [],
  [(4, 87), (5, 88), (6, 89), (7, 90), (8, 91), (9, 92), (10, 93), (11, 94), (15, 95), (16, 96), (17, 97), (18, 98), (19, 99), (22, 100), (23, 101), (24, 102), (25, 103), (26, 104), (27, 105), (28, 106), (29, 107), (30, 108), (34, 109), (35, 110), (36, 111), (37, 112), (38, 113), (39, 114), (40, 115), (41, 116), (42, 117), (43, 118), (44, 119), (45, 120), (46, 121), (47, 122), (48, 123), (49, 124), (50, 125), (51, 126), (59, 127), (60, 128), (61, 129), (62, 130), (63, 131), (64, 132), (65, 133), (66, 134), (69, 135), (70, 136), (71, 137), (74, 138), (75, 139), (76, 140), (77, 141), (78, 142), (79, 143), (80, 144), (81, 145), (82, 146), (83, 147), (84, 148), (86, 149), (87, 150), (88, 151), (89, 152), (90, 153), (93, 154), (94, 155), (95, 156), (96, 157), (97, 158), (98, 159)],
  [],
  [],
  [],
  [],
  [],
  [],
  [],
  [],
  [],
  [],
  [],
  [],
  [],
  [],
  [],
  [],
  [],
  [],
  [],
  [],
  [],
  [],
  [],
  [],
  [],
  [],
  [],
  [],
  [],
  [],
  [],
  [],
  [],
  [],
  [],
  [],
  [],
  [],
  [],
  [],
  [],
  [],
  [],
  [],
  [],
  [],
  [],
  [],
  [],
  [],
  [],
  [],
  [],
  [],
  [],
  [],
  [],
  [],
  [],
  [],
  [],
  [],
  [],
  [],
  [],
  [],
  [],
  [],
  [],
  [],
  [],
  [],
  []]
def fz (o k : Nat) : Option Nat := ((F0r.getD o []).find? (fun q => q.1 == k)).map (fun q => q.2)
def WF (h : HS) : Prop := 160 ≤ h.1 ∧ (∀ i, i < 160 → hT h i = tT0.getD i 99) ∧ (∀ i, i < 160 → ¬ i = 1 → hN h i = tN0.getD i 0) ∧ (∀ o k q, fz o k = some q → hR h o k = some q) ∧ (∀ i, h.1 ≤ i → hT h i = 99)
theorem WF.t {h : HS} (w : WF h) (i : Nat) (hi : i < 160) : hT h i = tT0.getD i 99 := w.2.1 i hi
theorem WF.n {h : HS} (w : WF h) (i : Nat) (hi : i < 160 ∧ ¬ i = 1) : hN h i = tN0.getD i 0 := w.2.2.1 i hi.1 hi.2
theorem WF.r {h : HS} (w : WF h) (o k : Nat) {q : Nat} (hq : fz o k = some q) : hR h o k = some q := w.2.2.2.1 o k q hq
theorem WF.s {h : HS} (w : WF h) (i : Nat) (hi : i < 160 ∧ tT0.getD i 99 = 41) : hT h i = 41 := (w.2.1 i hi.1).trans hi.2
theorem WF.x {h : HS} (w : WF h) (i : Nat) (hi : i < 160 ∧ tT0.getD i 99 = 40) : hT h i = 40 := (w.2.1 i hi.1).trans hi.2
theorem WF.nw {h : HS} (w : WF h) {t n : Nat} {f : Nat → Int32} : WF (hnew h t n f) := by
  obtain ⟨w1, w2, w3, w4, w5⟩ := w
  have ne : ∀ i, i < 160 → ¬ i = h.1 := fun i hi => by omega
  refine ⟨by show 160 ≤ h.1 + 1; omega, fun i hi => (if_neg (ne i hi)).trans (w2 i hi), fun i hi h1 => (if_neg (ne i hi)).trans (w3 i hi h1), fun o k q hq => ?_, fun i hi => ?_⟩
  · have ho : o < 160 := by
      rcases Nat.lt_or_ge o 160 with z | z
      · exact z
      · have : F0r.getD o [] = [] := by rw [List.getD_eq_getElem?_getD, List.getElem?_eq_none (by show 160 ≤ o; exact z)]; rfl
        unfold fz at hq
        rw [this] at hq
        cases hq
    exact (if_neg (ne o ho)).trans (w4 o k q hq)
  · have hi' : h.1 + 1 ≤ i := hi
    exact (if_neg (by omega)).trans (w5 i (by omega))
theorem WF.ra {h : HS} (w : WF h) (o : Nat) {j : Nat} {v : Option Nat} (ho : F0r.getD o [] = []) : WF (hsR h o j v) := by
  obtain ⟨w1, w2, w3, w4, w5⟩ := w
  refine ⟨w1, w2, w3, fun o2 k q hq => ?_, w5⟩
  have hne : ¬ (o2 = o ∧ k = j) := fun z => by
    unfold fz at hq
    rw [z.1, ho] at hq
    cases hq
  exact (if_neg hne).trans (w4 o2 k q hq)
/-- an object of a kind that is no fixed one -/
theorem WF.own {h : HS} (w : WF h) {o t : Nat} (ht : hT h o = t) (hn : t = 6 ∨ t = 9 ∨ t = 5 ∨ t = 1 := by decide) : F0r.getD o [] = [] := by
  rcases Nat.lt_or_ge o 160 with z | z
  · have h1 := w.2.1 o z
    rw [ht] at h1
    have hq : ∀ o, o < 160 → tT0.getD o 99 = 6 ∨ tT0.getD o 99 = 9 ∨ tT0.getD o 99 = 5 ∨ tT0.getD o 99 = 1 → F0r.getD o [] = [] := by decide +kernel
    exact hq o z (by rw [← h1]; exact hn)
  · rw [List.getD_eq_getElem?_getD, List.getElem?_eq_none (by show 160 ≤ o; exact z)]; rfl
theorem WF.rr {h : HS} (w : WF h) (o : Nat) {j : Nat} {v : Option Nat} (ho : F0r.getD o [] = []) : WF (hsR h o j v) := w.ra o ho
theorem hT_new (h : HS) (t n : Nat) (f : Nat → Int32) : hT (hnew h t n f) h.1 = t := if_pos rfl
theorem i32_ne {x y : Int32} {j : Int} (h : ¬ x = y) (hj : y.toInt = j) : ¬ x.toInt = j := fun e => h (Int32.toInt_inj.mp (e.trans hj.symm))
theorem sw_out {x : Int32} (lo hi : Int) (h : ∀ j : Int, lo ≤ j → j ≤ hi → ¬ x.toInt = j) : x.toInt < lo ∨ hi < x.toInt := by
  by_cases z : x.toInt < lo
  · exact Or.inl z
  · by_cases z2 : hi < x.toInt
    · exact Or.inr z2
    · exact absurd rfl (h _ (by omega) (by omega))
