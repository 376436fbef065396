/-! scraps: what the two sides keep of them, whether they fit -/
def SCc (s : SS) (h : HS) : Prop := hI h 34 = hI h 87 ∧ hI h 35 = hI h 88 ∧ hI h 36 = hI h 89 ∧ hI h 37 = hI h 91 ∧ (∀ i, i < s 0 1 → ∃ n, 1 ≤ n ∧ n ≤ 999 ∧ hI h 87 i = nI n) ∧ (∀ i, i < s 0 2 → (∃ n, n < s 0 1 ∧ hI h 88 i = nI n) ∧ (hI h 91 i = -1 ∨ ∃ t, t < s 0 3 ∧ hI h 91 i = nI t) ∧ ∀ k, k < 4 → hI h 90 (4 * i + k) = eg (hL h 38 i) k)
theorem SCc.e {s : SS} {h : HS} (S : SCc s h) {i k : Nat} (hi : i < s 0 2) (hk : k < 4) : hI h 90 (4 * i + k) = eg (hL h 38 i) k := (S.2.2.2.2.2 i hi).2.2 k hk
def jn (h : HS) (a b how : Nat) : Bool := decide (¬ hI h 90 (4 * a + 1 + how) = 0 ∧ ¬ hI h 90 (4 * a + 1 + how) = -32768 ∧ hI h 90 (4 * a + 1 + how) = -hI h 90 (4 * b + (if how = 0 then 3 else 0)) ∧ hI h 89 a = hI h 89 b)
theorem eg_ne (x : Int64) (k : Nat) (hk : k < 4) : ¬ eg x k = 32768 := by
  intro e
  have h1 := eg_bit x (k := k) (i := 15) hk (by decide)
  have h2 := eg_bit x (k := k) (i := 16) hk (by decide)
  rw [e] at h1 h2
  rw [if_pos (by decide)] at h1
  rw [if_neg (by decide)] at h2
  rw [← h1] at h2
  exact absurd h2 (by decide)
section SCS
variable {s : SS} {h : HS}
theorem p88E (E : EV s h) {i k : Nat} (hi : i < s 0 2) : p88 h (nI i) (nI k) = some (eg (hL h 38 i) k) := by
  have c2 := E.cn.b2
  unfold p88
  rw [if_neg (nI_in (by omega) (by omega)), nI_clamp (by omega)]
  rfl
theorem jnC (E : EV s h) (S : SCc s h) {a b : Nat} (ha : a < s 0 2) (hb : b < s 0 2) : p89 h (nI a) (nI b) = some (b2 (jn h a b 0)) ∧ p90 h (nI a) (nI b) = some (b2 (jn h a b 1)) := by
  have c2 := E.cn.b2
  have ga : ¬ (nI a < 0 ∨ 200 ≤ (nI a).toNatClampNeg) := nI_in (by omega) (by omega)
  have gb : ¬ (nI b < 0 ∨ 200 ≤ (nI b).toNatClampNeg) := nI_in (by omega) (by omega)
  have main : ∀ (x y : Int32) (c : Prop) [Decidable c], (if c then (Option.bind (p91 h x y) fun r8 => if r8 = 0 then some (0 : Int32) else some 1) else some 0) = some (b2 (decide (¬ x = 0 ∧ ¬ x = -32768 ∧ x = -y ∧ c))) := by
    intro x y c _
    by_cases hc : c
    · rw [if_pos hc]
      unfold p91
      by_cases h1 : x = 0
      · rw [if_pos h1, decide_eq_false (fun z => z.1 h1)]; rfl
      · rw [if_neg h1]
        by_cases h2 : x = -32768
        · rw [if_pos h2, decide_eq_false (fun z => z.2.1 h2)]; rfl
        · rw [if_neg h2]
          by_cases h3 : x = -y
          · rw [if_pos h3, decide_eq_true ⟨h1, h2, h3, hc⟩]; rfl
          · rw [if_neg h3, decide_eq_false (fun z => h3 z.2.2.1)]; rfl
    · rw [if_neg hc, decide_eq_false (fun z => hc z.2.2.2)]; rfl
  constructor
  · unfold p89 jn
    rw [if_neg ga, if_neg gb, nI_clamp (by omega), nI_clamp (by omega), show (1 : Int32) = nI 1 from rfl, show (3 : Int32) = nI 3 from rfl, p88E E ha, ob, p88E E hb, ob, S.2.2.1, if_pos rfl, Nat.add_zero, S.e ha (by decide), S.e hb (by decide)]
    exact main _ _ _
  · unfold p90 jn
    rw [if_neg ga, if_neg gb, nI_clamp (by omega), nI_clamp (by omega), show (2 : Int32) = nI 2 from rfl, show p88 h (nI b) 0 = p88 h (nI b) (nI 0) from rfl, p88E E ha, ob, p88E E hb, ob, S.2.2.1, if_neg (show ¬ (1 : Nat) = 0 by decide), show 4 * a + 1 + 1 = 4 * a + 2 by omega, S.e ha (by decide), S.e hb (by decide)]
    exact main _ _ _
theorem jnM (E : EV s h) (S : SCc s h) {a b how : Nat} (ha : a < s 0 2) (hb : b < s 0 2) (hh : how < 2) : p195 h (nI a) (nI b) (nI how) = some (b2 (jn h a b how)) := by
  have c2 := E.cn.b2
  have ga : ¬ (nI a < 0 ∨ 200 ≤ (nI a).toNatClampNeg) := nI_in (by omega) (by omega)
  have gb : ¬ (nI b < 0 ∨ 200 ≤ (nI b).toNatClampNeg) := nI_in (by omega) (by omega)
  have gx : ¬ (nI (4 * a + 1 + how) < 0 ∨ 800 ≤ (nI (4 * a + 1 + how)).toNatClampNeg) := nI_in (by omega) (by omega)
  have ex : ((4 : Int32) * nI a + 1) + nI how = nI (4 * a + 1 + how) := by rw [show (4 : Int32) = nI 4 from rfl, pk_mul, nI_1, nI_add]
  have main : ∀ k, k < 4 → p195_j30 (nI a) (nI b) (nI how) h (hI h 90 (4 * a + 1 + how)) (nI k) (4 * nI b) = some (b2 (decide (¬ hI h 90 (4 * a + 1 + how) = 0 ∧ ¬ hI h 90 (4 * a + 1 + how) = -32768 ∧ hI h 90 (4 * a + 1 + how) = -hI h 90 (4 * b + k) ∧ hI h 89 a = hI h 89 b))) := by
    intro k hk
    have ey : (4 : Int32) * nI b + nI k = nI (4 * b + k) := by rw [show (4 : Int32) = nI 4 from rfl, pk_mul, nI_add]
    have gy : ¬ (nI (4 * b + k) < 0 ∨ 800 ≤ (nI (4 * b + k)).toNatClampNeg) := nI_in (by omega) (by omega)
    unfold p195_j30
    rw [ey, if_neg gy, if_neg ga, if_neg gb, nI_clamp (by omega), nI_clamp (by omega), nI_clamp (by omega)]
    by_cases h1 : hI h 90 (4 * a + 1 + how) = 0
    · rw [if_pos h1, decide_eq_false (fun z => z.1 h1)]; rfl
    · rw [if_neg h1]
      by_cases h2 : hI h 90 (4 * a + 1 + how) = -32768
      · rw [if_pos h2, decide_eq_false (fun z => z.2.1 h2)]; rfl
      · rw [if_neg h2]
        by_cases h3 : hI h 90 (4 * b + k) = -32768
        · rw [if_pos h3]
          have : ¬ hI h 90 (4 * a + 1 + how) = -hI h 90 (4 * b + k) := by
            rw [h3, show -(-32768 : Int32) = 32768 by decide, Nat.add_assoc, S.e ha (show 1 + how < 4 by omega)]
            exact eg_ne _ _ (by omega)
          rw [decide_eq_false (fun z => this z.2.2.1)]; rfl
        · rw [if_neg h3]
          by_cases h4 : hI h 90 (4 * a + 1 + how) = -hI h 90 (4 * b + k)
          · rw [if_pos h4]
            by_cases h5 : hI h 89 a = hI h 89 b
            · rw [if_pos h5, decide_eq_true ⟨h1, h2, h4, h5⟩]; rfl
            · rw [if_neg h5, decide_eq_false (fun z => h5 z.2.2.2)]; rfl
          · rw [if_neg h4, decide_eq_false (fun z => h4 z.2.2.1)]; rfl
  unfold p195
  rw [ex, if_neg gx, nI_clamp (by omega)]
  unfold jn
  rcases (show how = 0 ∨ how = 1 by omega) with rfl | rfl
  · rw [if_pos (show nI 0 = 0 from rfl), if_pos rfl]
    exact main 3 (by decide)
  · rw [if_neg (show ¬ nI 1 = 0 by decide), if_neg (show ¬ (1 : Nat) = 0 by decide)]
    exact main 0 (by decide)
theorem scrc (E : EV s h) (a : Int32) : (p87 h a = some 0 ∧ p193 h a = some 0) ∨ ∃ i, i < s 0 2 ∧ a = nI i ∧ p87 h (nI i) = some 1 ∧ p193 h (nI i) = some 1 := by
  have c2 := E.cn.b2
  rcases ixc a (s 0 2) (by omega) with ⟨h1, h2, -⟩ | ⟨q, hq, rfl, h1, h2⟩
  · left
    exact ⟨by unfold p87; rw [E.cn.c2, h1]; rfl, by unfold p193; rw [E.cn.m2, h2]; rfl⟩
  · right
    exact ⟨q, hq, rfl, by unfold p87; rw [E.cn.c2, h1]; rfl, by unfold p193; rw [E.cn.m2, h2]; rfl⟩
theorem q_fits (E : EV s h) (S : SCc s h) (a b c : Int32) : ∃ v, p118 h a b c = some v ∧ p196 h a b c = some v := by
  have c2 := E.cn.b2
  unfold p118 p196
  rcases scrc E a with ⟨h1, h2⟩ | ⟨i, hi, rfl, h1, h2⟩
  · simp only [h1, h2, ob, one0, eq_self, or_true, true_or, or_false, false_or, if_true, if_false]; exact ⟨_, rfl, rfl⟩
  · rcases scrc E b with ⟨h3, h4⟩ | ⟨j, hj, rfl, h3, h4⟩
    · simp only [h1, h2, h3, h4, ob, one0, eq_self, or_true, true_or, or_false, false_or, if_true, if_false]; exact ⟨_, rfl, rfl⟩
    · rcases rngc c 0 1 with ⟨h5, h6⟩ | ⟨h5, h6, y1, y2⟩
      · by_cases hij : nI i = nI j
        · rw [h1, h2, h3, h4]
          simp only [ob, one0, eq_self, or_true, true_or, or_false, false_or, if_true, if_false, hij]; exact ⟨_, rfl, rfl⟩
        · simp only [h1, h2, h3, h4, h5, h6, ob, one0, eq_self, or_true, true_or, or_false, false_or, if_true, if_false, hij]; exact ⟨_, rfl, rfl⟩
      · obtain ⟨k, -, hk, rfl⟩ := le_of_nI (m := 0) (n := 1) (by decide) (by decide) y1 y2
        obtain ⟨j1, j2⟩ := jnC E S hi hj
        have j3 := jnM E S hi hj (show k < 2 by omega)
        by_cases hij : nI i = nI j
        · rw [h1, h2, h3, h4]
          simp only [ob, one0, eq_self, or_true, true_or, or_false, false_or, if_true, if_false, hij]; exact ⟨_, rfl, rfl⟩
        · simp only [h1, h2, h3, h4, h5, h6, ob, one0, eq_self, or_true, true_or, or_false, false_or, if_true, if_false, hij, j1, j2, j3]
          rcases (show k = 0 ∨ k = 1 by omega) with rfl | rfl
          · rw [if_pos (show nI 0 = 0 from rfl)]
            cases jn h i j 0 <;> exact ⟨_, rfl, rfl⟩
          · rw [if_neg (show ¬ nI 1 = 0 by decide)]
            cases jn h i j 1 <;> exact ⟨_, rfl, rfl⟩
end SCS
