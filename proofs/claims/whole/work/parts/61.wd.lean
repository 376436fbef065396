/-! laid: what is read of the laying -/
section W13
variable {s : SS} {h : HS}
def LAc (s : SS) (h : HS) : Prop := hI h 39 1 = nI (s 50 0) ∧ hI h 86 12 = nI (s 50 0) ∧ s 50 0 ≤ 8 ∧ hI h 39 4 = nI (s 50 1) ∧ hI h 86 13 = nI (s 50 1) ∧ s 50 1 < 1000000 ∧ (∀ i, i < s 50 0 → 0 < s 50 1 → hI h 46 i = hI h 93 i) ∧ (∀ i, i < s 50 0 → 1 < s 50 1 → hI h 47 i = hI h 94 i)
theorem q_laid (E : EV s h) (L : LAc s h) (a b : Int32) : ∃ v, p120 h a b = some v ∧ p202 h a b = some v := by
  obtain ⟨L1, L2, L3, L4, L5, L6, L7, L8⟩ := L
  have t46 : hT h 46 = 20 := E.w.t 46 (by decide)
  have t47 : hT h 47 = 20 := E.w.t 47 (by decide)
  have n46 : hN h 46 = 8 := E.w.n 46 (by decide)
  have n47 : hN h 47 = 8 := E.w.n 47 (by decide)
  unfold p120 p202 p52 p53 p54
  rw [L1, L2, L4, L5]
  by_cases hz : s 50 0 = 0
  · refine ⟨-1, ?_, ?_⟩
    · rw [hz, if_pos (show nI 0 = 0 from rfl), if_neg (show ¬ (0 : Int32) < nI 0 by decide), ob, ob, if_pos rfl]
      split <;> rfl
    · rw [hz, if_pos (show nI 0 = 0 from rfl)]
  · have z1 : ¬ nI (s 50 0) = 0 := fun z => hz ((nI_eq (b := 0) (by omega) (by omega)).mp z)
    rw [if_neg z1, if_neg z1, if_pos (show (0 : Int32) < nI (s 50 0) from nI_lt (a := 0) (by omega) (by omega))]
    by_cases hb : b = -1
    · rw [if_pos hb, if_pos hb, ob]; exact ⟨_, rfl, rfl⟩
    · rw [if_neg hb, if_neg hb]
      rcases rngc a 0 1 with ⟨h3, h4⟩ | ⟨h3, h4, y1, y2⟩
      · refine ⟨-1, ?_, ?_⟩
        · rw [h3, ob, if_pos rfl, ob, if_pos rfl]; rfl
        · rw [h4, ob, if_pos rfl]
      · obtain ⟨k, -, hk, rfl⟩ := le_of_nI (m := 0) (n := 1) (by decide) (by decide) y1 y2
        rw [h3, h4, ob, ob, if_neg (show ¬ (1 : Int32) = 0 by decide), if_neg (show ¬ (1 : Int32) = 0 by decide)]
        by_cases hc : k < s 50 1
        · have c1 : nI k < nI (s 50 1) := nI_lt hc (by omega)
          rw [if_pos c1, if_pos c1, ob, if_neg (show ¬ (1 : Int32) = 0 by decide)]
          rcases ixc b (s 50 0) (by omega) with ⟨h1, h2, -⟩ | ⟨i, hi, rfl, h1, h2⟩
          · refine ⟨-1, ?_, ?_⟩
            · rw [h1, ob, if_pos rfl]; rfl
            · rw [h2, ob, if_pos rfl]
          · have g : ¬ (nI i < 0 ∨ 8 ≤ (nI i).toNatClampNeg) := nI_in (by omega) (by omega)
            rw [h1, h2, ob, ob, if_neg (show ¬ (1 : Int32) = 0 by decide), if_neg (show ¬ (1 : Int32) = 0 by decide)]
            unfold p55
            rcases (show k = 0 ∨ k = 1 by omega) with rfl | rfl
            · refine ⟨hI h 46 i, ?_, ?_⟩
              · rw [if_pos (show nI 0 = 0 from rfl), ob, ob, if_pos t46, n46, if_neg g, nI_clamp (by omega), ob]
              · rw [if_pos (show nI 0 = 0 from rfl), if_neg g, nI_clamp (by omega), L7 i hi hc]
            · refine ⟨hI h 47 i, ?_, ?_⟩
              · rw [if_neg (show ¬ nI 1 = 0 by decide), ob, ob, if_pos t47, n47, if_neg g, nI_clamp (by omega), ob]
              · rw [if_neg (show ¬ nI 1 = 0 by decide), if_neg g, nI_clamp (by omega), L8 i hi hc]
        · have c1 : ¬ nI k < nI (s 50 1) := nI_nlt (by omega) (by omega)
          rw [if_neg c1, if_neg c1, ob, if_pos rfl]
          exact ⟨_, rfl, rfl⟩
end W13
