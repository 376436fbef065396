/-! objects stay distinct -/
theorem psh {f : Nat → Nat} {n v k : Nat} (hk : k < n + 1) : (k = n ∧ u1 f n v k = v) ∨ (k < n ∧ u1 f n v k = f k) := by
  by_cases e : k = n
  · subst e; exact Or.inl ⟨rfl, u1_eq _ _ _⟩
  · exact Or.inr ⟨by omega, u1_ne e⟩
section W20
variable {s : SS} {h : HS}
theorem di_seen (E : EV s h) (D : DI s) {q pl f t : Nat} : DI (st_seen s h q pl f t) := by
  obtain ⟨D1, D2, D3, D4, D5, D6, D7⟩ := D
  unfold st_seen
  refine ⟨?_, ?_, ?_, ?_, ?_, ?_, ?_⟩
  · intro i j hi hj z
    simp (disch := omega) only [u2_u, u2_ne, u2_rowne, u1_eq] at hi hj z
    rcases psh (f := s 31) (v := h.1) hi with ⟨a, a'⟩ | ⟨a, a'⟩ <;> rcases psh (f := s 31) (v := h.1) hj with ⟨b, b'⟩ | ⟨b, b'⟩ <;> rw [a', b'] at z
    · omega
    · have := E.sn.hi b; omega
    · have := E.sn.hi a; omega
    · exact D1 i j a b z
  · intro i j hi hj z
    simp (disch := omega) only [u2_u, u2_ne, u2_rowne] at hi hj z
    exact D2 i j hi hj z
  · intro i j hi hj z
    simp (disch := omega) only [u2_u, u2_ne, u2_rowne] at hi hj z
    exact D3 i j hi hj z
  · intro i j hi hj z
    simp (disch := omega) only [u2_u, u2_ne, u2_rowne] at hi hj ⊢
    exact D4 i j hi hj z
  · intro i j hi hj z
    simp (disch := omega) only [u2_u, u2_ne, u2_rowne, u1_eq] at hi hj z
    rcases psh (f := s 31) (v := h.1) hi with ⟨a, a'⟩ | ⟨a, a'⟩ <;> rw [a'] at z
    · have := E.rp.hi hj; omega
    · exact D5 i j a hj z
  · intro i j hi hj z
    simp (disch := omega) only [u2_u, u2_ne, u2_rowne, u1_eq] at hi hj z
    rcases psh (f := s 31) (v := h.1) hi with ⟨a, a'⟩ | ⟨a, a'⟩ <;> rw [a'] at z
    · have := E.bl.hi hj; omega
    · exact D6 i j a hj z
  · intro i j hi hj z
    simp (disch := omega) only [u2_u, u2_ne, u2_rowne, u1_eq] at hi hj z
    exact D7 i j hi hj z
theorem di_report (E : EV s h) (D : DI s) {w c p act pl d wr : Nat} : DI (st_report s h w c p act pl d wr) := by
  obtain ⟨D1, D2, D3, D4, D5, D6, D7⟩ := D
  unfold st_report
  refine ⟨?_, ?_, ?_, ?_, ?_, ?_, ?_⟩
  · intro i j hi hj z
    simp (disch := omega) only [u2_u, u2_ne, u2_rowne] at hi hj z
    exact D1 i j hi hj z
  · intro i j hi hj z
    simp (disch := omega) only [u2_u, u2_ne, u2_rowne, u1_eq] at hi hj z
    rcases psh (f := s 32) (v := h.1) hi with ⟨a, a'⟩ | ⟨a, a'⟩ <;> rcases psh (f := s 32) (v := h.1) hj with ⟨b, b'⟩ | ⟨b, b'⟩ <;> rw [a', b'] at z
    · omega
    · have := E.rp.hi b; omega
    · have := E.rp.hi a; omega
    · exact D2 i j a b z
  · intro i j hi hj z
    simp (disch := omega) only [u2_u, u2_ne, u2_rowne] at hi hj z
    exact D3 i j hi hj z
  · intro i j hi hj z
    simp (disch := omega) only [u2_u, u2_ne, u2_rowne] at hi hj ⊢
    exact D4 i j hi hj z
  · intro i j hi hj z
    simp (disch := omega) only [u2_u, u2_ne, u2_rowne, u1_eq] at hi hj z
    rcases psh (f := s 32) (v := h.1) hj with ⟨a, a'⟩ | ⟨a, a'⟩ <;> rw [a'] at z
    · have := E.sn.hi hi; omega
    · exact D5 i j hi a z
  · intro i j hi hj z
    simp (disch := omega) only [u2_u, u2_ne, u2_rowne, u1_eq] at hi hj z
    exact D6 i j hi hj z
  · intro i j hi hj z
    simp (disch := omega) only [u2_u, u2_ne, u2_rowne, u1_eq] at hi hj z
    rcases psh (f := s 32) (v := h.1) hi with ⟨a, a'⟩ | ⟨a, a'⟩ <;> rw [a'] at z
    · have := E.bl.hi hj; omega
    · exact D7 i j a hj z
theorem di_bill (E : EV s h) (D : DI s) {w c co : Nat} : DI (st_bill s h w c co) := by
  obtain ⟨D1, D2, D3, D4, D5, D6, D7⟩ := D
  unfold st_bill
  refine ⟨?_, ?_, ?_, ?_, ?_, ?_, ?_⟩
  · intro i j hi hj z
    simp (disch := omega) only [u2_u, u2_ne, u2_rowne] at hi hj z
    exact D1 i j hi hj z
  · intro i j hi hj z
    simp (disch := omega) only [u2_u, u2_ne, u2_rowne] at hi hj z
    exact D2 i j hi hj z
  · intro i j hi hj z
    simp (disch := omega) only [u2_u, u2_ne, u2_rowne, u1_eq] at hi hj z
    rcases psh (f := s 33) (v := h.1) hi with ⟨a, a'⟩ | ⟨a, a'⟩ <;> rcases psh (f := s 33) (v := h.1) hj with ⟨b, b'⟩ | ⟨b, b'⟩ <;> rw [a', b'] at z
    · omega
    · have := E.bl.hi b; omega
    · have := E.bl.hi a; omega
    · exact D3 i j a b z
  · intro i j hi hj z
    simp (disch := omega) only [u2_u, u2_ne, u2_rowne] at hi hj ⊢
    exact D4 i j hi hj z
  · intro i j hi hj z
    simp (disch := omega) only [u2_u, u2_ne, u2_rowne, u1_eq] at hi hj z
    exact D5 i j hi hj z
  · intro i j hi hj z
    simp (disch := omega) only [u2_u, u2_ne, u2_rowne, u1_eq] at hi hj z
    rcases psh (f := s 33) (v := h.1) hj with ⟨a, a'⟩ | ⟨a, a'⟩ <;> rw [a'] at z
    · have := E.sn.hi hi; omega
    · exact D6 i j hi a z
  · intro i j hi hj z
    simp (disch := omega) only [u2_u, u2_ne, u2_rowne, u1_eq] at hi hj z
    rcases psh (f := s 33) (v := h.1) hj with ⟨a, a'⟩ | ⟨a, a'⟩ <;> rw [a'] at z
    · have := E.rp.hi hi; omega
    · exact D7 i j hi a z
theorem di_sheet (E : EV s h) (D : DI s) : DI (st_sheet s h) := by
  obtain ⟨D1, D2, D3, D4, D5, D6, D7⟩ := D
  unfold st_sheet
  refine ⟨?_, ?_, ?_, ?_, ?_, ?_, ?_⟩
  · intro i j hi hj z
    simp (disch := omega) only [u2_u, u2_ne, u2_rowne] at hi hj z
    exact D1 i j hi hj z
  · intro i j hi hj z
    simp (disch := omega) only [u2_u, u2_ne, u2_rowne] at hi hj z
    exact D2 i j hi hj z
  · intro i j hi hj z
    simp (disch := omega) only [u2_u, u2_ne, u2_rowne] at hi hj z
    exact D3 i j hi hj z
  · intro i j hi hj z
    simp (disch := omega) only [u2_u, u2_ne, u2_rowne, u1_eq] at hi hj ⊢
    rcases psh (f := s 30) (v := h.1) hi with ⟨a, a'⟩ | ⟨a, a'⟩ <;> rcases psh (f := s 30) (v := h.1) hj with ⟨b, b'⟩ | ⟨b, b'⟩ <;> rw [a', b']
    · omega
    · have := E.sh.hi b; omega
    · have := E.sh.hi a; omega
    · exact D4 i j a b z
  · intro i j hi hj z
    simp (disch := omega) only [u2_u, u2_ne, u2_rowne, u1_eq] at hi hj z
    exact D5 i j hi hj z
  · intro i j hi hj z
    simp (disch := omega) only [u2_u, u2_ne, u2_rowne, u1_eq] at hi hj z
    exact D6 i j hi hj z
  · intro i j hi hj z
    simp (disch := omega) only [u2_u, u2_ne, u2_rowne, u1_eq] at hi hj z
    exact D7 i j hi hj z
theorem DI.k (D : DI s) {s' : SS} (e5 : s' 0 5 = s 0 5) (e7 : s' 0 7 = s 0 7) (e8 : s' 0 8 = s 0 8) (e3 : s' 0 3 = s 0 3) (r : ∀ x, 30 ≤ x → x ≤ 33 → s' x = s x) : DI s' := by
  unfold DI at D ⊢
  rw [e5, e7, e8, e3, r 30 (by decide) (by decide), r 31 (by decide) (by decide), r 32 (by decide) (by decide), r 33 (by decide) (by decide)]
  exact D
theorem SCc.k {s' : SS} {h' : HS} (S : SCc s h) (r : ∀ x, x = 34 ∨ x = 35 ∨ x = 36 ∨ x = 37 ∨ x = 87 ∨ x = 88 ∨ x = 89 ∨ x = 90 ∨ x = 91 → hI h' x = hI h x) (l : hL h' 38 = hL h 38) (e1 : s' 0 1 = s 0 1) (e2 : s' 0 2 = s 0 2) (e3 : s 0 3 ≤ s' 0 3) : SCc s' h' := by
  obtain ⟨S1, S2, S3, S4, S5, S6⟩ := S
  unfold SCc
  rw [e1, e2, l, r 34 (by decide), r 35 (by decide), r 36 (by decide), r 37 (by decide), r 87 (by decide), r 88 (by decide), r 89 (by decide), r 90 (by decide), r 91 (by decide)]
  refine ⟨S1, S2, S3, S4, S5, fun i hi => ?_⟩
  obtain ⟨q1, q3, q4⟩ := S6 i hi
  refine ⟨q1, ?_, q4⟩
  rcases q3 with q | ⟨t, q, q'⟩
  · exact Or.inl q
  · exact Or.inr ⟨t, by omega, q'⟩
theorem LAc.k {s' : SS} {h' : HS} (L : LAc s h) (r : ∀ x, x = 39 ∨ x = 46 ∨ x = 47 ∨ x = 93 ∨ x = 94 → hI h' x = hI h x) (m1 : hI h' 86 12 = hI h 86 12) (m2 : hI h' 86 13 = hI h 86 13) (e : s' 50 = s 50) : LAc s' h' := by
  unfold LAc at L ⊢
  rw [e, m1, m2, r 39 (by decide), r 46 (by decide), r 47 (by decide), r 93 (by decide), r 94 (by decide)]
  exact L
theorem CTc.k {s' : SS} {h' : HS} (C : CTc s h) (r : ∀ i, i < s 0 3 → hI h' (s 30 i) 5 = hI h (s 30 i) 5 ∧ hI h' (s 30 i) 6 = hI h (s 30 i) 6) (e3 : s' 0 3 = s 0 3) (e7 : s' 0 7 = s 0 7) (e8 : s' 0 8 = s 0 8) (e30 : s' 30 = s 30) (e12 : s' 12 = s 12) (e21 : s' 21 = s 21) : CTc s' h' := by
  unfold CTc at C ⊢
  rw [e3, e7, e8, e30, e12, e21]
  intro i hi
  rw [(r i hi).1, (r i hi).2]
  exact C i hi
end W20
