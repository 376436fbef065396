/-! tear: the small families go on -/
section W26
variable {s : SS} {h : HS}
def st_tear (s : SS) (i : Nat) : SS := fun r k => if r = 3 ∧ k = i then s 0 0 else if r = 20 ∧ k < s 0 7 ∧ s 12 k = i ∧ s 20 k = 100000 then s 0 0 else if r = 25 ∧ k < s 0 8 ∧ s 21 k = i ∧ s 25 k = 100000 then s 0 0 else s r k
theorem st_tear_ne {i r : Nat} (h3 : ¬ r = 3) (h20 : ¬ r = 20) (h25 : ¬ r = 25) : st_tear s i r = s r := by
  funext k
  unfold st_tear
  rw [if_neg (fun z => h3 z.1), if_neg (fun z => h20 z.1), if_neg (fun z => h25 z.1)]
theorem terM_I (E : EV s h) {i x : Nat} (hi : i < s 0 3) (hx : x < 160) (a1 : ¬ x = 37) (a2 : ¬ x = 91) (a3 : ¬ x = 97) (a4 : ¬ x = 119) (a5 : ¬ x = 124) : hI (terM s i (terC s i h)) x = hI h x := by
  unfold terM
  rw [hI_In a5, hI_In a4, hI_In a2, hsI_ha, hI_In a3, terC_I E hi hx a1]
theorem terM_37 (E : EV s h) {i : Nat} (hi : i < s 0 3) : hI (terM s i (terC s i h)) 37 = sF (hI h 37) (nI i) (s 0 2) := by
  unfold terM
  rw [hI_In (by decide), hI_In (by decide), hI_In (by decide), hsI_ha, hI_In (by decide)]
  unfold terC
  rw [hI_I, terG_I E hi (by decide)]
theorem terM_91 (E : EV s h) {i : Nat} (hi : i < s 0 3) : hI (terM s i (terC s i h)) 91 = sF (hI h 91) (nI i) (s 0 2) := by
  unfold terM
  rw [hI_In (by decide), hI_In (by decide), hI_I, hsI_ha, hI_In (by decide), terC_I E hi (by decide) (by decide)]
theorem terM_o (s : SS) (i : Nat) (h : HS) : hT (terM s i (terC s i h)) = hT h ∧ hN (terM s i (terC s i h)) = hN h ∧ hR (terM s i (terC s i h)) = hR h ∧ hL (terM s i (terC s i h)) = hL h ∧ (terM s i (terC s i h)).1 = h.1 := by
  obtain ⟨a1, a2, a3, a4, a5⟩ := papF_o s i (nI (s 0 0)) (s 0 8) (hsI h (s 30 i) 3 (nI (s 0 0)))
  unfold terM terC terG
  simp only [hsI_ha, hT_I, hN_I, hR_I, hL_I, h1_I] at a1 a2 a3 a4 a5 ⊢
  exact ⟨a1, a2, a3, a4, a5⟩
theorem sk_tear (E : EV s h) (S : SCc s h) {i : Nat} (hi : i < s 0 3) : SCc (st_tear s i) (terM s i (terC s i h)) := by
  obtain ⟨S1, S2, S3, S4, S5, S6⟩ := S
  unfold SCc
  rw [st_tear_ne (r := 0) (by decide) (by decide) (by decide), terM_37 E hi, terM_91 E hi, (terM_o s i h).2.2.2.1]
  rw [terM_I E hi (x := 34) (by decide) (by decide) (by decide) (by decide) (by decide) (by decide), terM_I E hi (x := 35) (by decide) (by decide) (by decide) (by decide) (by decide) (by decide), terM_I E hi (x := 36) (by decide) (by decide) (by decide) (by decide) (by decide) (by decide), terM_I E hi (x := 87) (by decide) (by decide) (by decide) (by decide) (by decide) (by decide), terM_I E hi (x := 88) (by decide) (by decide) (by decide) (by decide) (by decide) (by decide), terM_I E hi (x := 89) (by decide) (by decide) (by decide) (by decide) (by decide) (by decide), terM_I E hi (x := 90) (by decide) (by decide) (by decide) (by decide) (by decide) (by decide)]
  refine ⟨S1, S2, S3, by rw [S4], S5, fun k hk => ?_⟩
  obtain ⟨q1, q3, q4⟩ := S6 k hk
  refine ⟨q1, ?_, q4⟩
  unfold sF
  split
  · exact Or.inl rfl
  · exact q3
theorem lk_tear (E : EV s h) (L : LAc s h) {i : Nat} (hi : i < s 0 3) : LAc (st_tear s i) (terM s i (terC s i h)) := by
  have x86 := terM_I E hi (x := 86) (by decide) (by decide) (by decide) (by decide) (by decide) (by decide)
  exact L.k (by rintro x (rfl | rfl | rfl | rfl | rfl) <;> exact terM_I E hi (by decide) (by decide) (by decide) (by decide) (by decide) (by decide)) (by rw [x86]) (by rw [x86]) (st_tear_ne (by decide) (by decide) (by decide))
theorem zk_tear (E : EV s h) (Z : ZSc s h) {i : Nat} (hi : i < s 0 3) : ZSc (st_tear s i) (terM s i (terC s i h)) := by
  intro k hk
  rw [st_tear_ne (r := 0) (by decide) (by decide) (by decide)] at hk
  rw [terM_I E hi (x := 98) (by decide) (by decide) (by decide) (by decide) (by decide) (by decide), terM_I E hi (x := 99) (by decide) (by decide) (by decide) (by decide) (by decide) (by decide)]
  exact Z k hk
theorem di_tear (D : DI s) {i : Nat} : DI (st_tear s i) := by
  have e0 := st_tear_ne (s := s) (i := i) (r := 0) (by decide) (by decide) (by decide)
  exact D.k (by rw [e0]) (by rw [e0]) (by rw [e0]) (by rw [e0]) (fun x h1 h2 => st_tear_ne (by omega) (by omega) (by omega))
theorem rk_tear (E : EV s h) (R : RWc h) {i : Nat} (hi : i < s 0 3) : RWc (terM s i (terC s i h)) := by
  have r : ∀ x, x < 160 → ¬ x = 37 → ¬ x = 91 → ¬ x = 97 → ¬ x = 119 → ¬ x = 124 → hI (terM s i (terC s i h)) x = hI h x := fun x => terM_I E hi
  unfold RWc at R ⊢
  simp (disch := omega) only [r]
  exact R
end W26
