/-! tear: what the papers read afterwards -/
theorem trC_at (p : Nat → Bool) (ob : Nat → Nat) (now : Int32) (m : Nat) (h : HS) {N k : Nat} (hm : m ≤ N) (inj : ∀ i j, i < N → j < N → ob i = ob j → i = j) (hk : k < N) : hI (trC p ob now m h) (ob k) = if k < m ∧ p k = true then u1 (hI h (ob k)) 2 now else hI h (ob k) := by
  induction m with
  | zero => rw [if_neg (fun z => by omega)]; rfl
  | succ m ih =>
    have ih := ih (by omega)
    rw [trC]
    by_cases e : k = m
    · subst e
      rw [if_neg (fun z => by omega)] at ih
      by_cases c : p k = true
      · rw [if_pos c, if_pos ⟨by omega, c⟩, hsI_ha, hI_I, ih]
      · rw [if_neg c, if_neg (fun z => c z.2), ih]
    · have e2 : ¬ ob k = ob m := fun z => e (inj k m hk (by omega) z)
      have e3 : (k < m + 1 ∧ p k = true) = (k < m ∧ p k = true) := propext ⟨fun z => ⟨by omega, z.2⟩, fun z => ⟨by omega, z.2⟩⟩
      simp only [e3]
      rw [← ih]
      split
      · rw [hsI_ha, hI_In e2]
      · rfl
section W27
variable {s : SS} {h : HS}
theorem wf_tear (w : WF h) {i : Nat} : WF (terM s i (terC s i h)) := by
  obtain ⟨a1, a2, a3, a4, a5⟩ := terM_o s i h
  unfold WF at w ⊢
  rw [a1, a2, a3, a5]
  exact w
theorem terM_hi {i x : Nat} (hx : 160 ≤ x) : hI (terM s i (terC s i h)) x = hI (terG s i h) x := by
  unfold terM
  rw [hI_In (by omega), hI_In (by omega), hI_In (by omega), hsI_ha, hI_In (by omega)]
  unfold terC
  rw [hI_In (by omega)]
theorem terM_sh (E : EV s h) {i k : Nat} (hk : k < s 0 3) : hI (terM s i (terC s i h)) (s 30 k) = hI (hsI h (s 30 i) 3 (nI (s 0 0))) (s 30 k) := by
  rw [terM_hi (E.sh.lo hk)]
  unfold terG
  exact papF_I (fun j hj => rp_sh E hk hj) (fun j hj => bl_sh E hk hj)
theorem ck_tear (E : EV s h) (D : DI s) (C : CTc s h) {i : Nat} (hi : i < s 0 3) : CTc (st_tear s i) (terM s i (terC s i h)) := by
  have e0 := st_tear_ne (s := s) (i := i) (r := 0) (by decide) (by decide) (by decide)
  refine C.k (fun k hk => ?_) (by rw [e0]) (by rw [e0]) (by rw [e0]) (st_tear_ne (by decide) (by decide) (by decide)) (st_tear_ne (by decide) (by decide) (by decide)) (st_tear_ne (by decide) (by decide) (by decide))
  rw [terM_sh E hk, hsI_ha]
  by_cases e : k = i
  · subst e
    rw [hI_I, u1_ne (by decide), u1_ne (by decide)]
    exact ⟨rfl, rfl⟩
  · have := D.2.2.2.1 k i hk hi e
    rw [hI_In (by omega)]
    exact ⟨rfl, rfl⟩
end W27
