/-! tear: the evidence goes on -/
section W28
variable {s : SS} {h : HS}
theorem terM_97 (E : EV s h) {i : Nat} (hi : i < s 0 3) : hI (terM s i (terC s i h)) 97 = u1 (hI h 97) i (nI (s 0 0)) := by
  have e86 := terC_I E (x := 86) hi (by decide) (by decide)
  unfold terM
  rw [hI_In (by decide), hI_In (by decide), hI_In (by decide), hsI_ha, hI_I, terC_I E hi (by decide) (by decide), e86, E.cn.m0]
theorem st_tear3 {i k : Nat} : st_tear s i 3 k = if k = i then s 0 0 else s 3 k := by
  unfold st_tear
  by_cases e : k = i
  · rw [if_pos ⟨rfl, e⟩, if_pos e]
  · rw [if_neg (fun z => e z.2), if_neg e, if_neg (fun z => absurd z.1 (by decide)), if_neg (fun z => absurd z.1 (by decide))]
theorem cn_tear (E : EV s h) {i : Nat} (hi : i < s 0 3) : CN (st_tear s i) (terM s i (terC s i h)) := by
  have C := E.cn
  unfold CN at C ⊢
  rw [st_tear_ne (r := 0) (by decide) (by decide) (by decide), terM_I E hi (x := 32) (by decide) (by decide) (by decide) (by decide) (by decide) (by decide), terM_I E hi (x := 86) (by decide) (by decide) (by decide) (by decide) (by decide) (by decide), terM_I E hi (x := 33) (by decide) (by decide) (by decide) (by decide) (by decide) (by decide), terM_I E hi (x := 50) (by decide) (by decide) (by decide) (by decide) (by decide) (by decide), terM_I E hi (x := 68) (by decide) (by decide) (by decide) (by decide) (by decide) (by decide), terM_I E hi (x := 57) (by decide) (by decide) (by decide) (by decide) (by decide) (by decide), terM_I E hi (x := 77) (by decide) (by decide) (by decide) (by decide) (by decide) (by decide)]
  exact C
theorem sh_tear (E : EV s h) (D : DI s) {i : Nat} (hi : i < s 0 3) : SHc (st_tear s i) (terM s i (terC s i h)) := by
  obtain ⟨T, N, R, L, O⟩ := terM_o s i h
  have b0 := E.cn.b0
  intro k hk
  rw [st_tear_ne (r := 0) (by decide) (by decide) (by decide)] at hk
  have C := E.sh k hk
  rw [T, N, R, O, st_tear_ne (s := s) (i := i) (r := 1) (by decide) (by decide) (by decide), st_tear_ne (s := s) (i := i) (r := 2) (by decide) (by decide) (by decide), st_tear_ne (s := s) (i := i) (r := 4) (by decide) (by decide) (by decide), st_tear_ne (s := s) (i := i) (r := 5) (by decide) (by decide) (by decide), st_tear_ne (s := s) (i := i) (r := 30) (by decide) (by decide) (by decide), terM_sh E hk, terM_97 E hi, st_tear3, terM_I E hi (x := 95) (by decide) (by decide) (by decide) (by decide) (by decide) (by decide), terM_I E hi (x := 96) (by decide) (by decide) (by decide) (by decide) (by decide) (by decide), terM_I E hi (x := 98) (by decide) (by decide) (by decide) (by decide) (by decide) (by decide), terM_I E hi (x := 99) (by decide) (by decide) (by decide) (by decide) (by decide) (by decide), hsI_ha]
  by_cases e : k = i
  · subst e
    simp (disch := omega) only [if_true, hI_I, u1_eq, u1_ne, C, dC_now b0, okDy_now b0, and_self, true_and, and_true]
  · have d := D.2.2.2.1 k i hk hi e
    have d2 : ¬ s 30 k = s 30 i := by omega
    rw [if_neg e, hI_In d2, u1_ne e]
    exact C
theorem sn_tear (E : EV s h) (D : DI s) {i : Nat} (hi : i < s 0 3) : SNc (st_tear s i) (terM s i (terC s i h)) := by
  obtain ⟨T, N, R, L, O⟩ := terM_o s i h
  intro k hk
  rw [st_tear_ne (r := 0) (by decide) (by decide) (by decide)] at hk
  have C := E.sn k hk
  have lo := E.sn.lo hk
  have x : hI (terM s i (terC s i h)) (s 31 k) = hI h (s 31 k) := by
    rw [terM_hi lo]
    unfold terG
    rw [papF_I (fun j hj => D.2.2.2.2.1 k j hk hj) (fun j hj => D.2.2.2.2.2.1 k j hk hj), hsI_ha, hI_In (fun z => by
      have q := E.sn.t hk
      rw [z, E.sh.t hi] at q
      exact absurd q (by decide))]
  rw [T, R, O, st_tear_ne (s := s) (i := i) (r := 6) (by decide) (by decide) (by decide), st_tear_ne (s := s) (i := i) (r := 7) (by decide) (by decide) (by decide), st_tear_ne (s := s) (i := i) (r := 8) (by decide) (by decide) (by decide), st_tear_ne (s := s) (i := i) (r := 9) (by decide) (by decide) (by decide), st_tear_ne (s := s) (i := i) (r := 10) (by decide) (by decide) (by decide), st_tear_ne (s := s) (i := i) (r := 11) (by decide) (by decide) (by decide), st_tear_ne (s := s) (i := i) (r := 31) (by decide) (by decide) (by decide), st_tear_ne (s := s) (i := i) (r := 0) (by decide) (by decide) (by decide), x, terM_I E hi (x := 103) (by decide) (by decide) (by decide) (by decide) (by decide) (by decide), terM_I E hi (x := 104) (by decide) (by decide) (by decide) (by decide) (by decide) (by decide), terM_I E hi (x := 105) (by decide) (by decide) (by decide) (by decide) (by decide) (by decide), terM_I E hi (x := 106) (by decide) (by decide) (by decide) (by decide) (by decide) (by decide), terM_I E hi (x := 107) (by decide) (by decide) (by decide) (by decide) (by decide) (by decide), terM_I E hi (x := 108) (by decide) (by decide) (by decide) (by decide) (by decide) (by decide)]
  exact C
end W28
