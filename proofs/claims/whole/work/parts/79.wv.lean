/-! tear: the evidence goes on: reports, bills -/
section W29
variable {s : SS} {h : HS}
theorem st_rp {i k : Nat} (hk : k < s 0 7) : st_tear s i 20 k = if pR s i k = true then s 0 0 else s 20 k := by
  unfold st_tear pR
  rw [if_neg (fun z => absurd z.1 (by decide))]
  by_cases c : s 12 k = i ∧ s 20 k = 100000
  · rw [if_pos ⟨rfl, hk, c.1, c.2⟩, if_pos (decide_eq_true c)]
  · rw [if_neg (fun z => c z.2.2), if_neg (fun z => c (of_decide_eq_true z)), if_neg (fun z => absurd z.1 (by decide))]
theorem rp_tear (E : EV s h) (D : DI s) {i : Nat} (hi : i < s 0 3) : RPc (st_tear s i) (terM s i (terC s i h)) := by
  obtain ⟨T, N, R, L, O⟩ := terM_o s i h
  have b0 := E.cn.b0
  have b3 := E.cn.b3
  have e86 := terC_I E (x := 86) hi (by decide) (by decide)
  intro k hk
  rw [st_tear_ne (r := 0) (by decide) (by decide) (by decide)] at hk
  have C := E.rp k hk
  have lo := E.rp.lo hk
  have c0 := E.rp.b0 hk
  have x : hI (terM s i (terC s i h)) (s 32 k) = if pR s i k = true then u1 (hI h (s 32 k)) 2 (nI (s 0 0)) else hI h (s 32 k) := by
    rw [terM_hi lo]
    unfold terG papF
    rw [trC_I _ _ _ _ _ (fun j hj => D.2.2.2.2.2.2 k j hk hj), trC_at _ _ _ _ _ (Nat.le_refl _) D.2.1 hk, hsI_ha, hI_In (fun z => by
      have q := E.rp.t hk
      rw [z, E.sh.t hi] at q
      exact absurd q (by decide))]
    by_cases c : pR s i k = true
    · rw [if_pos ⟨hk, c⟩, if_pos c]
    · rw [if_neg (fun z => c z.2), if_neg c]
  have y : hI (terM s i (terC s i h)) 119 k = nI (if pR s i k = true then s 0 0 else s 20 k) := by
    unfold terM
    rw [hI_In (by decide), hI_I]
    simp only [hsI_ha]
    rw [hI_In (by decide), hI_In (by decide), hI_In (by decide), e86, terC_I E hi (by decide) (by decide), terC_I E hi (by decide) (by decide), E.cn.m0]
    unfold tF pR
    rw [E.rp.m0 hk, E.rp.m8 hk]
    by_cases c : s 12 k = i ∧ s 20 k = 100000
    · rw [if_pos ⟨hk, by rw [c.1], by rw [c.2]; rfl⟩, if_pos (decide_eq_true c)]
    · rw [if_neg, if_neg (fun z => c (of_decide_eq_true z))]
      rintro ⟨z1, z2, z3⟩
      have z4 : s 20 k ≤ 100000 := by rcases E.rp.b8 hk with z | z <;> omega
      exact c ⟨(nI_eq (by omega) (by omega)).mp z2, (nI_eq (b := 100000) (by omega) (by omega)).mp z3⟩
  rw [T, R, O, st_rp hk, st_tear_ne (s := s) (i := i) (r := 12) (by decide) (by decide) (by decide), st_tear_ne (s := s) (i := i) (r := 13) (by decide) (by decide) (by decide), st_tear_ne (s := s) (i := i) (r := 14) (by decide) (by decide) (by decide), st_tear_ne (s := s) (i := i) (r := 15) (by decide) (by decide) (by decide), st_tear_ne (s := s) (i := i) (r := 16) (by decide) (by decide) (by decide), st_tear_ne (s := s) (i := i) (r := 17) (by decide) (by decide) (by decide), st_tear_ne (s := s) (i := i) (r := 18) (by decide) (by decide) (by decide), st_tear_ne (s := s) (i := i) (r := 19) (by decide) (by decide) (by decide), st_tear_ne (s := s) (i := i) (r := 32) (by decide) (by decide) (by decide), y, st_tear_ne (s := s) (i := i) (r := 30) (by decide) (by decide) (by decide), st_tear_ne (s := s) (i := i) (r := 0) (by decide) (by decide) (by decide), st_tear3, terM_I E hi (x := 111) (by decide) (by decide) (by decide) (by decide) (by decide) (by decide), terM_I E hi (x := 112) (by decide) (by decide) (by decide) (by decide) (by decide) (by decide), terM_I E hi (x := 113) (by decide) (by decide) (by decide) (by decide) (by decide) (by decide), terM_I E hi (x := 114) (by decide) (by decide) (by decide) (by decide) (by decide) (by decide), terM_I E hi (x := 115) (by decide) (by decide) (by decide) (by decide) (by decide) (by decide), terM_I E hi (x := 116) (by decide) (by decide) (by decide) (by decide) (by decide) (by decide), terM_I E hi (x := 117) (by decide) (by decide) (by decide) (by decide) (by decide) (by decide), terM_I E hi (x := 118) (by decide) (by decide) (by decide) (by decide) (by decide) (by decide), x]
  by_cases c : pR s i k = true
  · simp (disch := omega) only [if_pos c, u1_eq, u1_ne, C, dC_now b0, okDy_now b0, and_self, true_and, and_true] <;> exact Or.inr b0
  · rw [if_neg c, if_neg c]
    have z9 : (if s 12 k = i then s 0 0 else s 3 (s 12 k)) = 100000 ∨ s 20 k ≤ 3999 := by
      by_cases e : s 12 k = i
      · rcases E.rp.b8 hk with z | z
        · exact Or.inr z
        · exact absurd (decide_eq_true (show s 12 k = i ∧ s 20 k = 100000 from ⟨e, z⟩)) c
      · rw [if_neg e]; exact E.rp.b9 hk
    simp only [C, z9, and_self, true_and, and_true]
theorem st_bl {i k : Nat} (hk : k < s 0 8) : st_tear s i 25 k = if pB s i k = true then s 0 0 else s 25 k := by
  unfold st_tear pB
  rw [if_neg (fun z => absurd z.1 (by decide)), if_neg (fun z => absurd z.1 (by decide))]
  by_cases c : s 21 k = i ∧ s 25 k = 100000
  · rw [if_pos ⟨rfl, hk, c.1, c.2⟩, if_pos (decide_eq_true c)]
  · rw [if_neg (fun z => c z.2.2), if_neg (fun z => c (of_decide_eq_true z))]
theorem bl_tear (E : EV s h) (D : DI s) {i : Nat} (hi : i < s 0 3) : BLc (st_tear s i) (terM s i (terC s i h)) := by
  obtain ⟨T, N, R, L, O⟩ := terM_o s i h
  have b0 := E.cn.b0
  have b3 := E.cn.b3
  have e86 := terC_I E (x := 86) hi (by decide) (by decide)
  intro k hk
  rw [st_tear_ne (r := 0) (by decide) (by decide) (by decide)] at hk
  have C := E.bl k hk
  have lo := E.bl.lo hk
  have c0 := E.bl.b0 hk
  have x : hI (terM s i (terC s i h)) (s 33 k) = if pB s i k = true then u1 (hI h (s 33 k)) 2 (nI (s 0 0)) else hI h (s 33 k) := by
    rw [terM_hi lo]
    unfold terG papF
    rw [trC_at _ _ _ _ _ (Nat.le_refl _) D.2.2.1 hk, trC_I _ _ _ _ _ (fun j hj z => D.2.2.2.2.2.2 j k hj hk z.symm), hsI_ha, hI_In (fun z => by
      have q := E.bl.t hk
      rw [z, E.sh.t hi] at q
      exact absurd q (by decide))]
    by_cases c : pB s i k = true
    · rw [if_pos ⟨hk, c⟩, if_pos c]
    · rw [if_neg (fun z => c z.2), if_neg c]
  have y : hI (terM s i (terC s i h)) 124 k = nI (if pB s i k = true then s 0 0 else s 25 k) := by
    unfold terM
    rw [hI_I]
    simp only [hsI_ha]
    rw [hI_In (by decide), hI_In (by decide), hI_In (by decide), e86, terC_I E hi (by decide) (by decide), terC_I E hi (by decide) (by decide), E.cn.m0]
    unfold tF pB
    rw [E.bl.m0 hk, E.bl.m4 hk]
    by_cases c : s 21 k = i ∧ s 25 k = 100000
    · rw [if_pos ⟨hk, by rw [c.1], by rw [c.2]; rfl⟩, if_pos (decide_eq_true c)]
    · rw [if_neg, if_neg (fun z => c (of_decide_eq_true z))]
      rintro ⟨z1, z2, z3⟩
      have z4 : s 25 k ≤ 100000 := by rcases E.bl.b4 hk with z | z <;> omega
      exact c ⟨(nI_eq (by omega) (by omega)).mp z2, (nI_eq (b := 100000) (by omega) (by omega)).mp z3⟩
  rw [T, R, O, st_bl hk, st_tear_ne (s := s) (i := i) (r := 21) (by decide) (by decide) (by decide), st_tear_ne (s := s) (i := i) (r := 22) (by decide) (by decide) (by decide), st_tear_ne (s := s) (i := i) (r := 23) (by decide) (by decide) (by decide), st_tear_ne (s := s) (i := i) (r := 24) (by decide) (by decide) (by decide), st_tear_ne (s := s) (i := i) (r := 33) (by decide) (by decide) (by decide), y, st_tear_ne (s := s) (i := i) (r := 30) (by decide) (by decide) (by decide), st_tear_ne (s := s) (i := i) (r := 0) (by decide) (by decide) (by decide), terM_I E hi (x := 120) (by decide) (by decide) (by decide) (by decide) (by decide) (by decide), terM_I E hi (x := 121) (by decide) (by decide) (by decide) (by decide) (by decide) (by decide), terM_I E hi (x := 122) (by decide) (by decide) (by decide) (by decide) (by decide) (by decide), terM_I E hi (x := 123) (by decide) (by decide) (by decide) (by decide) (by decide) (by decide), x]
  by_cases c : pB s i k = true
  · simp (disch := omega) only [if_pos c, u1_eq, u1_ne, C, dC_now b0, okDy_now b0, and_self, true_and, and_true]
  · rw [if_neg c, if_neg c]
    simp only [C, and_self, true_and, and_true]
theorem ev_tear (E : EV s h) (D : DI s) {i : Nat} (hi : i < s 0 3) : EV (st_tear s i) (terM s i (terC s i h)) := ⟨wf_tear E.w, cn_tear E hi, sh_tear E D hi, sn_tear E D hi, rp_tear E D hi, bl_tear E D hi⟩
end W29
