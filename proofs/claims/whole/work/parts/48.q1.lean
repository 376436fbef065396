/-! calls that only look: papers -/
theorem r01_0 : ((0 : Int32) = 0 ∨ (0 : Int32) = 1) = True := eq_true (by decide)
theorem r01_1 : ((1 : Int32) = 0 ∨ (1 : Int32) = 1) = True := eq_true (by decide)
/-- a day -/
theorem dayc (b : Int32) : ((∀ h, p166 h b 0 3999 = some 0) ∧ ∀ h, p187 h b 0 3999 = some 0) ∨ ∃ d, d ≤ 3999 ∧ b = nI d ∧ (∀ h, p166 h (nI d) 0 3999 = some 1) ∧ (∀ h, p187 h (nI d) 0 3999 = some 1) := by
  rcases rngN b 0 3999 (by decide) (by decide) with h1 | ⟨h1, h2, k, -, hk, rfl⟩
  · exact Or.inl h1
  · exact Or.inr ⟨k, hk, rfl, h1, h2⟩
theorem rngc (b lo hi : Int32) : ((∀ h, p166 h b lo hi = some 0) ∧ ∀ h, p187 h b lo hi = some 0) ∨ ((∀ h, p166 h b lo hi = some 1) ∧ (∀ h, p187 h b lo hi = some 1) ∧ lo ≤ b ∧ b ≤ hi) := by
  rcases rng b lo hi with ⟨h1, h2, -⟩ | h
  · exact Or.inl ⟨h1, h2⟩
  · exact Or.inr h
theorem oI_opI (n k : Nat) (h : k ≤ n) : opI n k = oI (if k < n then some k else none) := by
  unfold opI
  split <;> rfl
section Q1
variable {s : SS} {h : HS}
theorem q_known (E : EV s h) (a b : Int32) : ∃ v, p133 h a b = some v ∧ p224 h a b = some v := by
  have c7 := E.cn.b7
  unfold p133 p224 p4 p220 p167 p188
  rw [E.cn.c7, E.cn.m7]
  rcases ixc a (s 0 7) (by omega) with ⟨h1, h2, -⟩ | ⟨i, hi, rfl, h1, h2⟩
  · simp only [h1, h2, ob, one0, eq_self, or_true, true_or, if_true, if_false]
    exact ⟨_, rfl, rfl⟩
  · rcases dayc b with ⟨h3, h4⟩ | ⟨d, hd, rfl, h3, h4⟩
    · simp only [h1, h2, h3, h4, ob, one0, eq_self, or_true, true_or, if_true, if_false]
      exact ⟨_, rfl, rfl⟩
    · rw [if_neg (nI_in (N := 200) (by omega) (by omega)), nI_clamp (by omega), E.rp.o hi, m_R E hi hd]
      simp only [h1, h2, h3, h4, E.rp.t hi, k_R E hi hd, ob, one0, eq_self, or_true, true_or, if_true, if_false]
      cases knR s i d <;> exact ⟨_, rfl, rfl⟩
theorem q_out (E : EV s h) {F : Nat} (hF : 1000 ≤ F) (a b c : Int32) : ∃ v, p134 F h a b c = some v ∧ p227 F h a b c = some v := by
  have c6 := E.cn.b6
  have c4 := E.cn.b4
  unfold p134 p227 p2 p218 p1 p213 p167 p188
  rw [E.cn.c6, E.cn.m6, E.cn.c4, E.cn.m4]
  rcases ixc a (s 0 6) (by omega) with ⟨h1, h2, -⟩ | ⟨i, hi, rfl, h1, h2⟩
  · simp only [h1, h2, ob, one0, eq_self, or_true, true_or, if_true, if_false]
    exact ⟨_, rfl, rfl⟩
  · rcases ixc b (s 0 4) (by omega) with ⟨h3, h4, -⟩ | ⟨q, hq, rfl, h3, h4⟩
    · simp only [h1, h2, h3, h4, ob, one0, eq_self, or_true, true_or, if_true, if_false]
      exact ⟨_, rfl, rfl⟩
    · rcases dayc c with ⟨h5, h6⟩ | ⟨d, hd, rfl, h5, h6⟩
      · simp only [h1, h2, h3, h4, h5, h6, ob, one0, eq_self, or_true, true_or, if_true, if_false]
        exact ⟨_, rfl, rfl⟩
      · simp only [h1, h2, h3, h4, h5, h6, outC E (show i < 2147483648 by omega) (show q < 64 by omega) hd hF, outM E (show i < 2147483648 by omega) (show q < 2147483648 by omega) hd hF, ob, one0, eq_self, or_true, true_or, if_true, if_false]
        exact ⟨_, rfl, rfl⟩
theorem q_candidate (E : EV s h) {F : Nat} (hF : 1000 ≤ F) (a b c : Int32) : ∃ v, p135 F h a b c = some v ∧ p229 F h a b c = some v := by
  have c6 := E.cn.b6
  have c4 := E.cn.b4
  unfold p135 p229 p2 p218 p167 p188
  rw [E.cn.c6, E.cn.m6]
  rcases ixc a (s 0 6) (by omega) with ⟨h1, h2, -⟩ | ⟨i, hi, rfl, h1, h2⟩
  · simp only [h1, h2, ob, one0, eq_self, or_true, true_or, if_true, if_false]
    exact ⟨_, rfl, rfl⟩
  · rcases dayc b with ⟨h5, h6⟩ | ⟨d, hd, rfl, h5, h6⟩
    · simp only [h1, h2, h5, h6, ob, one0, eq_self, or_true, true_or, if_true, if_false]
      exact ⟨_, rfl, rfl⟩
    · obtain ⟨x, hx, hxb⟩ := candC E (show i < 2147483648 by omega) hd hF
      by_cases hm : c = -1
      · subst hm
        simp only [h1, h2, h5, h6, hx, popC E hxb h, candsM E (show i < 2147483648 by omega) hd hF, ob, one0, eq_self, or_true, true_or, if_true, if_false]
        exact ⟨_, rfl, rfl⟩
      · simp only [h1, h2, h5, h6, hx, hm, ob, one0, eq_self, or_true, true_or, if_true, if_false]
        by_cases hn : c < 0
        · refine ⟨-1, ?_, ?_⟩
          · unfold p169
            have := kthC_neg (x := x) (a := c) (fun k hk e => by rw [e] at hn; exact nI_pos hk hn) F h 64 0 F (by omega) (by omega)
            rw [show nI (cnt (b6 x) 0) = 0 from rfl, show nI 0 = (0 : Int32) from rfl] at this
            rw [this]
            rfl
          · obtain ⟨F', rfl⟩ : ∃ f, F = f + 1 := ⟨F - 1, by omega⟩
            unfold p229_L35
            split
            · rfl
            · rfl
        · obtain ⟨k, hk, rfl⟩ := nI_of hn
          have e1 := kthC E hxb hk hF h
          have e2 := kthM_L E (show i < 2147483648 by omega) hd hk hF (s 0 4) 0 F (by omega) (by omega) rfl (Nat.zero_le _)
          refine ⟨_, by rw [e1]; rfl, ?_⟩
          rw [show nI (k - cnt (cand s i d) 0) = nI k from rfl, show nI 0 = (0 : Int32) from rfl] at e2
          exact e2
theorem q_sure (E : EV s h) {F : Nat} (hF : 1000 ≤ F) (a b : Int32) : ∃ v, p136 F h a b = some v ∧ p232 F h a b = some v := by
  have c6 := E.cn.b6
  have c4 := E.cn.b4
  have c7 := E.cn.b7
  unfold p136 p232
  unfold p2 p218 p167 p188
  rw [E.cn.c6, E.cn.m6]
  rcases ixc a (s 0 6) (by omega) with ⟨h1, h2, -⟩ | ⟨i, hi, rfl, h1, h2⟩
  · simp only [h1, h2, ob, one0, eq_self, or_true, true_or, if_true, if_false]
    exact ⟨_, rfl, rfl⟩
  · rcases dayc b with ⟨h5, h6⟩ | ⟨d, hd, rfl, h5, h6⟩
    · simp only [h1, h2, h5, h6, ob, one0, eq_self, or_true, true_or, if_true, if_false]
      exact ⟨_, rfl, rfl⟩
    · have hi' : i < 2147483648 := by omega
      have l1 : nR s i d ≤ s 0 7 := cnt_le _ _
      have l2 : cnt (cand s i d) (s 0 4) ≤ s 0 4 := cnt_le _ _
      have e3 : p229 F h (nI i) (nI d) 0 = some (oI (kth (cand s i d) 0 (s 0 4))) := by
        unfold p229 p218 p188
        rw [E.cn.m6]
        simp only [h2, h6, ob, one0, eq_self, or_true, true_or, if_true, if_false]
        rw [if_neg (by decide)]
        have e2 := kthM_L E hi' hd (k := 0) (by omega) hF (s 0 4) 0 F (by omega) (by omega) rfl (Nat.zero_le _)
        rw [show nI (0 - cnt (cand s i d) 0) = 0 from rfl, show nI 0 = (0 : Int32) from rfl] at e2
        exact e2
      simp only [h1, h2, h5, h6, sureC E hi' hd hF, nRM E hi' hd hF, candsM E hi' hd hF, e3, ob, one0, eq_self, or_true, true_or, if_true, if_false]
      refine ⟨_, rfl, ?_⟩
      unfold sureN
      rw [show (0 : Int32) = nI 0 from rfl, show (1 : Int32) = nI 1 from rfl]
      simp (disch := omega) only [lt_nI, eq_nI]
      by_cases g1 : nR s i d = 0
      · rw [if_neg (by omega), if_pos g1]; rfl
      · rw [if_pos (by omega), if_neg g1]
        by_cases g2 : cnt (cand s i d) (s 0 4) = 1
        · rw [if_pos g2, if_pos g2]
        · rw [if_neg g2, if_neg g2]; rfl
theorem q_made (E : EV s h) {F : Nat} (hF : 1000 ≤ F) (a b c : Int32) : ∃ v, p138 F h a b c = some v ∧ p237 F h a b c = some v := by
  have c7 := E.cn.b7
  unfold p138 p237 p4 p220 p167 p188
  rw [E.cn.c7, E.cn.m7]
  rcases ixc a (s 0 7) (by omega) with ⟨h1, h2, -⟩ | ⟨i, hi, rfl, h1, h2⟩
  · simp only [h1, h2, ob, one0, eq_self, or_true, true_or, if_true, if_false]
    exact ⟨_, rfl, rfl⟩
  · rcases dayc b with ⟨h3, h4⟩ | ⟨d, hd, rfl, h3, h4⟩
    · simp only [h1, h2, h3, h4, ob, one0, eq_self, or_true, true_or, if_true, if_false]
      exact ⟨_, rfl, rfl⟩
    · rcases rngc c 0 1 with ⟨h5, h6⟩ | ⟨h5, h6, -⟩
      · simp only [h1, h2, h3, h4, h5, h6, ob, one0, eq_self, or_true, true_or, if_true, if_false]
        exact ⟨_, rfl, rfl⟩
      · simp only [h1, h2, h3, h4, h5, h6, cpC E hi hd hF, cpM E hi hd hF, noCC E hi hd hF, noM E hi hd hF, ob, one0, eq_self, or_true, true_or, if_true, if_false]
        by_cases g : c = 1
        · rw [if_pos g]; exact ⟨_, rfl, rfl⟩
        · rw [if_neg g]; cases noC s i d <;> exact ⟨_, rfl, rfl⟩
theorem q_account (E : EV s h) (o51 : hI h 51 = hI h 109) (o52 : hI h 52 = hI h 110) {F : Nat} (hF : 1000 ≤ F) (a b : Int32) : ∃ v, p141 F h a b = some v ∧ p240 F h a b = some v := by
  have c7 := E.cn.b7
  have c8 := E.cn.b8
  unfold p141 p240 p167 p188
  rcases rngc a 0 9 with ⟨h1, h2⟩ | ⟨h1, h2, -⟩
  · simp only [h1, h2, ob, one0, eq_self, or_true, true_or, if_true, if_false]
    exact ⟨_, rfl, rfl⟩
  · rcases dayc b with ⟨h3, h4⟩ | ⟨d, hd, rfl, h3, h4⟩
    · simp only [h1, h2, h3, h4, ob, one0, eq_self, or_true, true_or, if_true, if_false]
      exact ⟨_, rfl, rfl⟩
    · have e1 := accBM_L E (o := a) hd F (s 0 8) 0 F (by omega) (by omega)
      have e2 := accRM_L E (o := a) hd hF (s 0 7) 0 F (by omega) (by omega)
      rw [show accB s h a d 0 = 0 from rfl, show nI 0 = (0 : Int32) from rfl] at e1
      rw [show nI 0 = (0 : Int32) from rfl] at e2
      simp only [h1, h2, h3, h4, accC E o51 o52 hd hF, e1, e2, ob, one0, eq_self, or_true, true_or, if_true, if_false]
      exact ⟨_, rfl, rfl⟩
end Q1
