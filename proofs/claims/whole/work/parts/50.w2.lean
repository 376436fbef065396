/-! calls that change: day, persons, covers, premiums, what falls -/
section W2
variable {s : SS} {h : HS}
def sc_clock (h : HS) (n : Nat) : HS := haI (haI h 32 (u1 (hI h 32) 0 (nI n))) 86 (u1 (hI h 86) 1 (nI n))
theorem w_clock (E : EV s h) (a : Int32) : (∃ v, p114 h a = some (v, h) ∧ p190 h a = some (v, h)) ∨ ∃ n v h1, s 0 0 ≤ n ∧ n ≤ 3999 ∧ a = nI n ∧ p114 h a = some (v, h1) ∧ p190 h1 a = some (v, sc_clock h n) := by
  have c0 := E.cn.b0
  have e1 := E.cn.c0
  have e2 := E.cn.m0
  rcases rngN a (s 0 0) 3999 (by omega) (by decide) with ⟨h1, h2⟩ | ⟨h1, h2, n, hn1, hn2, rfl⟩
  · left
    unfold p114 p190
    rw [e1, e2, lz3999, h1, h2]
    simp (disch := omega) only [cl_nI, lt_nI, eq_nI, neg_nI, nI_1, le_f, lt_t, lt_f, eq_f, lz2, lz3, lz4, lz5, lz6, lz7, lz8, lz9, lz12, lz15, lz16, lz20, lz24, lz30, lz31, lz32, lz40, lz48, lz60, lz64, lz80, lz99, lz100, lz200, lz240, lz400, lz401, lz511, lz512, lz800, lz999, lz3999, lz4000, lz9999, lz10000, lz32767, lz65536, lz99999, lz100000, lz120000, lz999999, ob, one0, eq_self, or_true, true_or, or_false, false_or, if_true, if_false]
    exact ⟨_, rfl, rfl⟩
  · right
    refine ⟨n, 1, haI h 32 (u1 (hI h 32) 0 (nI n)), hn1, hn2, rfl, ?_, ?_⟩
    · unfold p114
      rw [e1, lz3999, h1]
      simp (disch := omega) only [cl_nI, lt_nI, eq_nI, neg_nI, nI_1, le_f, lt_t, lt_f, eq_f, lz2, lz3, lz4, lz5, lz6, lz7, lz8, lz9, lz12, lz15, lz16, lz20, lz24, lz30, lz31, lz32, lz40, lz48, lz60, lz64, lz80, lz99, lz100, lz200, lz240, lz400, lz401, lz511, lz512, lz800, lz999, lz3999, lz4000, lz9999, lz10000, lz32767, lz65536, lz99999, lz100000, lz120000, lz999999, hsI_ha, hsL_ha, hsR_ha, hI_I, hI_In, hL_L, hL_Ln, hR_R, hR_Rn, hL_I, hR_I, hT_I, hN_I, h1_I, h2_I, hI_L, hR_L, hT_L, hN_L, h1_L, h2_L, hI_R, hL_R, hT_R, hN_R, h1_R, h2_R, hI_W, hI_Wn, hL_W, hL_Wn, hR_W, hR_Wn, hT_W, hT_Wn, hN_W, hN_Wn, h1_W, h2_W, u1_eq, u1_ne, u1_u1, haI_I, ob, one0, eq_self, or_true, true_or, or_false, false_or, if_true, if_false]
    · unfold p190
      simp (disch := omega) only [e2, cl_nI, lt_nI, eq_nI, neg_nI, nI_1, le_f, lt_t, lt_f, eq_f, lz2, lz3, lz4, lz5, lz6, lz7, lz8, lz9, lz12, lz15, lz16, lz20, lz24, lz30, lz31, lz32, lz40, lz48, lz60, lz64, lz80, lz99, lz100, lz200, lz240, lz400, lz401, lz511, lz512, lz800, lz999, lz3999, lz4000, lz9999, lz10000, lz32767, lz65536, lz99999, lz100000, lz120000, lz999999, hsI_ha, hsL_ha, hsR_ha, hI_I, hI_In, hL_L, hL_Ln, hR_R, hR_Rn, hL_I, hR_I, hT_I, hN_I, h1_I, h2_I, hI_L, hR_L, hT_L, hN_L, h1_L, h2_L, hI_R, hL_R, hT_R, hN_R, h1_R, h2_R, hI_W, hI_Wn, hL_W, hL_Wn, hR_W, hR_Wn, hT_W, hT_Wn, hN_W, hN_Wn, h1_W, h2_W, u1_eq, u1_ne, u1_u1, haI_I, ob, one0, eq_self, or_true, true_or, or_false, false_or, if_true, if_false, h2]
      rfl
def sc_premium (h : HS) (n m : Nat) : HS := haI (haI h 52 (u1 (hI h 52) n (nI m))) 110 (u1 (hI h 110) n (nI m))
theorem w_premium (o52 : hI h 52 = hI h 110) (a b : Int32) : (∃ v, p139 h a b = some (v, h) ∧ p238 h a b = some (v, h)) ∨ ∃ n m v h1, n < 32 ∧ m ≤ 999 ∧ a = nI n ∧ b = nI m ∧ p139 h a b = some (v, h1) ∧ p238 h1 a b = some (v, sc_premium h n m) := by
  rcases rngN a 0 31 (by decide) (by decide) with ⟨h1, h2⟩ | ⟨h1, h2, n, -, hn, rfl⟩
  · left
    have h1 : ∀ h, p166 h a 0 31 = some 0 := h1
    have h2 : ∀ h, p187 h a 0 31 = some 0 := h2
    unfold p139 p238
    rw [h1, h2]
    simp (disch := omega) only [ob, one0, eq_self, or_true, true_or, or_false, false_or, if_true, if_false]
    exact ⟨_, rfl, rfl⟩
  · have h1 : ∀ h, p166 h (nI n) 0 31 = some 1 := h1
    have h2 : ∀ h, p187 h (nI n) 0 31 = some 1 := h2
    rcases rngN b 0 999 (by decide) (by decide) with ⟨h3, h4⟩ | ⟨h3, h4, m, -, hm, rfl⟩
    · left
      have h3 : ∀ h, p166 h b 0 999 = some 0 := h3
      have h4 : ∀ h, p187 h b 0 999 = some 0 := h4
      unfold p139 p238
      rw [h1, h2, h3, h4]
      simp (disch := omega) only [ob, one0, eq_self, or_true, true_or, or_false, false_or, if_true, if_false]
      exact ⟨_, rfl, rfl⟩
    · right
      have h3 : ∀ h, p166 h (nI m) 0 999 = some 1 := h3
      have h4 : ∀ h, p187 h (nI m) 0 999 = some 1 := h4
      refine ⟨n, m, hI h 110 n, haI h 52 (u1 (hI h 52) n (nI m)), by omega, hm, rfl, rfl, ?_, ?_⟩
      · unfold p139
        rw [h1, h3, o52]
        simp (disch := omega) only [cl_nI, lt_nI, eq_nI, neg_nI, nI_1, le_f, lt_t, lt_f, eq_f, lz2, lz3, lz4, lz5, lz6, lz7, lz8, lz9, lz12, lz15, lz16, lz20, lz24, lz30, lz31, lz32, lz40, lz48, lz60, lz64, lz80, lz99, lz100, lz200, lz240, lz400, lz401, lz511, lz512, lz800, lz999, lz3999, lz4000, lz9999, lz10000, lz32767, lz65536, lz99999, lz100000, lz120000, lz999999, hsI_ha, hsL_ha, hsR_ha, hI_I, hI_In, hL_L, hL_Ln, hR_R, hR_Rn, hL_I, hR_I, hT_I, hN_I, h1_I, h2_I, hI_L, hR_L, hT_L, hN_L, h1_L, h2_L, hI_R, hL_R, hT_R, hN_R, h1_R, h2_R, hI_W, hI_Wn, hL_W, hL_Wn, hR_W, hR_Wn, hT_W, hT_Wn, hN_W, hN_Wn, h1_W, h2_W, u1_eq, u1_ne, u1_u1, haI_I, ob, one0, eq_self, or_true, true_or, or_false, false_or, if_true, if_false, o52]
      · unfold p238
        rw [h2, h4]
        simp (disch := omega) only [cl_nI, lt_nI, eq_nI, neg_nI, nI_1, le_f, lt_t, lt_f, eq_f, lz2, lz3, lz4, lz5, lz6, lz7, lz8, lz9, lz12, lz15, lz16, lz20, lz24, lz30, lz31, lz32, lz40, lz48, lz60, lz64, lz80, lz99, lz100, lz200, lz240, lz400, lz401, lz511, lz512, lz800, lz999, lz3999, lz4000, lz9999, lz10000, lz32767, lz65536, lz99999, lz100000, lz120000, lz999999, hsI_ha, hsL_ha, hsR_ha, hI_I, hI_In, hL_L, hL_Ln, hR_R, hR_Rn, hL_I, hR_I, hT_I, hN_I, h1_I, h2_I, hI_L, hR_L, hT_L, hN_L, h1_L, h2_L, hI_R, hL_R, hT_R, hN_R, h1_R, h2_R, hI_W, hI_Wn, hL_W, hL_Wn, hR_W, hR_Wn, hT_W, hT_Wn, hN_W, hN_Wn, h1_W, h2_W, u1_eq, u1_ne, u1_u1, haI_I, ob, one0, eq_self, or_true, true_or, or_false, false_or, if_true, if_false]
        rfl
def sc_cover (s : SS) (h : HS) (n : Nat) : HS := haI (haI (haI (haI h 51 (u1 (hI h 51) (s 0 6) (nI n))) 50 (u1 (hI h 50) 1 (nI (s 0 6 + 1)))) 109 (u1 (hI h 109) (s 0 6) (nI n))) 86 (u1 (hI h 86) 31 (nI (s 0 6 + 1)))
theorem w_cover (E : EV s h) (a : Int32) : (∃ v, p130 h a = some (v, h) ∧ p217 h a = some (v, h)) ∨ ∃ n v h1, n < 10 ∧ s 0 6 < 40 ∧ a = nI n ∧ p130 h a = some (v, h1) ∧ p217 h1 a = some (v, sc_cover s h n) := by
  have c1 := E.cn.b6
  have e1 := E.cn.c6
  have e2 := E.cn.m6
  by_cases hf : s 0 6 = 40
  · left
    rw [hf] at e1 e2
    unfold p130 p5 p217
    simp (disch := omega) only [e1, e2, cl_nI, lt_nI, eq_nI, neg_nI, nI_1, le_f, lt_t, lt_f, eq_f, lz2, lz3, lz4, lz5, lz6, lz7, lz8, lz9, lz12, lz15, lz16, lz20, lz24, lz30, lz31, lz32, lz40, lz48, lz60, lz64, lz80, lz99, lz100, lz200, lz240, lz400, lz401, lz511, lz512, lz800, lz999, lz3999, lz4000, lz9999, lz10000, lz32767, lz65536, lz99999, lz100000, lz120000, lz999999, ob, one0, eq_self, or_true, true_or, or_false, false_or, if_true, if_false]
    exact ⟨_, rfl, rfl⟩
  · rcases rngN a 0 9 (by decide) (by decide) with ⟨h1, h2⟩ | ⟨h1, h2, n, -, hn2, rfl⟩
    · left
      have h1 : ∀ h, p166 h a 0 9 = some 0 := h1
      have h2 : ∀ h, p187 h a 0 9 = some 0 := h2
      unfold p130 p5 p217
      rw [h1, h2]
      simp (disch := omega) only [e1, e2, cl_nI, lt_nI, eq_nI, neg_nI, nI_1, le_f, lt_t, lt_f, eq_f, lz2, lz3, lz4, lz5, lz6, lz7, lz8, lz9, lz12, lz15, lz16, lz20, lz24, lz30, lz31, lz32, lz40, lz48, lz60, lz64, lz80, lz99, lz100, lz200, lz240, lz400, lz401, lz511, lz512, lz800, lz999, lz3999, lz4000, lz9999, lz10000, lz32767, lz65536, lz99999, lz100000, lz120000, lz999999, ob, one0, eq_self, or_true, true_or, or_false, false_or, if_true, if_false]
      exact ⟨_, rfl, rfl⟩
    · right
      have h1 : ∀ h, p166 h (nI n) 0 9 = some 1 := h1
      have h2 : ∀ h, p187 h (nI n) 0 9 = some 1 := h2
      refine ⟨n, nI (s 0 6), haI (haI h 51 (u1 (hI h 51) (s 0 6) (nI n))) 50 (u1 (hI h 50) 1 (nI (s 0 6 + 1))), by omega, by omega, rfl, ?_, ?_⟩
      · unfold p130 p5
        rw [h1]
        simp (disch := omega) only [e1, cl_nI, lt_nI, eq_nI, neg_nI, nI_1, le_f, lt_t, lt_f, eq_f, lz2, lz3, lz4, lz5, lz6, lz7, lz8, lz9, lz12, lz15, lz16, lz20, lz24, lz30, lz31, lz32, lz40, lz48, lz60, lz64, lz80, lz99, lz100, lz200, lz240, lz400, lz401, lz511, lz512, lz800, lz999, lz3999, lz4000, lz9999, lz10000, lz32767, lz65536, lz99999, lz100000, lz120000, lz999999, hsI_ha, hsL_ha, hsR_ha, hI_I, hI_In, hL_L, hL_Ln, hR_R, hR_Rn, hL_I, hR_I, hT_I, hN_I, h1_I, h2_I, hI_L, hR_L, hT_L, hN_L, h1_L, h2_L, hI_R, hL_R, hT_R, hN_R, h1_R, h2_R, hI_W, hI_Wn, hL_W, hL_Wn, hR_W, hR_Wn, hT_W, hT_Wn, hN_W, hN_Wn, h1_W, h2_W, u1_eq, u1_ne, u1_u1, haI_I, ob, one0, eq_self, or_true, true_or, or_false, false_or, if_true, if_false]
      · unfold p217
        rw [h2]
        simp (disch := omega) only [e2, cl_nI, lt_nI, eq_nI, neg_nI, nI_1, le_f, lt_t, lt_f, eq_f, lz2, lz3, lz4, lz5, lz6, lz7, lz8, lz9, lz12, lz15, lz16, lz20, lz24, lz30, lz31, lz32, lz40, lz48, lz60, lz64, lz80, lz99, lz100, lz200, lz240, lz400, lz401, lz511, lz512, lz800, lz999, lz3999, lz4000, lz9999, lz10000, lz32767, lz65536, lz99999, lz100000, lz120000, lz999999, hsI_ha, hsL_ha, hsR_ha, hI_I, hI_In, hL_L, hL_Ln, hR_R, hR_Rn, hL_I, hR_I, hT_I, hN_I, h1_I, h2_I, hI_L, hR_L, hT_L, hN_L, h1_L, h2_L, hI_R, hL_R, hT_R, hN_R, h1_R, h2_R, hI_W, hI_Wn, hL_W, hL_Wn, hR_W, hR_Wn, hT_W, hT_Wn, hN_W, hN_Wn, h1_W, h2_W, u1_eq, u1_ne, u1_u1, haI_I, ob, one0, eq_self, or_true, true_or, or_false, false_or, if_true, if_false, nI_pred]
        rfl
def sc_person (s : SS) (h : HS) (a : Int32) : HS := haI (haI (haI (haI (haI (haI h 50 (u1 (hI h 50) 0 (nI (s 0 4 + 1)))) 74 (u1 (hI h 74) (s 0 4) a)) 75 (u1 (hI h 75) (s 0 4) (-1))) 100 (u1 (hI h 100) (s 0 4) a)) 101 (u1 (hI h 101) (s 0 4) (-1))) 86 (u1 (hI h 86) 20 (nI (s 0 4 + 1)))
theorem w_person (E : EV s h) (a : Int32) : (∃ v, p127 h a = some (v, h) ∧ p212 h a = some (v, h)) ∨ ∃ v h1, s 0 4 < 60 ∧ p127 h a = some (v, h1) ∧ p212 h1 a = some (v, sc_person s h a) := by
  have c1 := E.cn.b4
  have e1 := E.cn.c4
  have e2 := E.cn.m4
  by_cases hf : s 0 4 = 60
  · left
    rw [hf] at e1 e2
    unfold p127 p61 p212
    simp (disch := omega) only [e1, e2, cl_nI, lt_nI, eq_nI, neg_nI, nI_1, le_f, lt_t, lt_f, eq_f, lz2, lz3, lz4, lz5, lz6, lz7, lz8, lz9, lz12, lz15, lz16, lz20, lz24, lz30, lz31, lz32, lz40, lz48, lz60, lz64, lz80, lz99, lz100, lz200, lz240, lz400, lz401, lz511, lz512, lz800, lz999, lz3999, lz4000, lz9999, lz10000, lz32767, lz65536, lz99999, lz100000, lz120000, lz999999, ob, one0, eq_self, or_true, true_or, or_false, false_or, if_true, if_false]
    exact ⟨_, rfl, rfl⟩
  · rcases rngc a (-1) 99 with ⟨h1, h2⟩ | ⟨h1, h2, -⟩
    · left
      unfold p127 p61 p212
      rw [h1, h2]
      simp (disch := omega) only [e1, e2, cl_nI, lt_nI, eq_nI, neg_nI, nI_1, le_f, lt_t, lt_f, eq_f, lz2, lz3, lz4, lz5, lz6, lz7, lz8, lz9, lz12, lz15, lz16, lz20, lz24, lz30, lz31, lz32, lz40, lz48, lz60, lz64, lz80, lz99, lz100, lz200, lz240, lz400, lz401, lz511, lz512, lz800, lz999, lz3999, lz4000, lz9999, lz10000, lz32767, lz65536, lz99999, lz100000, lz120000, lz999999, ob, one0, eq_self, or_true, true_or, or_false, false_or, if_true, if_false]
      exact ⟨_, rfl, rfl⟩
    · right
      refine ⟨nI (s 0 4), haI (haI (haI h 50 (u1 (hI h 50) 0 (nI (s 0 4 + 1)))) 74 (u1 (hI h 74) (s 0 4) a)) 75 (u1 (hI h 75) (s 0 4) (-1)), by omega, ?_, ?_⟩
      · unfold p127 p61
        rw [h1]
        simp (disch := omega) only [e1, cl_nI, lt_nI, eq_nI, neg_nI, nI_1, le_f, lt_t, lt_f, eq_f, lz2, lz3, lz4, lz5, lz6, lz7, lz8, lz9, lz12, lz15, lz16, lz20, lz24, lz30, lz31, lz32, lz40, lz48, lz60, lz64, lz80, lz99, lz100, lz200, lz240, lz400, lz401, lz511, lz512, lz800, lz999, lz3999, lz4000, lz9999, lz10000, lz32767, lz65536, lz99999, lz100000, lz120000, lz999999, hsI_ha, hsL_ha, hsR_ha, hI_I, hI_In, hL_L, hL_Ln, hR_R, hR_Rn, hL_I, hR_I, hT_I, hN_I, h1_I, h2_I, hI_L, hR_L, hT_L, hN_L, h1_L, h2_L, hI_R, hL_R, hT_R, hN_R, h1_R, h2_R, hI_W, hI_Wn, hL_W, hL_Wn, hR_W, hR_Wn, hT_W, hT_Wn, hN_W, hN_Wn, h1_W, h2_W, u1_eq, u1_ne, u1_u1, haI_I, ob, one0, eq_self, or_true, true_or, or_false, false_or, if_true, if_false]
      · unfold p212
        rw [h2]
        simp (disch := omega) only [e2, cl_nI, lt_nI, eq_nI, neg_nI, nI_1, le_f, lt_t, lt_f, eq_f, lz2, lz3, lz4, lz5, lz6, lz7, lz8, lz9, lz12, lz15, lz16, lz20, lz24, lz30, lz31, lz32, lz40, lz48, lz60, lz64, lz80, lz99, lz100, lz200, lz240, lz400, lz401, lz511, lz512, lz800, lz999, lz3999, lz4000, lz9999, lz10000, lz32767, lz65536, lz99999, lz100000, lz120000, lz999999, hsI_ha, hsL_ha, hsR_ha, hI_I, hI_In, hL_L, hL_Ln, hR_R, hR_Rn, hL_I, hR_I, hT_I, hN_I, h1_I, h2_I, hI_L, hR_L, hT_L, hN_L, h1_L, h2_L, hI_R, hL_R, hT_R, hN_R, h1_R, h2_R, hI_W, hI_Wn, hL_W, hL_Wn, hR_W, hR_Wn, hT_W, hT_Wn, hN_W, hN_Wn, h1_W, h2_W, u1_eq, u1_ne, u1_u1, haI_I, ob, one0, eq_self, or_true, true_or, or_false, false_or, if_true, if_false, nI_pred]
        rfl
def sc_unsee (s : SS) (h : HS) (i : Nat) : HS := haI (haI h (s 31 i) (u1 (hI h (s 31 i)) 2 (nI (s 0 0)))) 108 (u1 (hI h 108) i (nI (s 0 0)))
theorem w_unsee (E : EV s h) (a : Int32) : (∃ v, p129 h a = some (v, h) ∧ p215 h a = some (v, h)) ∨ ∃ i v h1, i < s 0 5 ∧ s 11 i = 100000 ∧ a = nI i ∧ p129 h a = some (v, h1) ∧ p215 h1 a = some (v, sc_unsee s h i) := by
  have c5 := E.cn.b5
  have e1 := E.cn.c5
  have e2 := E.cn.m5
  have e3 := E.cn.c0
  have e4 := E.cn.m0
  rcases ixc a (s 0 5) (by omega) with ⟨h1, h2, -⟩ | ⟨i, hi, rfl, h1, h2⟩
  · left
    unfold p129 p215 p3
    rw [e1, e2, h1, h2]
    simp only [ob, one0, eq_self, or_true, true_or, or_false, false_or, if_true, if_false]
    exact ⟨_, rfl, rfl⟩
  · have lo := E.sn.lo hi
    obtain ⟨d1, -, d3, d4⟩ := dC_b (d := 0) (Nat.le_refl 3999) (E.sn.b5 hi) (by omega)
    by_cases hf : s 11 i = 100000
    · right
      refine ⟨i, 1, haI h (s 31 i) (u1 (hI h (s 31 i)) 2 (nI (s 0 0))), hi, hf, rfl, ?_, ?_⟩
      · unfold p129 p3 p68
        rw [e1, h1]
        simp (disch := omega) only [E.sn.o hi, E.sn.t hi, E.sn.f2 hi, d3.mpr hf, e3, cl_nI, lt_nI, eq_nI, neg_nI, nI_1, le_f, lt_t, lt_f, eq_f, lz2, lz3, lz4, lz5, lz6, lz7, lz8, lz9, lz12, lz15, lz16, lz20, lz24, lz30, lz31, lz32, lz40, lz48, lz60, lz64, lz80, lz99, lz100, lz200, lz240, lz400, lz401, lz511, lz512, lz800, lz999, lz3999, lz4000, lz9999, lz10000, lz32767, lz65536, lz99999, lz100000, lz120000, lz999999, hsI_ha, hsL_ha, hsR_ha, hI_I, hI_In, hL_L, hL_Ln, hR_R, hR_Rn, hL_I, hR_I, hT_I, hN_I, h1_I, h2_I, hI_L, hR_L, hT_L, hN_L, h1_L, h2_L, hI_R, hL_R, hT_R, hN_R, h1_R, h2_R, hI_W, hI_Wn, hL_W, hL_Wn, hR_W, hR_Wn, hT_W, hT_Wn, hN_W, hN_Wn, h1_W, h2_W, u1_eq, u1_ne, u1_u1, haI_I, ob, one0, eq_self, or_true, true_or, or_false, false_or, if_true, if_false]
      · unfold p215
        simp (disch := omega) only [E.sn.m5 hi, hf, e2, h2, e4, cl_nI, lt_nI, eq_nI, neg_nI, nI_1, le_f, lt_t, lt_f, eq_f, lz2, lz3, lz4, lz5, lz6, lz7, lz8, lz9, lz12, lz15, lz16, lz20, lz24, lz30, lz31, lz32, lz40, lz48, lz60, lz64, lz80, lz99, lz100, lz200, lz240, lz400, lz401, lz511, lz512, lz800, lz999, lz3999, lz4000, lz9999, lz10000, lz32767, lz65536, lz99999, lz100000, lz120000, lz999999, hsI_ha, hsL_ha, hsR_ha, hI_I, hI_In, hL_L, hL_Ln, hR_R, hR_Rn, hL_I, hR_I, hT_I, hN_I, h1_I, h2_I, hI_L, hR_L, hT_L, hN_L, h1_L, h2_L, hI_R, hL_R, hT_R, hN_R, h1_R, h2_R, hI_W, hI_Wn, hL_W, hL_Wn, hR_W, hR_Wn, hT_W, hT_Wn, hN_W, hN_Wn, h1_W, h2_W, u1_eq, u1_ne, u1_u1, haI_I, ob, one0, eq_self, or_true, true_or, or_false, false_or, if_true, if_false]
        rfl
    · left
      have g1 : (dC (s 11 i) = 4000) = False := eq_false (fun z => hf (d3.mp z))
      have g2 : (s 11 i = 100000) = False := eq_false hf
      unfold p129 p3 p68 p215
      rw [e1, e2, h1, h2]
      simp (disch := omega) only [E.sn.o hi, E.sn.t hi, E.sn.f2 hi, E.sn.m5 hi, g1, g2, cl_nI, lt_nI, eq_nI, neg_nI, nI_1, le_f, lt_t, lt_f, eq_f, lz2, lz3, lz4, lz5, lz6, lz7, lz8, lz9, lz12, lz15, lz16, lz20, lz24, lz30, lz31, lz32, lz40, lz48, lz60, lz64, lz80, lz99, lz100, lz200, lz240, lz400, lz401, lz511, lz512, lz800, lz999, lz3999, lz4000, lz9999, lz10000, lz32767, lz65536, lz99999, lz100000, lz120000, lz999999, ob, one0, eq_self, or_true, true_or, or_false, false_or, if_true, if_false]
      exact ⟨_, rfl, rfl⟩
def sc_fall (s : SS) (h : HS) (i : Nat) : HS := haI (haI h (s 32 i) (u1 (hI h (s 32 i)) 2 (nI (s 0 0)))) 119 (u1 (hI h 119) i (nI (s 0 0)))
theorem w_fall (E : EV s h) (a : Int32) : (∃ v, p132 h a = some (v, h) ∧ p221 h a = some (v, h)) ∨ ∃ i v h1, i < s 0 7 ∧ s 20 i = 100000 ∧ a = nI i ∧ p132 h a = some (v, h1) ∧ p221 h1 a = some (v, sc_fall s h i) := by
  have c5 := E.cn.b7
  have e1 := E.cn.c7
  have e2 := E.cn.m7
  have e3 := E.cn.c0
  have e4 := E.cn.m0
  rcases ixc a (s 0 7) (by omega) with ⟨h1, h2, -⟩ | ⟨i, hi, rfl, h1, h2⟩
  · left
    unfold p132 p221 p4 p220
    rw [e1, e2, h1, h2]
    simp only [ob, one0, eq_self, or_true, true_or, or_false, false_or, if_true, if_false]
    exact ⟨_, rfl, rfl⟩
  · have lo := E.rp.lo hi
    obtain ⟨d1, -, d3, d4⟩ := dC_b (d := 0) (Nat.le_refl 3999) (E.rp.b8 hi) (by omega)
    by_cases hf : s 20 i = 100000
    · right
      refine ⟨i, 1, haI h (s 32 i) (u1 (hI h (s 32 i)) 2 (nI (s 0 0))), hi, hf, rfl, ?_, ?_⟩
      · unfold p132 p4 p68
        rw [e1, h1]
        simp (disch := omega) only [E.rp.o hi, E.rp.t hi, E.rp.f2 hi, d3.mpr hf, e3, cl_nI, lt_nI, eq_nI, neg_nI, nI_1, le_f, lt_t, lt_f, eq_f, lz2, lz3, lz4, lz5, lz6, lz7, lz8, lz9, lz12, lz15, lz16, lz20, lz24, lz30, lz31, lz32, lz40, lz48, lz60, lz64, lz80, lz99, lz100, lz200, lz240, lz400, lz401, lz511, lz512, lz800, lz999, lz3999, lz4000, lz9999, lz10000, lz32767, lz65536, lz99999, lz100000, lz120000, lz999999, hsI_ha, hsL_ha, hsR_ha, hI_I, hI_In, hL_L, hL_Ln, hR_R, hR_Rn, hL_I, hR_I, hT_I, hN_I, h1_I, h2_I, hI_L, hR_L, hT_L, hN_L, h1_L, h2_L, hI_R, hL_R, hT_R, hN_R, h1_R, h2_R, hI_W, hI_Wn, hL_W, hL_Wn, hR_W, hR_Wn, hT_W, hT_Wn, hN_W, hN_Wn, h1_W, h2_W, u1_eq, u1_ne, u1_u1, haI_I, ob, one0, eq_self, or_true, true_or, or_false, false_or, if_true, if_false]
      · unfold p221 p220
        simp (disch := omega) only [E.rp.m8 hi, hf, e2, h2, e4, cl_nI, lt_nI, eq_nI, neg_nI, nI_1, le_f, lt_t, lt_f, eq_f, lz2, lz3, lz4, lz5, lz6, lz7, lz8, lz9, lz12, lz15, lz16, lz20, lz24, lz30, lz31, lz32, lz40, lz48, lz60, lz64, lz80, lz99, lz100, lz200, lz240, lz400, lz401, lz511, lz512, lz800, lz999, lz3999, lz4000, lz9999, lz10000, lz32767, lz65536, lz99999, lz100000, lz120000, lz999999, hsI_ha, hsL_ha, hsR_ha, hI_I, hI_In, hL_L, hL_Ln, hR_R, hR_Rn, hL_I, hR_I, hT_I, hN_I, h1_I, h2_I, hI_L, hR_L, hT_L, hN_L, h1_L, h2_L, hI_R, hL_R, hT_R, hN_R, h1_R, h2_R, hI_W, hI_Wn, hL_W, hL_Wn, hR_W, hR_Wn, hT_W, hT_Wn, hN_W, hN_Wn, h1_W, h2_W, u1_eq, u1_ne, u1_u1, haI_I, ob, one0, eq_self, or_true, true_or, or_false, false_or, if_true, if_false]
        rfl
    · left
      have g1 : (dC (s 20 i) = 4000) = False := eq_false (fun z => hf (d3.mp z))
      have g2 : (s 20 i = 100000) = False := eq_false hf
      unfold p132 p4 p68 p221 p220
      rw [e1, e2, h1, h2]
      simp (disch := omega) only [E.rp.o hi, E.rp.t hi, E.rp.f2 hi, E.rp.m8 hi, g1, g2, cl_nI, lt_nI, eq_nI, neg_nI, nI_1, le_f, lt_t, lt_f, eq_f, lz2, lz3, lz4, lz5, lz6, lz7, lz8, lz9, lz12, lz15, lz16, lz20, lz24, lz30, lz31, lz32, lz40, lz48, lz60, lz64, lz80, lz99, lz100, lz200, lz240, lz400, lz401, lz511, lz512, lz800, lz999, lz3999, lz4000, lz9999, lz10000, lz32767, lz65536, lz99999, lz100000, lz120000, lz999999, ob, one0, eq_self, or_true, true_or, or_false, false_or, if_true, if_false]
      exact ⟨_, rfl, rfl⟩
end W2
