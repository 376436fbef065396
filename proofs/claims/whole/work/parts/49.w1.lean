/-! calls that change: sacks -/
theorem lz2 : (2 : Int32) = nI 2 := Eq.trans rfl rfl
theorem lz3 : (3 : Int32) = nI 3 := Eq.trans rfl rfl
theorem lz4 : (4 : Int32) = nI 4 := Eq.trans rfl rfl
theorem lz5 : (5 : Int32) = nI 5 := Eq.trans rfl rfl
theorem lz6 : (6 : Int32) = nI 6 := Eq.trans rfl rfl
theorem lz7 : (7 : Int32) = nI 7 := Eq.trans rfl rfl
theorem lz8 : (8 : Int32) = nI 8 := Eq.trans rfl rfl
theorem lz9 : (9 : Int32) = nI 9 := Eq.trans rfl rfl
theorem lz12 : (12 : Int32) = nI 12 := Eq.trans rfl rfl
theorem lz15 : (15 : Int32) = nI 15 := Eq.trans rfl rfl
theorem lz16 : (16 : Int32) = nI 16 := Eq.trans rfl rfl
theorem lz20 : (20 : Int32) = nI 20 := Eq.trans rfl rfl
theorem lz24 : (24 : Int32) = nI 24 := Eq.trans rfl rfl
theorem lz30 : (30 : Int32) = nI 30 := Eq.trans rfl rfl
theorem lz31 : (31 : Int32) = nI 31 := Eq.trans rfl rfl
theorem lz32 : (32 : Int32) = nI 32 := Eq.trans rfl rfl
theorem lz40 : (40 : Int32) = nI 40 := Eq.trans rfl rfl
theorem lz48 : (48 : Int32) = nI 48 := Eq.trans rfl rfl
theorem lz60 : (60 : Int32) = nI 60 := Eq.trans rfl rfl
theorem lz64 : (64 : Int32) = nI 64 := Eq.trans rfl rfl
theorem lz80 : (80 : Int32) = nI 80 := Eq.trans rfl rfl
theorem lz99 : (99 : Int32) = nI 99 := Eq.trans rfl rfl
theorem lz100 : (100 : Int32) = nI 100 := Eq.trans rfl rfl
theorem lz200 : (200 : Int32) = nI 200 := Eq.trans rfl rfl
theorem lz240 : (240 : Int32) = nI 240 := Eq.trans rfl rfl
theorem lz400 : (400 : Int32) = nI 400 := Eq.trans rfl rfl
theorem lz401 : (401 : Int32) = nI 401 := Eq.trans rfl rfl
theorem lz511 : (511 : Int32) = nI 511 := Eq.trans rfl rfl
theorem lz512 : (512 : Int32) = nI 512 := Eq.trans rfl rfl
theorem lz800 : (800 : Int32) = nI 800 := Eq.trans rfl rfl
theorem lz999 : (999 : Int32) = nI 999 := Eq.trans rfl rfl
theorem lz3999 : (3999 : Int32) = nI 3999 := Eq.trans rfl rfl
theorem lz4000 : (4000 : Int32) = nI 4000 := Eq.trans rfl rfl
theorem lz9999 : (9999 : Int32) = nI 9999 := Eq.trans rfl rfl
theorem lz10000 : (10000 : Int32) = nI 10000 := Eq.trans rfl rfl
theorem lz32767 : (32767 : Int32) = nI 32767 := Eq.trans rfl rfl
theorem lz65536 : (65536 : Int32) = nI 65536 := Eq.trans rfl rfl
theorem lz99999 : (99999 : Int32) = nI 99999 := Eq.trans rfl rfl
theorem lz100000 : (100000 : Int32) = nI 100000 := Eq.trans rfl rfl
theorem lz120000 : (120000 : Int32) = nI 120000 := Eq.trans rfl rfl
theorem lz999999 : (999999 : Int32) = nI 999999 := Eq.trans rfl rfl
theorem le_f {a b : Nat} (h : b < a) : (a ≤ b) = False := eq_false (by omega)
theorem lt_t {a b : Nat} (h : a < b) : (a < b) = True := eq_true h
theorem lt_f {a b : Nat} (h : b ≤ a) : (a < b) = False := eq_false (by omega)
theorem eq_f {a b : Nat} (h : a < b ∨ b < a) : (a = b) = False := eq_false (by omega)
section W1
variable {s : SS} {h : HS}
def sc_sack (s : SS) (h : HS) (n : Nat) : HS := haI (haI (haI (haI h 34 (u1 (hI h 34) (s 0 1) (nI n))) 33 (u1 (hI h 33) 0 (nI (s 0 1 + 1)))) 87 (u1 (hI h 87) (s 0 1) (nI n))) 86 (u1 (hI h 86) 2 (nI (s 0 1 + 1)))
theorem w_sack (E : EV s h) (a : Int32) : (∃ v, p115 h a = some (v, h) ∧ p191 h a = some (v, h)) ∨ ∃ n v h1, 1 ≤ n ∧ n ≤ 999 ∧ s 0 1 < 20 ∧ a = nI n ∧ p115 h a = some (v, h1) ∧ p191 h1 a = some (v, sc_sack s h n) := by
  have c1 := E.cn.b1
  have e1 := E.cn.c1
  have e2 := E.cn.m1
  by_cases hf : s 0 1 = 20
  · left
    rw [hf] at e1 e2
    unfold p115 p84 p191
    simp (disch := omega) only [e1, e2, cl_nI, lt_nI, eq_nI, neg_nI, nI_1, le_f, lt_t, lt_f, eq_f, lz2, lz3, lz4, lz5, lz6, lz7, lz8, lz9, lz12, lz15, lz16, lz20, lz24, lz30, lz31, lz32, lz40, lz48, lz60, lz64, lz80, lz99, lz100, lz200, lz240, lz400, lz401, lz511, lz512, lz800, lz999, lz3999, lz4000, lz9999, lz10000, lz32767, lz65536, lz99999, lz100000, lz120000, lz999999, ob, one0, eq_self, or_true, true_or, or_false, false_or, if_true, if_false]
    exact ⟨_, rfl, rfl⟩
  · rcases rngN a 1 999 (by decide) (by decide) with ⟨h1, h2⟩ | ⟨h1, h2, n, hn1, hn2, rfl⟩
    · left
      have h1 : ∀ h, p166 h a 1 999 = some 0 := h1
      have h2 : ∀ h, p187 h a 1 999 = some 0 := h2
      unfold p115 p84 p191
      rw [h1, h2]
      simp (disch := omega) only [e1, e2, cl_nI, lt_nI, eq_nI, neg_nI, nI_1, le_f, lt_t, lt_f, eq_f, lz2, lz3, lz4, lz5, lz6, lz7, lz8, lz9, lz12, lz15, lz16, lz20, lz24, lz30, lz31, lz32, lz40, lz48, lz60, lz64, lz80, lz99, lz100, lz200, lz240, lz400, lz401, lz511, lz512, lz800, lz999, lz3999, lz4000, lz9999, lz10000, lz32767, lz65536, lz99999, lz100000, lz120000, lz999999, ob, one0, eq_self, or_true, true_or, or_false, false_or, if_true, if_false]
      exact ⟨_, rfl, rfl⟩
    · right
      have h1 : ∀ h, p166 h (nI n) 1 999 = some 1 := h1
      have h2 : ∀ h, p187 h (nI n) 1 999 = some 1 := h2
      refine ⟨n, nI (s 0 1), haI (haI h 34 (u1 (hI h 34) (s 0 1) (nI n))) 33 (u1 (hI h 33) 0 (nI (s 0 1 + 1))), hn1, hn2, by omega, rfl, ?_, ?_⟩
      · unfold p115 p84
        rw [h1]
        simp (disch := omega) only [e1, cl_nI, lt_nI, eq_nI, neg_nI, nI_1, le_f, lt_t, lt_f, eq_f, lz2, lz3, lz4, lz5, lz6, lz7, lz8, lz9, lz12, lz15, lz16, lz20, lz24, lz30, lz31, lz32, lz40, lz48, lz60, lz64, lz80, lz99, lz100, lz200, lz240, lz400, lz401, lz511, lz512, lz800, lz999, lz3999, lz4000, lz9999, lz10000, lz32767, lz65536, lz99999, lz100000, lz120000, lz999999, hsI_ha, hsL_ha, hsR_ha, hI_I, hI_In, hL_L, hL_Ln, hR_R, hR_Rn, hL_I, hR_I, hT_I, hN_I, h1_I, h2_I, hI_L, hR_L, hT_L, hN_L, h1_L, h2_L, hI_R, hL_R, hT_R, hN_R, h1_R, h2_R, hI_W, hI_Wn, hL_W, hL_Wn, hR_W, hR_Wn, hT_W, hT_Wn, hN_W, hN_Wn, h1_W, h2_W, u1_eq, u1_ne, u1_u1, haI_I, ob, one0, eq_self, or_true, true_or, or_false, false_or, if_true, if_false]
      · unfold p191
        rw [h2]
        simp (disch := omega) only [e2, cl_nI, lt_nI, eq_nI, neg_nI, nI_1, le_f, lt_t, lt_f, eq_f, lz2, lz3, lz4, lz5, lz6, lz7, lz8, lz9, lz12, lz15, lz16, lz20, lz24, lz30, lz31, lz32, lz40, lz48, lz60, lz64, lz80, lz99, lz100, lz200, lz240, lz400, lz401, lz511, lz512, lz800, lz999, lz3999, lz4000, lz9999, lz10000, lz32767, lz65536, lz99999, lz100000, lz120000, lz999999, hsI_ha, hsL_ha, hsR_ha, hI_I, hI_In, hL_L, hL_Ln, hR_R, hR_Rn, hL_I, hR_I, hT_I, hN_I, h1_I, h2_I, hI_L, hR_L, hT_L, hN_L, h1_L, h2_L, hI_R, hL_R, hT_R, hN_R, h1_R, h2_R, hI_W, hI_Wn, hL_W, hL_Wn, hR_W, hR_Wn, hT_W, hT_Wn, hN_W, hN_Wn, h1_W, h2_W, u1_eq, u1_ne, u1_u1, haI_I, ob, one0, eq_self, or_true, true_or, or_false, false_or, if_true, if_false, nI_pred]
        rfl
theorem ev_sack (E : EV s h) {n : Nat} (hs : s 0 1 < 20) : EV (u2 s 0 1 (s 0 1 + 1)) (sc_sack s h n) := by
  unfold sc_sack
  refine ⟨E.w, ?_, ?_, ?_, ?_, ?_⟩
  · have C := E.cn
    unfold CN at C ⊢
    simp (disch := omega) only [u2_u, u2_ne, hsI_ha, hsL_ha, hsR_ha, hI_I, hI_In, hL_L, hL_Ln, hR_R, hR_Rn, hL_I, hR_I, hT_I, hN_I, h1_I, h2_I, hI_L, hR_L, hT_L, hN_L, h1_L, h2_L, hI_R, hL_R, hT_R, hN_R, h1_R, h2_R, hI_W, hI_Wn, hL_W, hL_Wn, hR_W, hR_Wn, hT_W, hT_Wn, hN_W, hN_Wn, h1_W, h2_W, u1_eq, u1_ne, u1_u1, haI_I]
    simp (disch := omega) only [C, and_self, true_and, and_true]
    omega
  · intro i hi
    have hi : i < s 0 3 := by simpa (disch := omega) only [u2_u, u2_ne, hsI_ha, hsL_ha, hsR_ha, hI_I, hI_In, hL_L, hL_Ln, hR_R, hR_Rn, hL_I, hR_I, hT_I, hN_I, h1_I, h2_I, hI_L, hR_L, hT_L, hN_L, h1_L, h2_L, hI_R, hL_R, hT_R, hN_R, h1_R, h2_R, hI_W, hI_Wn, hL_W, hL_Wn, hR_W, hR_Wn, hT_W, hT_Wn, hN_W, hN_Wn, h1_W, h2_W, u1_eq, u1_ne, u1_u1, haI_I] using hi
    have lo := E.sh.lo hi
    have up := E.sh.hi hi
    simp (disch := omega) only [u2_u, u2_ne, hsI_ha, hsL_ha, hsR_ha, hI_I, hI_In, hL_L, hL_Ln, hR_R, hR_Rn, hL_I, hR_I, hT_I, hN_I, h1_I, h2_I, hI_L, hR_L, hT_L, hN_L, h1_L, h2_L, hI_R, hL_R, hT_R, hN_R, h1_R, h2_R, hI_W, hI_Wn, hL_W, hL_Wn, hR_W, hR_Wn, hT_W, hT_Wn, hN_W, hN_Wn, h1_W, h2_W, u1_eq, u1_ne, u1_u1, haI_I]
    exact E.sh i hi
  · intro i hi
    have hi : i < s 0 5 := by simpa (disch := omega) only [u2_u, u2_ne, hsI_ha, hsL_ha, hsR_ha, hI_I, hI_In, hL_L, hL_Ln, hR_R, hR_Rn, hL_I, hR_I, hT_I, hN_I, h1_I, h2_I, hI_L, hR_L, hT_L, hN_L, h1_L, h2_L, hI_R, hL_R, hT_R, hN_R, h1_R, h2_R, hI_W, hI_Wn, hL_W, hL_Wn, hR_W, hR_Wn, hT_W, hT_Wn, hN_W, hN_Wn, h1_W, h2_W, u1_eq, u1_ne, u1_u1, haI_I] using hi
    have lo := E.sn.lo hi
    have up := E.sn.hi hi
    simp (disch := omega) only [u2_u, u2_ne, hsI_ha, hsL_ha, hsR_ha, hI_I, hI_In, hL_L, hL_Ln, hR_R, hR_Rn, hL_I, hR_I, hT_I, hN_I, h1_I, h2_I, hI_L, hR_L, hT_L, hN_L, h1_L, h2_L, hI_R, hL_R, hT_R, hN_R, h1_R, h2_R, hI_W, hI_Wn, hL_W, hL_Wn, hR_W, hR_Wn, hT_W, hT_Wn, hN_W, hN_Wn, h1_W, h2_W, u1_eq, u1_ne, u1_u1, haI_I]
    exact E.sn i hi
  · intro i hi
    have hi : i < s 0 7 := by simpa (disch := omega) only [u2_u, u2_ne, hsI_ha, hsL_ha, hsR_ha, hI_I, hI_In, hL_L, hL_Ln, hR_R, hR_Rn, hL_I, hR_I, hT_I, hN_I, h1_I, h2_I, hI_L, hR_L, hT_L, hN_L, h1_L, h2_L, hI_R, hL_R, hT_R, hN_R, h1_R, h2_R, hI_W, hI_Wn, hL_W, hL_Wn, hR_W, hR_Wn, hT_W, hT_Wn, hN_W, hN_Wn, h1_W, h2_W, u1_eq, u1_ne, u1_u1, haI_I] using hi
    have lo := E.rp.lo hi
    have up := E.rp.hi hi
    have l2 := E.sh.lo (E.rp.b0 hi)
    simp (disch := omega) only [u2_u, u2_ne, hsI_ha, hsL_ha, hsR_ha, hI_I, hI_In, hL_L, hL_Ln, hR_R, hR_Rn, hL_I, hR_I, hT_I, hN_I, h1_I, h2_I, hI_L, hR_L, hT_L, hN_L, h1_L, h2_L, hI_R, hL_R, hT_R, hN_R, h1_R, h2_R, hI_W, hI_Wn, hL_W, hL_Wn, hR_W, hR_Wn, hT_W, hT_Wn, hN_W, hN_Wn, h1_W, h2_W, u1_eq, u1_ne, u1_u1, haI_I]
    exact E.rp i hi
  · intro i hi
    have hi : i < s 0 8 := by simpa (disch := omega) only [u2_u, u2_ne, hsI_ha, hsL_ha, hsR_ha, hI_I, hI_In, hL_L, hL_Ln, hR_R, hR_Rn, hL_I, hR_I, hT_I, hN_I, h1_I, h2_I, hI_L, hR_L, hT_L, hN_L, h1_L, h2_L, hI_R, hL_R, hT_R, hN_R, h1_R, h2_R, hI_W, hI_Wn, hL_W, hL_Wn, hR_W, hR_Wn, hT_W, hT_Wn, hN_W, hN_Wn, h1_W, h2_W, u1_eq, u1_ne, u1_u1, haI_I] using hi
    have lo := E.bl.lo hi
    have up := E.bl.hi hi
    have l2 := E.sh.lo (E.bl.b0 hi)
    simp (disch := omega) only [u2_u, u2_ne, hsI_ha, hsL_ha, hsR_ha, hI_I, hI_In, hL_L, hL_Ln, hR_R, hR_Rn, hL_I, hR_I, hT_I, hN_I, h1_I, h2_I, hI_L, hR_L, hT_L, hN_L, h1_L, h2_L, hI_R, hL_R, hT_R, hN_R, h1_R, h2_R, hI_W, hI_Wn, hL_W, hL_Wn, hR_W, hR_Wn, hT_W, hT_Wn, hN_W, hN_Wn, h1_W, h2_W, u1_eq, u1_ne, u1_u1, haI_I]
    exact E.bl i hi
end W1
