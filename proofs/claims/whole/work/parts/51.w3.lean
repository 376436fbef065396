/-! calls that change: sheets opened, papers told -/
def pap (h : HS) (sh : Option Nat) (now : Int32) : HS := hsI (hsR (hsI (hnew h 5 10 (fun _ => 0)) h.1 2 4000) h.1 0 sh) h.1 1 now
theorem pap_I (h : HS) (sh : Option Nat) (now : Int32) : hI (pap h sh now) h.1 = u1 (u1 (fun _ => 0) 2 4000) 1 now := by
  unfold pap
  rw [hsI_ha, hI_I, hsR_ha, hI_R, hsI_ha, hI_I, hI_W]
theorem pap_In {h : HS} {sh : Option Nat} {now : Int32} {x : Nat} (e : ¬ x = h.1) : hI (pap h sh now) x = hI h x := by
  unfold pap
  rw [hsI_ha, hI_In e, hsR_ha, hI_R, hsI_ha, hI_In e, hI_Wn e]
theorem pap_L {h : HS} {sh : Option Nat} {now : Int32} {x : Nat} (e : ¬ x = h.1) : hL (pap h sh now) x = hL h x := by
  unfold pap
  rw [hsI_ha, hL_I, hsR_ha, hL_R, hsI_ha, hL_I, hL_Wn e]
theorem pap_R (h : HS) (sh : Option Nat) (now : Int32) : hR (pap h sh now) h.1 = u1 (fun _ => none) 0 sh := by
  unfold pap
  rw [hsI_ha, hR_I, hsR_ha, hR_R, hsI_ha, hR_I, hR_W]
theorem pap_Rn {h : HS} {sh : Option Nat} {now : Int32} {x : Nat} (e : ¬ x = h.1) : hR (pap h sh now) x = hR h x := by
  unfold pap
  rw [hsI_ha, hR_I, hsR_ha, hR_Rn e, hsI_ha, hR_I, hR_Wn e]
theorem pap_T (h : HS) (sh : Option Nat) (now : Int32) : hT (pap h sh now) h.1 = 5 := by
  unfold pap
  rw [hsI_ha, hT_I, hsR_ha, hT_R, hsI_ha, hT_I, hT_W]
theorem pap_Tn {h : HS} {sh : Option Nat} {now : Int32} {x : Nat} (e : ¬ x = h.1) : hT (pap h sh now) x = hT h x := by
  unfold pap
  rw [hsI_ha, hT_I, hsR_ha, hT_R, hsI_ha, hT_I, hT_Wn e]
theorem pap_N {h : HS} {sh : Option Nat} {now : Int32} {x : Nat} (e : ¬ x = h.1) : hN (pap h sh now) x = hN h x := by
  unfold pap
  rw [hsI_ha, hN_I, hsR_ha, hN_R, hsI_ha, hN_I, hN_Wn e]
theorem pap_1 (h : HS) (sh : Option Nat) (now : Int32) : (pap h sh now).1 = h.1 + 1 := Eq.trans rfl rfl
theorem pap_2 (h : HS) (sh : Option Nat) (now : Int32) : (pap h sh now).2.1 = h.2.1 + 10 := Eq.trans rfl rfl
theorem pap_67 (h : HS) (sh : Option Nat) (now : Int32) : p67 (hnew h 5 10 (fun _ => 0)) h.1 sh now = some (pap h sh now) := Eq.trans rfl rfl
section W3
variable {s : SS} {h : HS}
theorem m1_ne {n : Nat} (hn : n < 2147483648) : (nI n = -1) = False := m1_nI hn
theorem shc (E : EV s h) (a : Int32) : (p170 h a = some none ∧ (∀ h', hI h' 86 14 = nI (s 0 3) → p205 h' a = some 0)) ∨ ∃ i, i < s 0 3 ∧ a = nI i ∧ p170 h (nI i) = some (some (s 30 i)) ∧ (∀ h', hI h' 86 14 = nI (s 0 3) → p205 h' (nI i) = some 1) := by
  have c3 := E.cn.b3
  have e1 := E.cn.c3
  rcases ixc a (s 0 3) (by omega) with ⟨h1, h2, -⟩ | ⟨i, hi, rfl, h1, h2⟩
  · left
    refine ⟨?_, fun h' e => ?_⟩
    · unfold p170
      rw [e1, h1]
      simp only [ob, one0, eq_self, or_true, true_or, or_false, false_or, if_true, if_false]
    · unfold p205
      rw [e, h2]
      simp only [ob, one0, eq_self, or_true, true_or, or_false, false_or, if_true, if_false]
  · right
    refine ⟨i, hi, rfl, ?_, fun h' e => ?_⟩
    · unfold p170
      rw [e1, h1]
      simp (disch := omega) only [E.sh.o hi, cl_nI, lt_nI, eq_nI, neg_nI, nI_1, le_f, lt_t, lt_f, eq_f, lz2, lz3, lz4, lz5, lz6, lz7, lz8, lz9, lz12, lz15, lz16, lz20, lz24, lz30, lz31, lz32, lz40, lz48, lz60, lz64, lz80, lz99, lz100, lz200, lz240, lz400, lz401, lz511, lz512, lz800, lz999, lz3999, lz4000, lz9999, lz10000, lz32767, lz65536, lz99999, lz100000, lz120000, lz999999, ob, one0, eq_self, or_true, true_or, or_false, false_or, if_true, if_false]
    · unfold p205
      rw [e, h2]
      simp only [ob, one0, eq_self, or_true, true_or, or_false, false_or, if_true, if_false]
theorem whc (E : EV s h) (a : Int32) : (p171 h a = some none ∧ (∀ h', hI h' 86 14 = nI (s 0 3) → hI h' 97 = hI h 97 → p206 h' a = some 0)) ∨ ∃ i, i < s 0 3 ∧ s 3 i = 100000 ∧ a = nI i ∧ p171 h (nI i) = some (some (s 30 i)) ∧ (∀ h', hI h' 86 14 = nI (s 0 3) → hI h' 97 = hI h 97 → p206 h' (nI i) = some 1) := by
  have c3 := E.cn.b3
  rcases shc E a with ⟨h1, h2⟩ | ⟨i, hi, rfl, h1, h2⟩
  · left
    refine ⟨?_, fun h' e e2 => ?_⟩
    · unfold p171
      rw [h1]
      simp only [ob, one0, eq_self, or_true, true_or, or_false, false_or, if_true, if_false]
    · unfold p206
      rw [h2 h' e]
      simp only [ob, one0, eq_self, or_true, true_or, or_false, false_or, if_true, if_false]
  · obtain ⟨d1, -, d3, d4⟩ := dC_b (d := 0) (Nat.le_refl 3999) (E.sh.b3 hi) (by omega)
    by_cases hf : s 3 i = 100000
    · right
      refine ⟨i, hi, hf, rfl, ?_, fun h' e e2 => ?_⟩
      · unfold p171
        rw [h1, ob, if_neg (by intro z; cases z), ob, if_pos (E.sh.t hi), E.sh.f3 hi, d3.mpr hf, lz4000, if_pos rfl]
      · unfold p206
        rw [h2 h' e]
        simp (disch := omega) only [e2, E.sh.m3 hi, hf, cl_nI, lt_nI, eq_nI, neg_nI, nI_1, le_f, lt_t, lt_f, eq_f, lz2, lz3, lz4, lz5, lz6, lz7, lz8, lz9, lz12, lz15, lz16, lz20, lz24, lz30, lz31, lz32, lz40, lz48, lz60, lz64, lz80, lz99, lz100, lz200, lz240, lz400, lz401, lz511, lz512, lz800, lz999, lz3999, lz4000, lz9999, lz10000, lz32767, lz65536, lz99999, lz100000, lz120000, lz999999, ob, one0, eq_self, or_true, true_or, or_false, false_or, if_true, if_false]
    · left
      have g1 : ¬ nI (dC (s 3 i)) = 4000 := fun z => hf (d3.mp ((nI_eq (b := 4000) (by omega) (by omega)).mp z))
      have g2 : (s 3 i = 100000) = False := eq_false hf
      refine ⟨?_, fun h' e e2 => ?_⟩
      · unfold p171
        rw [h1, ob, if_neg (by intro z; cases z), ob, if_pos (E.sh.t hi), E.sh.f3 hi, if_neg g1]
      · unfold p206
        rw [h2 h' e]
        simp (disch := omega) only [e2, E.sh.m3 hi, g2, cl_nI, lt_nI, eq_nI, neg_nI, nI_1, le_f, lt_t, lt_f, eq_f, lz2, lz3, lz4, lz5, lz6, lz7, lz8, lz9, lz12, lz15, lz16, lz20, lz24, lz30, lz31, lz32, lz40, lz48, lz60, lz64, lz80, lz99, lz100, lz200, lz240, lz400, lz401, lz511, lz512, lz800, lz999, lz3999, lz4000, lz9999, lz10000, lz32767, lz65536, lz99999, lz100000, lz120000, lz999999, ob, one0, eq_self, or_true, true_or, or_false, false_or, if_true, if_false]
def sc_open (s : SS) (h : HS) (i : Nat) : HS := haI (haI h (s 30 i) (u1 (hI h (s 30 i)) 2 (nI (s 0 0)))) 96 (u1 (hI h 96) i (nI (s 0 0)))
theorem w_open (E : EV s h) (a : Int32) : (∃ v, p125 h a = some (v, h) ∧ p209 h a = some (v, h)) ∨ ∃ i v h1, i < s 0 3 ∧ s 3 i = 100000 ∧ s 2 i = 100000 ∧ a = nI i ∧ p125 h a = some (v, h1) ∧ p209 h1 a = some (v, sc_open s h i) := by
  have c3 := E.cn.b3
  have e1 := E.cn.c0
  have e2 := E.cn.m0
  have e3 := E.cn.m3
  rcases whc E a with ⟨h1, h2⟩ | ⟨i, hi, ht, rfl, h1, h2⟩
  · left
    unfold p125 p209
    rw [h1, h2 h e3 rfl]
    simp only [ob, one0, eq_self, or_true, true_or, or_false, false_or, if_true, if_false]
    exact ⟨_, rfl, rfl⟩
  · have lo := E.sh.lo hi
    obtain ⟨d1, -, d3, d4⟩ := dC_b (d := 0) (Nat.le_refl 3999) (E.sh.b2 hi) (by omega)
    by_cases hf : s 2 i = 100000
    · right
      refine ⟨i, 1, haI h (s 30 i) (u1 (hI h (s 30 i)) 2 (nI (s 0 0))), hi, ht, hf, rfl, ?_, ?_⟩
      · unfold p125
        rw [h1, ob, if_neg (by intro z; cases z), ob, if_pos (E.sh.t hi), E.sh.f2 hi, d3.mpr hf, lz4000, if_pos rfl]
        simp (disch := omega) only [e1, hsI_ha, hsL_ha, hsR_ha, hI_I, hI_In, hL_L, hL_Ln, hR_R, hR_Rn, hL_I, hR_I, hT_I, hN_I, h1_I, h2_I, hI_L, hR_L, hT_L, hN_L, h1_L, h2_L, hI_R, hL_R, hT_R, hN_R, h1_R, h2_R, hI_W, hI_Wn, hL_W, hL_Wn, hR_W, hR_Wn, hT_W, hT_Wn, hN_W, hN_Wn, h1_W, h2_W, u1_eq, u1_ne, u1_u1, haI_I]
      · unfold p209
        rw [h2 _ (by simp (disch := omega) only [e3, hsI_ha, hsL_ha, hsR_ha, hI_I, hI_In, hL_L, hL_Ln, hR_R, hR_Rn, hL_I, hR_I, hT_I, hN_I, h1_I, h2_I, hI_L, hR_L, hT_L, hN_L, h1_L, h2_L, hI_R, hL_R, hT_R, hN_R, h1_R, h2_R, hI_W, hI_Wn, hL_W, hL_Wn, hR_W, hR_Wn, hT_W, hT_Wn, hN_W, hN_Wn, h1_W, h2_W, u1_eq, u1_ne, u1_u1, haI_I]) (by simp (disch := omega) only [hsI_ha, hsL_ha, hsR_ha, hI_I, hI_In, hL_L, hL_Ln, hR_R, hR_Rn, hL_I, hR_I, hT_I, hN_I, h1_I, h2_I, hI_L, hR_L, hT_L, hN_L, h1_L, h2_L, hI_R, hL_R, hT_R, hN_R, h1_R, h2_R, hI_W, hI_Wn, hL_W, hL_Wn, hR_W, hR_Wn, hT_W, hT_Wn, hN_W, hN_Wn, h1_W, h2_W, u1_eq, u1_ne, u1_u1, haI_I])]
        simp (disch := omega) only [E.sh.m2 hi, hf, e2, cl_nI, lt_nI, eq_nI, neg_nI, nI_1, le_f, lt_t, lt_f, eq_f, lz2, lz3, lz4, lz5, lz6, lz7, lz8, lz9, lz12, lz15, lz16, lz20, lz24, lz30, lz31, lz32, lz40, lz48, lz60, lz64, lz80, lz99, lz100, lz200, lz240, lz400, lz401, lz511, lz512, lz800, lz999, lz3999, lz4000, lz9999, lz10000, lz32767, lz65536, lz99999, lz100000, lz120000, lz999999, hsI_ha, hsL_ha, hsR_ha, hI_I, hI_In, hL_L, hL_Ln, hR_R, hR_Rn, hL_I, hR_I, hT_I, hN_I, h1_I, h2_I, hI_L, hR_L, hT_L, hN_L, h1_L, h2_L, hI_R, hL_R, hT_R, hN_R, h1_R, h2_R, hI_W, hI_Wn, hL_W, hL_Wn, hR_W, hR_Wn, hT_W, hT_Wn, hN_W, hN_Wn, h1_W, h2_W, u1_eq, u1_ne, u1_u1, haI_I, ob, one0, eq_self, or_true, true_or, or_false, false_or, if_true, if_false]
        rfl
    · left
      have g1 : ¬ nI (dC (s 2 i)) = 4000 := fun z => hf (d3.mp ((nI_eq (b := 4000) (by omega) (by omega)).mp z))
      have g2 : (s 2 i = 100000) = False := eq_false hf
      unfold p125 p209
      rw [h1, h2 h e3 rfl, ob, if_neg (by intro z; cases z), ob, if_pos (E.sh.t hi), E.sh.f2 hi, if_neg g1]
      simp (disch := omega) only [E.sh.m2 hi, g2, cl_nI, lt_nI, eq_nI, neg_nI, nI_1, le_f, lt_t, lt_f, eq_f, lz2, lz3, lz4, lz5, lz6, lz7, lz8, lz9, lz12, lz15, lz16, lz20, lz24, lz30, lz31, lz32, lz40, lz48, lz60, lz64, lz80, lz99, lz100, lz200, lz240, lz400, lz401, lz511, lz512, lz800, lz999, lz3999, lz4000, lz9999, lz10000, lz32767, lz65536, lz99999, lz100000, lz120000, lz999999, ob, one0, eq_self, or_true, true_or, or_false, false_or, if_true, if_false]
      exact ⟨_, rfl, rfl⟩
def sc_seenC (n : Nat) (h : HS) (q pl f t now : Int32) : HS := hsI (hsR (hsI (hsI (hsI (hsI (pap h none now) h.1 4 q) h.1 6 pl) h.1 8 f) h.1 9 t) 53 n (some h.1)) 50 2 (nI (n + 1))
def sc_seenM (n : Nat) (h : HS) (q pl f t now : Int32) : HS := hsI (hsI (hsI (hsI (hsI (hsI (hsI h 103 n q) 104 n pl) 105 n f) 106 n t) 107 n now) 108 n (nI 100000)) 86 21 (nI (n + 1))
set_option maxRecDepth 100000 in
theorem seenC_ok {h : HS} {n : Nat} {q pl f t now : Int32} (w1 : 160 ≤ h.1) (hn : n < 400) (e1 : hI h 50 2 = nI n) (e2 : hI h 32 0 = now) (h1 : p1 h q = some 1) (h2 : p166 h pl 0 99 = some 1) (h3 : p166 h f 0 9999 = some 1) (h4 : p166 h t f 9999 = some 1) : p128 h q pl f t = some (nI n, sc_seenC n h q pl f t now) := by
  have c : (nI n).toNatClampNeg = n := nI_clamp (by omega)
  have g0 : (nI n < 0) = False := neg_nI (by omega)
  have g1 : (400 ≤ n) = False := le_f hn
  have g2 : (nI n < nI 400) = True := eq_true (nI_lt hn (by decide))
  have k : ¬ 32 = h.1 := by omega
  have k2 : ¬ 50 = h.1 := by omega
  have k3 : ¬ 53 = h.1 := by omega
  unfold p128 p6 sc_seenC
  rw [h1, h2, h3, h4]
  simp only [ob, hI_Wn k, e1, e2, pap_67, pap_T, hsI_ha, hT_I, hI_In k2, hI_In (fun z => k2 z.symm)]
  simp only [g2, c, g0, g1, lz400, one0, if_true, if_false, or_false, hsR_ha, hsI_ha, hT_I, hR_I, hI_R, pap_In k2, e1, nI_1, hI_In k2, hI_I, haI_I, ob]
theorem seenM_ok {h : HS} {n : Nat} {q pl f t now : Int32} (hn : n < 400) (e1 : hI h 86 21 = nI n) (e2 : hI h 86 1 = now) (h1 : p213 h q = some 1) (h2 : p187 h pl 0 99 = some 1) (h3 : p187 h f 0 9999 = some 1) (h4 : p187 h t 0 9999 = some 1) (h5 : ¬ t < f) : p214 h q pl f t = some (nI n, sc_seenM n h q pl f t now) := by
  have c : (nI n).toNatClampNeg = n := nI_clamp (by omega)
  have g0 : (nI n < 0) = False := neg_nI (by omega)
  have g1 : (400 ≤ n) = False := le_f hn
  have g2 : (nI n = nI 400) = False := eq_false (fun z => by have := (nI_eq (by omega) (by omega)).mp z; omega)
  have g3 : (t < f) = False := eq_false h5
  unfold p214 p189 sc_seenM
  rw [h1, h2, h3, h4]
  simp (disch := omega) only [e1, e2, c, g0, g1, g2, g3, lz400, lz100000, nI_1, nI_pred, hsI_ha, hsL_ha, hsR_ha, hI_I, hI_In, hL_L, hL_Ln, hR_R, hR_Rn, hL_I, hR_I, hT_I, hN_I, h1_I, h2_I, hI_L, hR_L, hT_L, hN_L, h1_L, h2_L, hI_R, hL_R, hT_R, hN_R, h1_R, h2_R, hI_W, hI_Wn, hL_W, hL_Wn, hR_W, hR_Wn, hT_W, hT_Wn, hN_W, hN_Wn, h1_W, h2_W, u1_eq, u1_ne, u1_u1, haI_I, ob, one0, eq_self, or_true, true_or, or_false, false_or, if_true, if_false]
end W3
