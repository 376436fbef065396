/-! calls that change: sheets told whole, findings, appeals, askers, readers; the tape's end -/
section W7
variable {s : SS} {h : HS}
theorem vpb : ∀ a : Int32, a = 0 ∨ a = 1 → vp_nar .boolean a = a := by
  intro a ha
  rcases ha with rfl | rfl <;> decide
theorem shtM_ok {h : HS} {n : Nat} {now : Int32} (hn : n < 200) (e1 : hI h 86 14 = nI n) (e2 : hI h 86 1 = now) : p204 h = some (nI n, shtM n h now) := by
  have c9 : (nI n).toNatClampNeg = n := nI_clamp (by omega)
  have g0 : (nI n < 0) = False := neg_nI (by omega)
  have g1 : (200 ≤ n) = False := le_f hn
  have g2 : (nI n = nI 200) = False := eq_false (fun z => by have := (nI_eq (by omega) (by omega)).mp z; omega)
  unfold p204 shtM
  simp (disch := omega) only [e1, e2, c9, g0, g1, g2, lz200, lz100000, nI_1, nI_pred, hsI_ha, hsL_ha, hsR_ha, hI_I, hI_In, hL_L, hL_Ln, hR_R, hR_Rn, hL_I, hR_I, hT_I, hN_I, h1_I, h2_I, hI_L, hR_L, hT_L, hN_L, h1_L, h2_L, hI_R, hL_R, hT_R, hN_R, h1_R, h2_R, hI_W, hI_Wn, hL_W, hL_Wn, hR_W, hR_Wn, hT_W, hT_Wn, hN_W, hN_Wn, h1_W, h2_W, u1_eq, u1_ne, u1_u1, haI_I, ob, one0, eq_self, or_true, true_or, or_false, false_or, if_true, if_false]
theorem w_sheet (E : EV s h) : (∃ v, p123 h = some (v, h) ∧ p204 h = some (v, h)) ∨ ∃ v, s 0 3 < 200 ∧ p123 h = some (v, shtC (s 0 3) h (nI (s 0 0))) ∧ p204 (shtC (s 0 3) h (nI (s 0 0))) = some (v, shtM (s 0 3) (shtC (s 0 3) h (nI (s 0 0))) (nI (s 0 0))) := by
  have w1 : 160 ≤ h.1 := E.w.1
  have c3 := E.cn.b3
  have e1 := E.cn.c3
  have e2 := E.cn.m3
  have e5 := E.cn.c0
  have e6 := E.cn.m0
  by_cases hf : s 0 3 = 200
  · left
    refine ⟨-1, ?_, ?_⟩
    · unfold p123; rw [if_neg (show ¬ hI h 32 2 < 200 by rw [e1]; exact nI_nlt (b := 200) (by omega) (by omega))]
    · unfold p204; rw [if_pos (show hI h 86 14 = 200 by rw [e2, hf]; rfl)]
  · right
    have kc : hI (shtC (s 0 3) h (nI (s 0 0))) 86 = hI h 86 := by
      unfold shtC
      rw [hsI_ha, hI_In (by decide), hsR_ha, hI_R, shn_In (by omega)]
    refine ⟨nI (s 0 3), by omega, ?_, shtM_ok (by omega) (by rw [kc]; exact e2) (by rw [kc]; exact e6)⟩
    unfold p123
    rw [if_pos (show hI h 32 2 < 200 by rw [e1]; exact nI_lt (b := 200) (by omega) (by omega)), pm172 w1 (by omega) e1 e5]
    rfl
def fndC (n : Nat) (h : HS) (q c now : Int32) : HS := hsI (hsI (hsI (hsI (hsI h 69 n q) 70 n c) 71 n now) 72 n 4000) 68 0 (nI (n + 1))
def fndM (n : Nat) (h : HS) (q c now : Int32) : HS := hsI (hsI (hsI (hsI (hsI h 149 n q) 150 n c) 151 n now) 152 n (nI 100000)) 86 85 (nI (n + 1))
theorem fndC_ok {h : HS} {n : Nat} {q c now : Int32} (hn : n < 60) (e1 : hI h 68 0 = nI n) (e2 : hI h 32 0 = now) (h1 : p1 h q = some 1) (h2 : p2 h c = some 1) : p155 h q c = some (nI n, fndC n h q c now) := by
  have c9 : (nI n).toNatClampNeg = n := nI_clamp (by omega)
  have g0 : (nI n < 0) = False := neg_nI (by omega)
  have g1 : (60 ≤ n) = False := le_f hn
  have g2 : (nI n < nI 60) = True := eq_true (nI_lt hn (by decide))
  unfold p155 p63 fndC
  rw [h1, h2]
  simp (disch := omega) only [e1, e2, c9, g0, g1, g2, lz60, nI_1, hsI_ha, hsL_ha, hsR_ha, hI_I, hI_In, hL_L, hL_Ln, hR_R, hR_Rn, hL_I, hR_I, hT_I, hN_I, h1_I, h2_I, hI_L, hR_L, hT_L, hN_L, h1_L, h2_L, hI_R, hL_R, hT_R, hN_R, h1_R, h2_R, hI_W, hI_Wn, hL_W, hL_Wn, hR_W, hR_Wn, hT_W, hT_Wn, hN_W, hN_Wn, h1_W, h2_W, u1_eq, u1_ne, u1_u1, haI_I, ob, one0, eq_self, or_true, true_or, or_false, false_or, if_true, if_false]
theorem fndM_ok {h : HS} {n : Nat} {q c now : Int32} (hn : n < 60) (e1 : hI h 86 85 = nI n) (e2 : hI h 86 1 = now) (h1 : p213 h q = some 1) (h2 : p218 h c = some 1) : p292 h q c = some (nI n, fndM n h q c now) := by
  have c9 : (nI n).toNatClampNeg = n := nI_clamp (by omega)
  have g0 : (nI n < 0) = False := neg_nI (by omega)
  have g1 : (60 ≤ n) = False := le_f hn
  have g2 : (nI n = nI 60) = False := eq_false (fun z => by have := (nI_eq (by omega) (by omega)).mp z; omega)
  unfold p292 fndM
  rw [h1, h2]
  simp (disch := omega) only [e1, e2, c9, g0, g1, g2, lz60, lz100000, nI_1, nI_pred, hsI_ha, hsL_ha, hsR_ha, hI_I, hI_In, hL_L, hL_Ln, hR_R, hR_Rn, hL_I, hR_I, hT_I, hN_I, h1_I, h2_I, hI_L, hR_L, hT_L, hN_L, h1_L, h2_L, hI_R, hL_R, hT_R, hN_R, h1_R, h2_R, hI_W, hI_Wn, hL_W, hL_Wn, hR_W, hR_Wn, hT_W, hT_Wn, hN_W, hN_Wn, h1_W, h2_W, u1_eq, u1_ne, u1_u1, haI_I, ob, one0, eq_self, or_true, true_or, or_false, false_or, if_true, if_false]
theorem w_finding (E : EV s h) (a b : Int32) : (∃ v, p155 h a b = some (v, h) ∧ p292 h a b = some (v, h)) ∨ ∃ q c v, s 0 11 < 60 ∧ q < s 0 4 ∧ c < s 0 6 ∧ a = nI q ∧ b = nI c ∧ p155 h a b = some (v, fndC (s 0 11) h (nI q) (nI c) (nI (s 0 0))) ∧ p292 (fndC (s 0 11) h (nI q) (nI c) (nI (s 0 0))) a b = some (v, fndM (s 0 11) (fndC (s 0 11) h (nI q) (nI c) (nI (s 0 0))) (nI q) (nI c) (nI (s 0 0))) := by
  have cb := E.cn.b11
  have e1 := E.cn.c11
  have e2 := E.cn.m11
  have e4 := E.cn.m4
  have e5 := E.cn.c0
  have e6 := E.cn.m0
  have e7 := E.cn.m6
  have full : s 0 11 = 60 → p292 h a b = some (-1, h) := fun hf => by unfold p292; rw [if_pos (show hI h 86 85 = 60 by rw [e2, hf]; rfl)]
  have nf : ¬ s 0 11 = 60 → ¬ hI h 86 85 = 60 := fun hf => by rw [e2]; exact fun z => hf ((nI_eq (b := 60) (by omega) (by omega)).mp z)
  rcases perc E a with ⟨k1, k2⟩ | ⟨q, hq, rfl, k1, k2⟩
  · left
    refine ⟨-1, ?_, ?_⟩
    · unfold p155; rw [k1, ob, if_pos rfl]
    · by_cases hf : s 0 11 = 60
      · exact full hf
      · unfold p292; rw [if_neg (nf hf), k2 _ e4, ob, if_pos rfl]
  · rcases covc E b with ⟨k3, k4⟩ | ⟨c, hc, rfl, k3, k4⟩
    · left
      refine ⟨-1, ?_, ?_⟩
      · unfold p155; rw [k1, ob, if_neg (show ¬ (1 : Int32) = 0 by decide), k3, ob, if_pos rfl]
      · by_cases hf : s 0 11 = 60
        · exact full hf
        · unfold p292; rw [if_neg (nf hf), k2 _ e4, ob, if_neg (show ¬ (1 : Int32) = 0 by decide), k4 _ e7, ob, if_pos rfl]
    · by_cases hf : s 0 11 = 60
      · left
        refine ⟨-1, ?_, full hf⟩
        unfold p155 p63
        rw [k1, ob, if_neg (show ¬ (1 : Int32) = 0 by decide), k3, ob, if_neg (show ¬ (1 : Int32) = 0 by decide), if_neg (show ¬ hI h 68 0 < 60 by rw [e1]; exact nI_nlt (b := 60) (by omega) (by omega))]
        rfl
      · right
        have kc : hI (fndC (s 0 11) h (nI q) (nI c) (nI (s 0 0))) 86 = hI h 86 := by
          unfold fndC
          simp (disch := omega) only [hsI_ha, hI_In]
        exact ⟨q, c, nI (s 0 11), by omega, hq, hc, rfl, rfl, fndC_ok (by omega) e1 e5 k1 k3, fndM_ok (by omega) (by rw [kc]; exact e2) (by rw [kc]; exact e6) (k2 _ (by rw [kc]; exact e4)) (k4 _ (by rw [kc]; exact e7))⟩
def appC (h : HS) (i : Nat) (b now : Int32) : HS := if b = 0 then hsI h 73 i (vp_nar .boolean 1) else hsI (hsI h 73 i (vp_nar .boolean 1)) 72 i now
def appM (h : HS) (i : Nat) (b now : Int32) : HS := hsI (hsI h 153 i (vp_nar .boolean 1)) 152 i (if b = 0 then nI 100000 else now)
theorem w_appeal (E : EV s h) (o73 : hI h 73 = hI h 153) (a b : Int32) : (∃ v, p158 h a b = some (v, h) ∧ p297 h a b = some (v, h)) ∨ ∃ i v, i < s 0 11 ∧ hI h 153 i = 0 ∧ a = nI i ∧ p158 h a b = some (v, appC h i b (nI (s 0 0))) ∧ p297 (appC h i b (nI (s 0 0))) a b = some (v, appM (appC h i b (nI (s 0 0))) i b (nI (s 0 0))) := by
  have cb := E.cn.b11
  have e1 := E.cn.c11
  have e2 := E.cn.m11
  have e5 := E.cn.c0
  have e6 := E.cn.m0
  rcases ixc a (s 0 11) (by omega) with ⟨h1, h2, -⟩ | ⟨i, hi, rfl, h1, h2⟩
  · left
    unfold p158 p297 p62
    rw [e1, e2, h1, h2]
    simp only [ob, one0, eq_self, or_true, true_or, or_false, false_or, if_true, if_false]
    exact ⟨_, rfl, rfl⟩
  · have gi : ¬ (nI i < 0 ∨ 60 ≤ (nI i).toNatClampNeg) := nI_in (by omega) (by omega)
    have c9 : (nI i).toNatClampNeg = i := nI_clamp (by omega)
    by_cases hz : hI h 153 i = 0
    · right
      have kc : hI (appC h i b (nI (s 0 0))) 86 = hI h 86 ∧ hI (appC h i b (nI (s 0 0))) 153 = hI h 153 := by
        unfold appC
        split <;> constructor <;> simp (disch := omega) only [hsI_ha, hI_In]
      refine ⟨i, 1, hi, hz, rfl, ?_, ?_⟩
      · unfold p158 p62 p64 appC
        rw [e1, h1]
        simp only [ob, one0, eq_self, or_true, true_or, or_false, false_or, if_true, if_false]
        rw [if_neg gi, if_neg gi, if_neg gi, c9, o73, if_pos hz, e5]
        by_cases hb : b = 0
        · rw [if_pos hb, if_pos hb]; rfl
        · rw [if_neg hb, if_neg hb]; rfl
      · unfold p297 p297_j51 appM
        rw [kc.1, e2, h2, ob, if_neg (show ¬ (1 : Int32) = 0 by decide), if_neg gi, if_neg gi, kc.2, c9, if_pos hz]
        by_cases hb : b = 0
        · rw [if_pos hb, if_pos hb, if_neg (show ¬ (nI i < 0 ∨ 60 ≤ i) from fun z => z.elim (nI_pos (by omega)) (by omega))]; rfl
        · rw [if_neg hb, if_neg hb, if_neg (show ¬ (nI i < 0 ∨ 60 ≤ i) from fun z => z.elim (nI_pos (by omega)) (by omega)), hsI_ha _ 153, hI_In (show ¬ 86 = 153 by decide), kc.1, e6]
    · left
      unfold p158 p297 p62 p64
      rw [e1, e2, h1, h2]
      simp only [ob, one0, eq_self, or_true, true_or, or_false, false_or, if_true, if_false, gi]
      rw [c9, o73, if_neg hz, if_neg hz]
      exact ⟨_, rfl, rfl⟩
theorem q_persons (E : EV s h) (o74 : hI h 74 = hI h 100) (o75 : hI h 75 = hI h 101) (o76 : hI h 76 = hI h 102) (a b : Int32) : ∃ v, p161 h a b = some v ∧ p300 h a b = some v := by
  have cb := E.cn.b4
  have e4 := E.cn.m4
  rcases perc E a with ⟨k1, k2⟩ | ⟨q, hq, rfl, k1, k2⟩
  · refine ⟨-2, ?_, ?_⟩
    · unfold p161; rw [k1, ob, if_pos rfl]
    · unfold p300; rw [k2 _ e4, ob, if_pos rfl]
  · have gi : ¬ (nI q < 0 ∨ 60 ≤ (nI q).toNatClampNeg) := nI_in (by omega) (by omega)
    have c9 : (nI q).toNatClampNeg = q := nI_clamp (by omega)
    unfold p161 p300 p65
    rw [k1, k2 _ e4]
    simp only [ob, one0, eq_self, or_true, true_or, or_false, false_or, if_true, if_false, gi]
    simp only [c9, o74, o75, o76]
    rcases rngc b 0 2 with ⟨h1, h2⟩ | ⟨h1, h2, y1, y2⟩
    · rw [h2]
      have n0 : ¬ b = 0 := fun e => by have := h1 h; rw [e] at this; unfold p166 at this; exact absurd this (by decide)
      have n1 : ¬ b = 1 := fun e => by have := h1 h; rw [e] at this; unfold p166 at this; exact absurd this (by decide)
      have n2 : ¬ b = 2 := fun e => by have := h1 h; rw [e] at this; unfold p166 at this; exact absurd this (by decide)
      rw [if_neg n0, if_neg n1, if_neg n2, ob, if_pos rfl]
      exact ⟨_, rfl, rfl⟩
    · obtain ⟨k, -, hk, rfl⟩ := le_of_nI (m := 0) (n := 2) (by decide) (by decide) y1 y2
      rw [h2, ob, if_neg (show ¬ (1 : Int32) = 0 by decide)]
      rcases (show k = 0 ∨ k = 1 ∨ k = 2 by omega) with rfl | rfl | rfl
      · rw [if_pos (show nI 0 = 0 from rfl), if_pos (show nI 0 = 0 from rfl)]
        by_cases g1 : hI h 101 q = -1
        · by_cases g2 : hI h 100 q = -1
          · simp only [g1, g2, ob, one0, eq_self, or_true, true_or, or_false, false_or, if_true, if_false]; exact ⟨_, rfl, rfl⟩
          · simp only [g1, g2, ob, one0, eq_self, or_true, true_or, or_false, false_or, if_true, if_false]; exact ⟨_, rfl, rfl⟩
        · by_cases g2 : hI h 100 q = -1
          · simp only [g1, g2, ob, one0, eq_self, or_true, true_or, or_false, false_or, if_true, if_false]; exact ⟨_, rfl, rfl⟩
          · simp only [g1, g2, ob, one0, eq_self, or_true, true_or, or_false, false_or, if_true, if_false]; exact ⟨_, rfl, rfl⟩
      · exact ⟨_, rfl, rfl⟩
      · exact ⟨_, rfl, rfl⟩
def askC (n : Nat) (h : HS) (a b : Int32) : HS := hsI (hsI (hsI h 78 n a) 79 n b) 77 1 (nI (n + 1))
def askM (n : Nat) (h : HS) (a b : Int32) : HS := hsI (hsI (hsI h 154 n a) 155 n b) 86 91 (nI (n + 1))
theorem askC_ok {h : HS} {n : Nat} {a b : Int32} (hn : n < 12) (e1 : hI h 77 1 = nI n) (h1 : p166 h a 1 511 = some 1) (h2 : p166 h b 1 99 = some 1) : p162 h a b = some (nI (n + 1), askC n h a b) := by
  have c9 : (nI n).toNatClampNeg = n := nI_clamp (by omega)
  have g0 : (nI n < 0) = False := neg_nI (by omega)
  have g1 : (12 ≤ n) = False := le_f hn
  have g2 : (nI n < nI 12) = True := eq_true (nI_lt hn (by decide))
  unfold p162 p74 askC
  rw [h1, h2]
  simp (disch := omega) only [e1, c9, g0, g1, g2, lz12, nI_1, hsI_ha, hsL_ha, hsR_ha, hI_I, hI_In, hL_L, hL_Ln, hR_R, hR_Rn, hL_I, hR_I, hT_I, hN_I, h1_I, h2_I, hI_L, hR_L, hT_L, hN_L, h1_L, h2_L, hI_R, hL_R, hT_R, hN_R, h1_R, h2_R, hI_W, hI_Wn, hL_W, hL_Wn, hR_W, hR_Wn, hT_W, hT_Wn, hN_W, hN_Wn, h1_W, h2_W, u1_eq, u1_ne, u1_u1, haI_I, ob, one0, eq_self, or_true, true_or, or_false, false_or, if_true, if_false]
theorem askM_ok {h : HS} {n : Nat} {a b : Int32} (hn : n < 12) (e1 : hI h 86 91 = nI n) (h1 : p187 h a 1 511 = some 1) (h2 : p187 h b 1 99 = some 1) : p301 h a b = some (nI (n + 1), askM n h a b) := by
  have c9 : (nI n).toNatClampNeg = n := nI_clamp (by omega)
  have g0 : (nI n < 0) = False := neg_nI (by omega)
  have g1 : (12 ≤ n) = False := le_f hn
  have g2 : (nI n = nI 12) = False := eq_false (fun z => by have := (nI_eq (by omega) (by omega)).mp z; omega)
  unfold p301 askM
  rw [h1, h2]
  simp (disch := omega) only [e1, c9, g0, g1, g2, lz12, nI_1, hsI_ha, hsL_ha, hsR_ha, hI_I, hI_In, hL_L, hL_Ln, hR_R, hR_Rn, hL_I, hR_I, hT_I, hN_I, h1_I, h2_I, hI_L, hR_L, hT_L, hN_L, h1_L, h2_L, hI_R, hL_R, hT_R, hN_R, h1_R, h2_R, hI_W, hI_Wn, hL_W, hL_Wn, hR_W, hR_Wn, hT_W, hT_Wn, hN_W, hN_Wn, h1_W, h2_W, u1_eq, u1_ne, u1_u1, haI_I, ob, one0, eq_self, or_true, true_or, or_false, false_or, if_true, if_false]
theorem w_asker (E : EV s h) (a b : Int32) : (∃ v, p162 h a b = some (v, h) ∧ p301 h a b = some (v, h)) ∨ ∃ q w v, s 0 13 < 12 ∧ 1 ≤ q ∧ q ≤ 511 ∧ 1 ≤ w ∧ w ≤ 99 ∧ a = nI q ∧ b = nI w ∧ p162 h a b = some (v, askC (s 0 13) h (nI q) (nI w)) ∧ p301 (askC (s 0 13) h (nI q) (nI w)) a b = some (v, askM (s 0 13) (askC (s 0 13) h (nI q) (nI w)) (nI q) (nI w)) := by
  have cb := E.cn.b13
  have e1 := E.cn.c13
  have e2 := E.cn.m13
  by_cases hf : s 0 13 = 12
  · left
    refine ⟨-1, ?_, ?_⟩
    · unfold p162 p74; rw [if_neg (show ¬ hI h 77 1 < 12 by rw [e1]; exact nI_nlt (b := 12) (by omega) (by omega))]; rfl
    · unfold p301; rw [if_pos (show hI h 86 91 = 12 by rw [e2, hf]; rfl)]
  · have g1 : hI h 77 1 < 12 := by rw [e1]; exact nI_lt (b := 12) (by omega) (by omega)
    have g2 : ¬ hI h 86 91 = 12 := by rw [e2]; exact fun z => hf ((nI_eq (b := 12) (by omega) (by omega)).mp z)
    rcases rngc a 1 511 with ⟨k1, k2⟩ | ⟨k1, k2, y1, y2⟩
    · left
      refine ⟨-1, ?_, ?_⟩
      · unfold p162 p74; rw [if_pos g1, k1, ob, if_pos rfl]; rfl
      · unfold p301; rw [if_neg g2, k2, ob, if_pos rfl]
    · obtain ⟨q, hq1, hq2, rfl⟩ := le_of_nI (m := 1) (n := 511) (by decide) (by decide) y1 y2
      rcases rngc b 1 99 with ⟨k3, k4⟩ | ⟨k3, k4, y1, y2⟩
      · left
        refine ⟨-1, ?_, ?_⟩
        · unfold p162 p74; rw [if_pos g1, k1, ob, if_neg (show ¬ (1 : Int32) = 0 by decide), k3, ob, if_pos rfl]; rfl
        · unfold p301; rw [if_neg g2, k2, ob, if_neg (show ¬ (1 : Int32) = 0 by decide), k4, ob, if_pos rfl]
      · right
        obtain ⟨w, hw1, hw2, rfl⟩ := le_of_nI (m := 1) (n := 99) (by decide) (by decide) y1 y2
        have kc : hI (askC (s 0 13) h (nI q) (nI w)) 86 = hI h 86 := by
          unfold askC
          simp (disch := omega) only [hsI_ha, hI_In]
        exact ⟨q, w, _, by omega, hq1, hq2, hw1, hw2, rfl, rfl, askC_ok (by omega) e1 (k1 _) (k3 _), askM_ok (by omega) (by rw [kc]; exact e2) (k2 _) (k4 _)⟩
def sc_end (h : HS) (n : Nat) : HS := haI (haI h 57 (u1 (hI h 57) 0 (nI n))) 86 (u1 (hI h 86) 52 (nI n))
theorem w_end (E : EV s h) (a : Int32) : (∃ v, p143 h a = some (v, h) ∧ p243 h a = some (v, h)) ∨ ∃ n v h1, n ≤ s 0 12 ∧ a = nI n ∧ p143 h a = some (v, h1) ∧ p243 h1 a = some (v, sc_end h n) := by
  have cb := E.cn.b12
  have e1 := E.cn.c12
  have e2 := E.cn.m12
  rcases rng a 0 (nI (s 0 12)) with ⟨h1, -, h3⟩ | ⟨h1, -, y1, y2⟩
  · left
    refine ⟨-1, ?_, ?_⟩
    · unfold p143; rw [e1, h1, ob, if_pos rfl]
    · unfold p243
      by_cases ha : a < 0
      · rw [if_pos ha]
      · rw [if_neg ha, e2, if_pos (Int32.not_le.mp (fun z => h3 ⟨Int32.not_lt.mp ha, z⟩))]
  · right
    obtain ⟨n, -, hn, rfl⟩ := le_of_nI (m := 0) (n := s 0 12) (by decide) (by omega) y1 y2
    refine ⟨n, nI n, haI h 57 (u1 (hI h 57) 0 (nI n)), hn, rfl, ?_, ?_⟩
    · unfold p143; rw [e1, h1, ob, if_neg (show ¬ (1 : Int32) = 0 by decide), hsI_ha]
    · unfold p243 sc_end
      rw [if_neg (nI_pos (by omega)), hI_In (by decide), e2, if_neg (nI_nlt hn (by omega)), hsI_ha, hI_In (by decide)]
end W7
