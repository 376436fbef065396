/-! calls that change: reports, bills -/
section W5
variable {s : SS} {h : HS}
def repC (n : Nat) (h : HS) (o : Nat) (c p act pl d w now : Int32) : HS := hsI (hsR (hsI (hsI (hsI (hsI (hsI (hsI (hsI (pap h (some o) now) h.1 3 c) h.1 4 p) h.1 5 act) h.1 6 pl) h.1 8 d) h.1 9 w) o 5 (hI h o 5 + 1)) 54 n (some h.1)) 50 3 (nI (n + 1))
def bilC (n : Nat) (h : HS) (o : Nat) (c co d now : Int32) : HS := hsI (hsR (hsI (hsI (hsI (hsI (pap h (some o) now) h.1 3 c) h.1 7 co) h.1 8 d) o 6 (hI h o 6 + 1)) 55 n (some h.1)) 50 4 (nI (n + 1))
def repM (n : Nat) (h : HS) (sh c p act pl d w now : Int32) : HS := hsI (hsI (hsI (hsI (hsI (hsI (hsI (hsI (hsI (hsI h 111 n sh) 112 n c) 113 n p) 114 n act) 115 n pl) 116 n d) 117 n w) 118 n now) 119 n (nI 100000)) 86 32 (nI (n + 1))
def bilM (n : Nat) (h : HS) (sh c co d now : Int32) : HS := hsI (hsI (hsI (hsI (hsI (hsI h 120 n sh) 121 n c) 122 n co) 123 n now) 124 n (nI 100000)) 86 33 (nI (n + 1))
theorem repC_ok {h : HS} {n o : Nat} {sh c p act pl d w now : Int32} (w1 : 160 ≤ h.1) (hn : n < 200) (ho : 160 ≤ o) (hu : o < h.1) (ht : hT h o = 9) (e1 : hI h 50 3 = nI n) (e2 : hI h 32 0 = now) (h0 : p171 h sh = some (some o)) (h1 : p2 h c = some 1) (h2 : p1 h p = some 1) (h3 : p166 h act 0 31 = some 1) (h4 : p166 h pl 0 99 = some 1) (h5 : p166 h d 0 9999 = some 1) (h6 : p166 h w d 9999 = some 1) : p131 h sh c p act pl d w = some (nI n, repC n h o c p act pl d w now) := by
  have c9 : (nI n).toNatClampNeg = n := nI_clamp (by omega)
  have g0 : (nI n < 0) = False := neg_nI (by omega)
  have g1 : (200 ≤ n) = False := le_f hn
  have k : ¬ 32 = h.1 := by omega
  have k2 : ¬ 50 = h.1 := by omega
  have k4 : ¬ 50 = o := by omega
  have k5 : ¬ o = h.1 := by omega
  have g2 : (nI n < nI 200) = True := eq_true (nI_lt hn (by decide))
  unfold p131 p7 repC
  rw [h0, ob, if_neg (by intro z; cases z), ob, h1, h2, h3, h4, h5, h6]
  simp only [ob, hI_Wn k, e1, e2, pap_67, pap_T, hsI_ha, hT_I, hI_In k2, hI_In (fun z => k2 z.symm), one0, if_true, if_false, lz200, g2]
  simp only [pap_T, pap_Tn k5, ht, hT_I, hI_In k5, hI_In k4, hI_In k2, pap_In k5, g2, c9, g0, g1, lz200, one0, if_true, if_false, or_false, hsR_ha, hsI_ha, hR_I, hI_R, hT_R, pap_In k2, e1, nI_1, hI_I, haI_I, ob]
theorem bilC_ok {h : HS} {n o : Nat} {sh c co d now : Int32} (w1 : 160 ≤ h.1) (hn : n < 200) (ho : 160 ≤ o) (hu : o < h.1) (ht : hT h o = 9) (e1 : hI h 50 4 = nI n) (e2 : hI h 32 0 = now) (h0 : p171 h sh = some (some o)) (h1 : p2 h c = some 1) (h2 : p166 h co 1 9999 = some 1) (h3 : p166 h d 0 9999 = some 1) : p140 h sh c co d = some (nI n, bilC n h o c co d now) := by
  have c9 : (nI n).toNatClampNeg = n := nI_clamp (by omega)
  have g0 : (nI n < 0) = False := neg_nI (by omega)
  have g1 : (200 ≤ n) = False := le_f hn
  have k : ¬ 32 = h.1 := by omega
  have k2 : ¬ 50 = h.1 := by omega
  have k4 : ¬ 50 = o := by omega
  have k5 : ¬ o = h.1 := by omega
  have g2 : (nI n < nI 200) = True := eq_true (nI_lt hn (by decide))
  unfold p140 p8 bilC
  rw [h0, ob, if_neg (by intro z; cases z), ob, h1, h2, h3]
  simp only [ob, hI_Wn k, e1, e2, pap_67, pap_T, hsI_ha, hT_I, hI_In k2, hI_In (fun z => k2 z.symm), one0, if_true, if_false, lz200, g2]
  simp only [pap_T, pap_Tn k5, ht, hT_I, hI_In k5, hI_In k4, hI_In k2, pap_In k5, g2, c9, g0, g1, lz200, one0, if_true, if_false, or_false, hsR_ha, hsI_ha, hR_I, hI_R, hT_R, pap_In k2, e1, nI_1, hI_I, haI_I, ob]
theorem repM_ok {h : HS} {n : Nat} {sh c p act pl d w now : Int32} (hn : n < 200) (e1 : hI h 86 32 = nI n) (e2 : hI h 86 1 = now) (h0 : p206 h sh = some 1) (h1 : p218 h c = some 1) (h2 : p213 h p = some 1) (h3 : p187 h act 0 31 = some 1) (h4 : p187 h pl 0 99 = some 1) (h5 : p189 h d = some 1) (h6 : p189 h w = some 1) (hlt : ¬ w < d) : p219 h sh c p act pl d w = some (nI n, repM n h sh c p act pl d w now) := by
  have c9 : (nI n).toNatClampNeg = n := nI_clamp (by omega)
  have g0 : (nI n < 0) = False := neg_nI (by omega)
  have g1 : (200 ≤ n) = False := le_f hn
  have g2 : (nI n = nI 200) = False := eq_false (fun z => by have := (nI_eq (by omega) (by omega)).mp z; omega)
  have g3 : (w < d) = False := eq_false hlt
  unfold p219 repM
  rw [h0, h1, h2, h3, h4, h5, h6]
  simp (disch := omega) only [e1, e2, c9, g0, g1, g2, g3, lz200, lz100000, nI_1, nI_pred, hsI_ha, hsL_ha, hsR_ha, hI_I, hI_In, hL_L, hL_Ln, hR_R, hR_Rn, hL_I, hR_I, hT_I, hN_I, h1_I, h2_I, hI_L, hR_L, hT_L, hN_L, h1_L, h2_L, hI_R, hL_R, hT_R, hN_R, h1_R, h2_R, hI_W, hI_Wn, hL_W, hL_Wn, hR_W, hR_Wn, hT_W, hT_Wn, hN_W, hN_Wn, h1_W, h2_W, u1_eq, u1_ne, u1_u1, haI_I, ob, one0, eq_self, or_true, true_or, or_false, false_or, if_true, if_false]
theorem bilM_ok {h : HS} {n : Nat} {sh c co d now : Int32} (hn : n < 200) (e1 : hI h 86 33 = nI n) (e2 : hI h 86 1 = now) (h0 : p206 h sh = some 1) (h1 : p218 h c = some 1) (h2 : p187 h co 1 9999 = some 1) (h3 : p189 h d = some 1) : p239 h sh c co d = some (nI n, bilM n h sh c co d now) := by
  have c9 : (nI n).toNatClampNeg = n := nI_clamp (by omega)
  have g0 : (nI n < 0) = False := neg_nI (by omega)
  have g1 : (200 ≤ n) = False := le_f hn
  have g2 : (nI n = nI 200) = False := eq_false (fun z => by have := (nI_eq (by omega) (by omega)).mp z; omega)
  unfold p239 bilM
  rw [h0, h1, h2, h3]
  simp (disch := omega) only [e1, e2, c9, g0, g1, g2, lz200, lz100000, nI_1, nI_pred, hsI_ha, hsL_ha, hsR_ha, hI_I, hI_In, hL_L, hL_Ln, hR_R, hR_Rn, hL_I, hR_I, hT_I, hN_I, h1_I, h2_I, hI_L, hR_L, hT_L, hN_L, h1_L, h2_L, hI_R, hL_R, hT_R, hN_R, h1_R, h2_R, hI_W, hI_Wn, hL_W, hL_Wn, hR_W, hR_Wn, hT_W, hT_Wn, hN_W, hN_Wn, h1_W, h2_W, u1_eq, u1_ne, u1_u1, haI_I, ob, one0, eq_self, or_true, true_or, or_false, false_or, if_true, if_false]
theorem w_report (E : EV s h) (a0 a1 a2 a3 a4 a5 a6 : Int32) : (∃ v, p131 h a0 a1 a2 a3 a4 a5 a6 = some (v, h) ∧ p219 h a0 a1 a2 a3 a4 a5 a6 = some (v, h)) ∨ ∃ i c p act pl d w v, s 0 7 < 200 ∧ i < s 0 3 ∧ s 3 i = 100000 ∧ c < s 0 6 ∧ p < s 0 4 ∧ act < 32 ∧ pl ≤ 99 ∧ d ≤ w ∧ w ≤ 9999 ∧ a0 = nI i ∧ a1 = nI c ∧ a2 = nI p ∧ a3 = nI act ∧ a4 = nI pl ∧ a5 = nI d ∧ a6 = nI w ∧ p131 h a0 a1 a2 a3 a4 a5 a6 = some (v, (repC (s 0 7) h (s 30 i) (nI c) (nI p) (nI act) (nI pl) (nI d) (nI w) (nI (s 0 0)))) ∧ p219 (repC (s 0 7) h (s 30 i) (nI c) (nI p) (nI act) (nI pl) (nI d) (nI w) (nI (s 0 0))) a0 a1 a2 a3 a4 a5 a6 = some (v, repM (s 0 7) (repC (s 0 7) h (s 30 i) (nI c) (nI p) (nI act) (nI pl) (nI d) (nI w) (nI (s 0 0))) (nI i) (nI c) (nI p) (nI act) (nI pl) (nI d) (nI w) (nI (s 0 0))) := by
  have w1 : 160 ≤ h.1 := E.w.1
  have cb := E.cn.b7
  have c3 := E.cn.b3
  have e1 := E.cn.c7
  have e2 := E.cn.m7
  have e4 := E.cn.m4
  have e5 := E.cn.c0
  have e6 := E.cn.m0
  have e7 := E.cn.m6
  have e8 := E.cn.m3
  rcases whc E a0 with ⟨k1, k2⟩ | ⟨i, hi, hti, rfl, k1, k2⟩
  · by_cases hf : s 0 7 = 200
    · left
      refine ⟨-1, ?_, ?_⟩
      · unfold p131; rw [k1, ob, if_pos rfl]
      · unfold p219; rw [if_pos (show hI h 86 32 = 200 by rw [e2, hf]; rfl)]
    · left
      refine ⟨-1, ?_, ?_⟩
      · unfold p131; rw [k1, ob, if_pos rfl]
      · unfold p219; rw [if_neg (show ¬ hI h 86 32 = 200 by rw [e2]; exact fun z => hf ((nI_eq (b := 200) (by omega) (by omega)).mp z)), (k2 _ e8 rfl), ob, if_pos rfl]
  · by_cases hf : s 0 7 = 200
    · left
      refine ⟨-1, ?_, ?_⟩
      · unfold p131; rw [k1, ob, if_neg (by intro z; cases z), ob, if_neg (show ¬ hI h 50 3 < 200 by rw [e1]; exact nI_nlt (b := 200) (by omega) (by omega))]
      · unfold p219; rw [if_pos (show hI h 86 32 = 200 by rw [e2, hf]; rfl)]
    · rcases covc E a1 with ⟨k3, k4⟩ | ⟨c, hc, rfl, k3, k4⟩
      · left
        refine ⟨-1, ?_, ?_⟩
        · unfold p131; rw [k1, ob, if_neg (by intro z; cases z), ob, if_pos (show hI h 50 3 < 200 by rw [e1]; exact nI_lt (b := 200) (by omega) (by omega)), k3, ob, if_pos rfl]
        · unfold p219; rw [if_neg (show ¬ hI h 86 32 = 200 by rw [e2]; exact fun z => hf ((nI_eq (b := 200) (by omega) (by omega)).mp z)), (k2 _ e8 rfl), ob, if_neg (show ¬ (1 : Int32) = 0 by decide), (k4 _ e7), ob, if_pos rfl]
      · rcases perc E a2 with ⟨k5, k6⟩ | ⟨p, hp, rfl, k5, k6⟩
        · left
          refine ⟨-1, ?_, ?_⟩
          · unfold p131; rw [k1, ob, if_neg (by intro z; cases z), ob, if_pos (show hI h 50 3 < 200 by rw [e1]; exact nI_lt (b := 200) (by omega) (by omega)), k3, ob, if_neg (show ¬ (1 : Int32) = 0 by decide), k5, ob, if_pos rfl]
          · unfold p219; rw [if_neg (show ¬ hI h 86 32 = 200 by rw [e2]; exact fun z => hf ((nI_eq (b := 200) (by omega) (by omega)).mp z)), (k2 _ e8 rfl), ob, if_neg (show ¬ (1 : Int32) = 0 by decide), (k4 _ e7), ob, if_neg (show ¬ (1 : Int32) = 0 by decide), (k6 _ e4), ob, if_pos rfl]
        · rcases rngc a3 0 31 with ⟨k7, k8⟩ | ⟨k7, k8, y1, y2⟩
          · left
            refine ⟨-1, ?_, ?_⟩
            · unfold p131; rw [k1, ob, if_neg (by intro z; cases z), ob, if_pos (show hI h 50 3 < 200 by rw [e1]; exact nI_lt (b := 200) (by omega) (by omega)), k3, ob, if_neg (show ¬ (1 : Int32) = 0 by decide), k5, ob, if_neg (show ¬ (1 : Int32) = 0 by decide), k7 _, ob, if_pos rfl]
            · unfold p219; rw [if_neg (show ¬ hI h 86 32 = 200 by rw [e2]; exact fun z => hf ((nI_eq (b := 200) (by omega) (by omega)).mp z)), (k2 _ e8 rfl), ob, if_neg (show ¬ (1 : Int32) = 0 by decide), (k4 _ e7), ob, if_neg (show ¬ (1 : Int32) = 0 by decide), (k6 _ e4), ob, if_neg (show ¬ (1 : Int32) = 0 by decide), k8 _, ob, if_pos rfl]
          · obtain ⟨act, -, hact, rfl⟩ := le_of_nI (m := 0) (n := 31) (by decide) (by decide) y1 y2
            rcases rngc a4 0 99 with ⟨k9, k0⟩ | ⟨k9, k0, y1, y2⟩
            · left
              refine ⟨-1, ?_, ?_⟩
              · unfold p131; rw [k1, ob, if_neg (by intro z; cases z), ob, if_pos (show hI h 50 3 < 200 by rw [e1]; exact nI_lt (b := 200) (by omega) (by omega)), k3, ob, if_neg (show ¬ (1 : Int32) = 0 by decide), k5, ob, if_neg (show ¬ (1 : Int32) = 0 by decide), k7 _, ob, if_neg (show ¬ (1 : Int32) = 0 by decide), k9 _, ob, if_pos rfl]
              · unfold p219; rw [if_neg (show ¬ hI h 86 32 = 200 by rw [e2]; exact fun z => hf ((nI_eq (b := 200) (by omega) (by omega)).mp z)), (k2 _ e8 rfl), ob, if_neg (show ¬ (1 : Int32) = 0 by decide), (k4 _ e7), ob, if_neg (show ¬ (1 : Int32) = 0 by decide), (k6 _ e4), ob, if_neg (show ¬ (1 : Int32) = 0 by decide), k8 _, ob, if_neg (show ¬ (1 : Int32) = 0 by decide), k0 _, ob, if_pos rfl]
            · obtain ⟨pl, -, hpl, rfl⟩ := le_of_nI (m := 0) (n := 99) (by decide) (by decide) y1 y2
              rcases oldc a5 with ⟨ka, kb⟩ | ⟨d, hd, rfl, ka, kb⟩
              · left
                refine ⟨-1, ?_, ?_⟩
                · unfold p131; rw [k1, ob, if_neg (by intro z; cases z), ob, if_pos (show hI h 50 3 < 200 by rw [e1]; exact nI_lt (b := 200) (by omega) (by omega)), k3, ob, if_neg (show ¬ (1 : Int32) = 0 by decide), k5, ob, if_neg (show ¬ (1 : Int32) = 0 by decide), k7 _, ob, if_neg (show ¬ (1 : Int32) = 0 by decide), k9 _, ob, if_neg (show ¬ (1 : Int32) = 0 by decide), ka _, ob, if_pos rfl]
                · unfold p219; rw [if_neg (show ¬ hI h 86 32 = 200 by rw [e2]; exact fun z => hf ((nI_eq (b := 200) (by omega) (by omega)).mp z)), (k2 _ e8 rfl), ob, if_neg (show ¬ (1 : Int32) = 0 by decide), (k4 _ e7), ob, if_neg (show ¬ (1 : Int32) = 0 by decide), (k6 _ e4), ob, if_neg (show ¬ (1 : Int32) = 0 by decide), k8 _, ob, if_neg (show ¬ (1 : Int32) = 0 by decide), k0 _, ob, if_neg (show ¬ (1 : Int32) = 0 by decide), kb _, ob, if_pos rfl]
              · rcases frto d hd a6 with ⟨kc, kd | ⟨kd, ke⟩⟩ | ⟨w, hw1, hw2, rfl, kc, kd, ke⟩
                · left
                  refine ⟨-1, ?_, ?_⟩
                  · unfold p131; rw [k1, ob, if_neg (by intro z; cases z), ob, if_pos (show hI h 50 3 < 200 by rw [e1]; exact nI_lt (b := 200) (by omega) (by omega)), k3, ob, if_neg (show ¬ (1 : Int32) = 0 by decide), k5, ob, if_neg (show ¬ (1 : Int32) = 0 by decide), k7 _, ob, if_neg (show ¬ (1 : Int32) = 0 by decide), k9 _, ob, if_neg (show ¬ (1 : Int32) = 0 by decide), ka _, ob, if_neg (show ¬ (1 : Int32) = 0 by decide), kc _, ob, if_pos rfl]
                  · unfold p219; rw [if_neg (show ¬ hI h 86 32 = 200 by rw [e2]; exact fun z => hf ((nI_eq (b := 200) (by omega) (by omega)).mp z)), (k2 _ e8 rfl), ob, if_neg (show ¬ (1 : Int32) = 0 by decide), (k4 _ e7), ob, if_neg (show ¬ (1 : Int32) = 0 by decide), (k6 _ e4), ob, if_neg (show ¬ (1 : Int32) = 0 by decide), k8 _, ob, if_neg (show ¬ (1 : Int32) = 0 by decide), k0 _, ob, if_neg (show ¬ (1 : Int32) = 0 by decide), kb _, ob, if_neg (show ¬ (1 : Int32) = 0 by decide), kd _, ob, if_pos rfl]
                · left
                  refine ⟨-1, ?_, ?_⟩
                  · unfold p131; rw [k1, ob, if_neg (by intro z; cases z), ob, if_pos (show hI h 50 3 < 200 by rw [e1]; exact nI_lt (b := 200) (by omega) (by omega)), k3, ob, if_neg (show ¬ (1 : Int32) = 0 by decide), k5, ob, if_neg (show ¬ (1 : Int32) = 0 by decide), k7 _, ob, if_neg (show ¬ (1 : Int32) = 0 by decide), k9 _, ob, if_neg (show ¬ (1 : Int32) = 0 by decide), ka _, ob, if_neg (show ¬ (1 : Int32) = 0 by decide), kc _, ob, if_pos rfl]
                  · unfold p219; rw [if_neg (show ¬ hI h 86 32 = 200 by rw [e2]; exact fun z => hf ((nI_eq (b := 200) (by omega) (by omega)).mp z)), (k2 _ e8 rfl), ob, if_neg (show ¬ (1 : Int32) = 0 by decide), (k4 _ e7), ob, if_neg (show ¬ (1 : Int32) = 0 by decide), (k6 _ e4), ob, if_neg (show ¬ (1 : Int32) = 0 by decide), k8 _, ob, if_neg (show ¬ (1 : Int32) = 0 by decide), k0 _, ob, if_neg (show ¬ (1 : Int32) = 0 by decide), kb _, ob, if_neg (show ¬ (1 : Int32) = 0 by decide), kd _, ob, if_neg (show ¬ (1 : Int32) = 0 by decide), if_pos ke]
                · right
                  have lo := E.sh.lo hi
                  have up := E.sh.hi hi
                  have kx : hI (repC (s 0 7) h (s 30 i) (nI c) (nI p) (nI act) (nI pl) (nI d) (nI w) (nI (s 0 0))) 86 = hI h 86 ∧ hI (repC (s 0 7) h (s 30 i) (nI c) (nI p) (nI act) (nI pl) (nI d) (nI w) (nI (s 0 0))) 97 = hI h 97 := by
                    have k : ¬ 86 = h.1 := by omega
                    have k' : ¬ 97 = h.1 := by omega
                    unfold repC
                    constructor <;> simp (disch := omega) only [hsI_ha, hsR_ha, hI_In, hI_R, pap_In]
                  exact ⟨i, c, p, act, pl, d, w, nI (s 0 7), by omega, hi, hti, hc, hp, by omega, hpl, hw1, hw2, rfl, rfl, rfl, rfl, rfl, rfl, rfl, repC_ok w1 (by omega) lo (by omega) (E.sh.t hi) e1 e5 k1 k3 k5 (k7 _) (k9 _) (ka _) (kc _), repM_ok (by omega) (by rw [kx.1]; exact e2) (by rw [kx.1]; exact e6) (k2 _ (by rw [kx.1]; exact e8) kx.2) (k4 _ (by rw [kx.1]; exact e7)) (k6 _ (by rw [kx.1]; exact e4)) (k8 _) (k0 _) (kb _) (kd _) ke⟩
theorem w_bill (E : EV s h) (a0 a1 a2 a3 : Int32) : (∃ v, p140 h a0 a1 a2 a3 = some (v, h) ∧ p239 h a0 a1 a2 a3 = some (v, h)) ∨ ∃ i c co d v, s 0 8 < 200 ∧ i < s 0 3 ∧ s 3 i = 100000 ∧ c < s 0 6 ∧ co ≤ 9999 ∧ d ≤ 9999 ∧ a0 = nI i ∧ a1 = nI c ∧ a2 = nI co ∧ a3 = nI d ∧ p140 h a0 a1 a2 a3 = some (v, (bilC (s 0 8) h (s 30 i) (nI c) (nI co) (nI d) (nI (s 0 0)))) ∧ p239 (bilC (s 0 8) h (s 30 i) (nI c) (nI co) (nI d) (nI (s 0 0))) a0 a1 a2 a3 = some (v, bilM (s 0 8) (bilC (s 0 8) h (s 30 i) (nI c) (nI co) (nI d) (nI (s 0 0))) (nI i) (nI c) (nI co) (nI d) (nI (s 0 0))) := by
  have w1 : 160 ≤ h.1 := E.w.1
  have cb := E.cn.b8
  have c3 := E.cn.b3
  have e1 := E.cn.c8
  have e2 := E.cn.m8
  have e4 := E.cn.m4
  have e5 := E.cn.c0
  have e6 := E.cn.m0
  have e7 := E.cn.m6
  have e8 := E.cn.m3
  rcases whc E a0 with ⟨k1, k2⟩ | ⟨i, hi, hti, rfl, k1, k2⟩
  · by_cases hf : s 0 8 = 200
    · left
      refine ⟨-1, ?_, ?_⟩
      · unfold p140; rw [k1, ob, if_pos rfl]
      · unfold p239; rw [if_pos (show hI h 86 33 = 200 by rw [e2, hf]; rfl)]
    · left
      refine ⟨-1, ?_, ?_⟩
      · unfold p140; rw [k1, ob, if_pos rfl]
      · unfold p239; rw [if_neg (show ¬ hI h 86 33 = 200 by rw [e2]; exact fun z => hf ((nI_eq (b := 200) (by omega) (by omega)).mp z)), (k2 _ e8 rfl), ob, if_pos rfl]
  · by_cases hf : s 0 8 = 200
    · left
      refine ⟨-1, ?_, ?_⟩
      · unfold p140; rw [k1, ob, if_neg (by intro z; cases z), ob, if_neg (show ¬ hI h 50 4 < 200 by rw [e1]; exact nI_nlt (b := 200) (by omega) (by omega))]
      · unfold p239; rw [if_pos (show hI h 86 33 = 200 by rw [e2, hf]; rfl)]
    · rcases covc E a1 with ⟨k3, k4⟩ | ⟨c, hc, rfl, k3, k4⟩
      · left
        refine ⟨-1, ?_, ?_⟩
        · unfold p140; rw [k1, ob, if_neg (by intro z; cases z), ob, if_pos (show hI h 50 4 < 200 by rw [e1]; exact nI_lt (b := 200) (by omega) (by omega)), k3, ob, if_pos rfl]
        · unfold p239; rw [if_neg (show ¬ hI h 86 33 = 200 by rw [e2]; exact fun z => hf ((nI_eq (b := 200) (by omega) (by omega)).mp z)), (k2 _ e8 rfl), ob, if_neg (show ¬ (1 : Int32) = 0 by decide), (k4 _ e7), ob, if_pos rfl]
      · rcases rngc a2 1 9999 with ⟨k7, k8⟩ | ⟨k7, k8, y1, y2⟩
        · left
          refine ⟨-1, ?_, ?_⟩
          · unfold p140; rw [k1, ob, if_neg (by intro z; cases z), ob, if_pos (show hI h 50 4 < 200 by rw [e1]; exact nI_lt (b := 200) (by omega) (by omega)), k3, ob, if_neg (show ¬ (1 : Int32) = 0 by decide), k7 _, ob, if_pos rfl]
          · unfold p239; rw [if_neg (show ¬ hI h 86 33 = 200 by rw [e2]; exact fun z => hf ((nI_eq (b := 200) (by omega) (by omega)).mp z)), (k2 _ e8 rfl), ob, if_neg (show ¬ (1 : Int32) = 0 by decide), (k4 _ e7), ob, if_neg (show ¬ (1 : Int32) = 0 by decide), k8 _, ob, if_pos rfl]
        · obtain ⟨co, -, hco, rfl⟩ := le_of_nI (m := 1) (n := 9999) (by decide) (by decide) y1 y2
          rcases oldc a3 with ⟨ka, kb⟩ | ⟨d, hd, rfl, ka, kb⟩
          · left
            refine ⟨-1, ?_, ?_⟩
            · unfold p140; rw [k1, ob, if_neg (by intro z; cases z), ob, if_pos (show hI h 50 4 < 200 by rw [e1]; exact nI_lt (b := 200) (by omega) (by omega)), k3, ob, if_neg (show ¬ (1 : Int32) = 0 by decide), k7 _, ob, if_neg (show ¬ (1 : Int32) = 0 by decide), ka _, ob, if_pos rfl]
            · unfold p239; rw [if_neg (show ¬ hI h 86 33 = 200 by rw [e2]; exact fun z => hf ((nI_eq (b := 200) (by omega) (by omega)).mp z)), (k2 _ e8 rfl), ob, if_neg (show ¬ (1 : Int32) = 0 by decide), (k4 _ e7), ob, if_neg (show ¬ (1 : Int32) = 0 by decide), k8 _, ob, if_neg (show ¬ (1 : Int32) = 0 by decide), kb _, ob, if_pos rfl]
          · right
            have lo := E.sh.lo hi
            have up := E.sh.hi hi
            have kx : hI (bilC (s 0 8) h (s 30 i) (nI c) (nI co) (nI d) (nI (s 0 0))) 86 = hI h 86 ∧ hI (bilC (s 0 8) h (s 30 i) (nI c) (nI co) (nI d) (nI (s 0 0))) 97 = hI h 97 := by
              have k : ¬ 86 = h.1 := by omega
              have k' : ¬ 97 = h.1 := by omega
              unfold bilC
              constructor <;> simp (disch := omega) only [hsI_ha, hsR_ha, hI_In, hI_R, pap_In]
            exact ⟨i, c, co, d, nI (s 0 8), by omega, hi, hti, hc, hco, hd, rfl, rfl, rfl, rfl, bilC_ok w1 (by omega) lo (by omega) (E.sh.t hi) e1 e5 k1 k3 (k7 _) (ka _), bilM_ok (by omega) (by rw [kx.1]; exact e2) (by rw [kx.1]; exact e6) (k2 _ (by rw [kx.1]; exact e8) kx.2) (k4 _ (by rw [kx.1]; exact e7)) (k8 _) (kb _)⟩
end W5
