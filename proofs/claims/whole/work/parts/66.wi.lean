/-! the state goes on: reports, bills -/
section W18
variable {s : SS} {h : HS}
def st_report (s : SS) (h : HS) (w c p act pl d wr : Nat) : SS := u2 (u2 (u2 (u2 (u2 (u2 (u2 (u2 (u2 (u2 (u2 s 12 (s 0 7) w) 13 (s 0 7) c) 14 (s 0 7) p) 15 (s 0 7) act) 16 (s 0 7) pl) 17 (s 0 7) d) 18 (s 0 7) wr) 19 (s 0 7) (s 0 0)) 20 (s 0 7) 100000) 32 (s 0 7) h.1) 0 7 (s 0 7 + 1)
def st_bill (s : SS) (h : HS) (w c co : Nat) : SS := u2 (u2 (u2 (u2 (u2 (u2 (u2 s 21 (s 0 8) w) 22 (s 0 8) c) 23 (s 0 8) co) 24 (s 0 8) (s 0 0)) 25 (s 0 8) 100000) 33 (s 0 8) h.1) 0 8 (s 0 8 + 1)
theorem ev_report (E : EV s h) (D : DI s) {w c p act pl d wr : Nat} (hn : s 0 7 < 200) (hw : w < s 0 3) (hop : s 3 w = 100000) (hc : c < s 0 6) (hp : p < s 0 4) (hact : act < 32) (hpl : pl ≤ 99) (hdw : d ≤ wr) (hwr : wr ≤ 9999) : EV (st_report s h w c p act pl d wr) (repM (s 0 7) (repC (s 0 7) h (s 30 w) (nI c) (nI p) (nI act) (nI pl) (nI d) (nI wr) (nI (s 0 0))) (nI w) (nI c) (nI p) (nI act) (nI pl) (nI d) (nI wr) (nI (s 0 0))) := by
  have w1 : 160 ≤ h.1 := E.w.1
  have b0 := E.cn.b0
  have lw := E.sh.lo hw
  have uw := E.sh.hi hw
  refine ⟨?_, ?_, ?_, ?_, ?_, ?_⟩
  · unfold repM repC
    simp only [hsI_ha, WF_I]
    exact WF.ra (by simp only [WF_I]; exact WF_pap E.w) 54 (by decide)
  all_goals unfold repM repC pap st_report
  · have C := E.cn
    unfold CN at C ⊢
    simp (disch := omega) only [u2_u, u2_ne, hsI_ha, hsL_ha, hsR_ha, hI_I, hI_In, hL_L, hL_Ln, hR_R, hR_Rn, hL_I, hR_I, hT_I, hN_I, h1_I, h2_I, hI_L, hR_L, hT_L, hN_L, h1_L, h2_L, hI_R, hL_R, hT_R, hN_R, h1_R, h2_R, hI_W, hI_Wn, hL_W, hL_Wn, hR_W, hR_Wn, hT_W, hT_Wn, hN_W, hN_Wn, h1_W, h2_W, u1_eq, u1_ne, u1_u1, haI_I]
    simp (disch := omega) only [C, and_self, true_and, and_true]
    omega
  · intro i hi
    have hi : i < s 0 3 := by simpa (disch := omega) only [u2_u, u2_ne, hsI_ha, hsL_ha, hsR_ha, hI_I, hI_In, hL_L, hL_Ln, hR_R, hR_Rn, hL_I, hR_I, hT_I, hN_I, h1_I, h2_I, hI_L, hR_L, hT_L, hN_L, h1_L, h2_L, hI_R, hL_R, hT_R, hN_R, h1_R, h2_R, hI_W, hI_Wn, hL_W, hL_Wn, hR_W, hR_Wn, hT_W, hT_Wn, hN_W, hN_Wn, h1_W, h2_W, u1_eq, u1_ne, u1_u1, haI_I] using hi
    have lo := E.sh.lo hi
    have up := E.sh.hi hi
    by_cases hh : i = w
    · subst hh
      simp (disch := omega) only [u2_u, u2_ne, hsI_ha, hsL_ha, hsR_ha, hI_I, hI_In, hL_L, hL_Ln, hR_R, hR_Rn, hL_I, hR_I, hT_I, hN_I, h1_I, h2_I, hI_L, hR_L, hT_L, hN_L, h1_L, h2_L, hI_R, hL_R, hT_R, hN_R, h1_R, h2_R, hI_W, hI_Wn, hL_W, hL_Wn, hR_W, hR_Wn, hT_W, hT_Wn, hN_W, hN_Wn, h1_W, h2_W, u1_eq, u1_ne, u1_u1, haI_I, u1_ne]
      have C := E.sh i hi
      simp only [C, and_self, true_and, and_true]
      omega
    · have d : s 30 i + 6 ≤ s 30 w ∨ s 30 w + 6 ≤ s 30 i := D.2.2.2.1 i w hi hw hh
      simp (disch := omega) only [u2_u, u2_ne, hsI_ha, hsL_ha, hsR_ha, hI_I, hI_In, hL_L, hL_Ln, hR_R, hR_Rn, hL_I, hR_I, hT_I, hN_I, h1_I, h2_I, hI_L, hR_L, hT_L, hN_L, h1_L, h2_L, hI_R, hL_R, hT_R, hN_R, h1_R, h2_R, hI_W, hI_Wn, hL_W, hL_Wn, hR_W, hR_Wn, hT_W, hT_Wn, hN_W, hN_Wn, h1_W, h2_W, u1_eq, u1_ne, u1_u1, haI_I, u1_ne]
      have C := E.sh i hi
      simp only [C, and_self, true_and, and_true]
      omega
  · intro i hi
    have hi : i < s 0 5 := by simpa (disch := omega) only [u2_u, u2_ne, hsI_ha, hsL_ha, hsR_ha, hI_I, hI_In, hL_L, hL_Ln, hR_R, hR_Rn, hL_I, hR_I, hT_I, hN_I, h1_I, h2_I, hI_L, hR_L, hT_L, hN_L, h1_L, h2_L, hI_R, hL_R, hT_R, hN_R, h1_R, h2_R, hI_W, hI_Wn, hL_W, hL_Wn, hR_W, hR_Wn, hT_W, hT_Wn, hN_W, hN_Wn, h1_W, h2_W, u1_eq, u1_ne, u1_u1, haI_I] using hi
    have dd : ¬ s 31 i = s 30 w := fun z => by
      have q := E.sn.t hi
      rw [z, E.sh.t hw] at q
      exact absurd q (by decide)
    have lo := E.sn.lo hi
    have up := E.sn.hi hi
    simp (disch := omega) only [u2_u, u2_ne, hsI_ha, hsL_ha, hsR_ha, hI_I, hI_In, hL_L, hL_Ln, hR_R, hR_Rn, hL_I, hR_I, hT_I, hN_I, h1_I, h2_I, hI_L, hR_L, hT_L, hN_L, h1_L, h2_L, hI_R, hL_R, hT_R, hN_R, h1_R, h2_R, hI_W, hI_Wn, hL_W, hL_Wn, hR_W, hR_Wn, hT_W, hT_Wn, hN_W, hN_Wn, h1_W, h2_W, u1_eq, u1_ne, u1_u1, haI_I]
    have C := E.sn i hi
    simp only [C, and_self, true_and, and_true]
    omega
  · intro i hi
    have hi : i < s 0 7 + 1 := by simpa (disch := omega) only [u2_u, u2_ne, hsI_ha, hsL_ha, hsR_ha, hI_I, hI_In, hL_L, hL_Ln, hR_R, hR_Rn, hL_I, hR_I, hT_I, hN_I, h1_I, h2_I, hI_L, hR_L, hT_L, hN_L, h1_L, h2_L, hI_R, hL_R, hT_R, hN_R, h1_R, h2_R, hI_W, hI_Wn, hL_W, hL_Wn, hR_W, hR_Wn, hT_W, hT_Wn, hN_W, hN_Wn, h1_W, h2_W, u1_eq, u1_ne, u1_u1, haI_I] using hi
    by_cases hh : i = s 0 7
    · subst hh
      simp (disch := omega) only [u2_u, u2_ne, hsI_ha, hsL_ha, hsR_ha, hI_I, hI_In, hL_L, hL_Ln, hR_R, hR_Rn, hL_I, hR_I, hT_I, hN_I, h1_I, h2_I, hI_L, hR_L, hT_L, hN_L, h1_L, h2_L, hI_R, hL_R, hT_R, hN_R, h1_R, h2_R, hI_W, hI_Wn, hL_W, hL_Wn, hR_W, hR_Wn, hT_W, hT_Wn, hN_W, hN_Wn, h1_W, h2_W, u1_eq, u1_ne, u1_u1, haI_I, u1_eq, u1_ne]
      simp (disch := omega) only [nI_top, ok_top, ok_now0 b0, dC_now b0, hw, hop, hc, hp, hact, hpl, hdw, hwr, true_and, and_true, and_self, true_or]
      omega
    · have hi : i < s 0 7 := by omega
      have lo := E.rp.lo hi
      have up := E.rp.hi hi
      have dd : ¬ s 32 i = s 30 w := fun z => by
        have q := E.rp.t hi
        rw [z, E.sh.t hw] at q
        exact absurd q (by decide)
      simp (disch := omega) only [u2_u, u2_ne, hsI_ha, hsL_ha, hsR_ha, hI_I, hI_In, hL_L, hL_Ln, hR_R, hR_Rn, hL_I, hR_I, hT_I, hN_I, h1_I, h2_I, hI_L, hR_L, hT_L, hN_L, h1_L, h2_L, hI_R, hL_R, hT_R, hN_R, h1_R, h2_R, hI_W, hI_Wn, hL_W, hL_Wn, hR_W, hR_Wn, hT_W, hT_Wn, hN_W, hN_Wn, h1_W, h2_W, u1_eq, u1_ne, u1_u1, haI_I, u1_ne]
      have C := E.rp i hi
      simp only [C, and_self, true_and, and_true]
      omega
  · intro i hi
    have hi : i < s 0 8 := by simpa (disch := omega) only [u2_u, u2_ne, hsI_ha, hsL_ha, hsR_ha, hI_I, hI_In, hL_L, hL_Ln, hR_R, hR_Rn, hL_I, hR_I, hT_I, hN_I, h1_I, h2_I, hI_L, hR_L, hT_L, hN_L, h1_L, h2_L, hI_R, hL_R, hT_R, hN_R, h1_R, h2_R, hI_W, hI_Wn, hL_W, hL_Wn, hR_W, hR_Wn, hT_W, hT_Wn, hN_W, hN_Wn, h1_W, h2_W, u1_eq, u1_ne, u1_u1, haI_I] using hi
    have dd : ¬ s 33 i = s 30 w := fun z => by
      have q := E.bl.t hi
      rw [z, E.sh.t hw] at q
      exact absurd q (by decide)
    have lo := E.bl.lo hi
    have up := E.bl.hi hi
    have l2 := E.sh.lo (E.bl.b0 hi)
    simp (disch := omega) only [u2_u, u2_ne, hsI_ha, hsL_ha, hsR_ha, hI_I, hI_In, hL_L, hL_Ln, hR_R, hR_Rn, hL_I, hR_I, hT_I, hN_I, h1_I, h2_I, hI_L, hR_L, hT_L, hN_L, h1_L, h2_L, hI_R, hL_R, hT_R, hN_R, h1_R, h2_R, hI_W, hI_Wn, hL_W, hL_Wn, hR_W, hR_Wn, hT_W, hT_Wn, hN_W, hN_Wn, h1_W, h2_W, u1_eq, u1_ne, u1_u1, haI_I]
    have C := E.bl i hi
    simp only [C, and_self, true_and, and_true]
    omega
theorem ev_bill (E : EV s h) (D : DI s) {w c co d : Nat} (hn : s 0 8 < 200) (hw : w < s 0 3) (hc : c < s 0 6) (hco : co ≤ 9999) : EV (st_bill s h w c co) (bilM (s 0 8) (bilC (s 0 8) h (s 30 w) (nI c) (nI co) (nI d) (nI (s 0 0))) (nI w) (nI c) (nI co) (nI d) (nI (s 0 0))) := by
  have w1 : 160 ≤ h.1 := E.w.1
  have b0 := E.cn.b0
  have lw := E.sh.lo hw
  have uw := E.sh.hi hw
  refine ⟨?_, ?_, ?_, ?_, ?_, ?_⟩
  · unfold bilM bilC
    simp only [hsI_ha, WF_I]
    exact WF.ra (by simp only [WF_I]; exact WF_pap E.w) 55 (by decide)
  all_goals unfold bilM bilC pap st_bill
  · have C := E.cn
    unfold CN at C ⊢
    simp (disch := omega) only [u2_u, u2_ne, hsI_ha, hsL_ha, hsR_ha, hI_I, hI_In, hL_L, hL_Ln, hR_R, hR_Rn, hL_I, hR_I, hT_I, hN_I, h1_I, h2_I, hI_L, hR_L, hT_L, hN_L, h1_L, h2_L, hI_R, hL_R, hT_R, hN_R, h1_R, h2_R, hI_W, hI_Wn, hL_W, hL_Wn, hR_W, hR_Wn, hT_W, hT_Wn, hN_W, hN_Wn, h1_W, h2_W, u1_eq, u1_ne, u1_u1, haI_I]
    simp (disch := omega) only [C, and_self, true_and, and_true]
    omega
  · intro i hi
    have hi : i < s 0 3 := by simpa (disch := omega) only [u2_u, u2_ne, hsI_ha, hsL_ha, hsR_ha, hI_I, hI_In, hL_L, hL_Ln, hR_R, hR_Rn, hL_I, hR_I, hT_I, hN_I, h1_I, h2_I, hI_L, hR_L, hT_L, hN_L, h1_L, h2_L, hI_R, hL_R, hT_R, hN_R, h1_R, h2_R, hI_W, hI_Wn, hL_W, hL_Wn, hR_W, hR_Wn, hT_W, hT_Wn, hN_W, hN_Wn, h1_W, h2_W, u1_eq, u1_ne, u1_u1, haI_I] using hi
    have lo := E.sh.lo hi
    have up := E.sh.hi hi
    by_cases hh : i = w
    · subst hh
      simp (disch := omega) only [u2_u, u2_ne, hsI_ha, hsL_ha, hsR_ha, hI_I, hI_In, hL_L, hL_Ln, hR_R, hR_Rn, hL_I, hR_I, hT_I, hN_I, h1_I, h2_I, hI_L, hR_L, hT_L, hN_L, h1_L, h2_L, hI_R, hL_R, hT_R, hN_R, h1_R, h2_R, hI_W, hI_Wn, hL_W, hL_Wn, hR_W, hR_Wn, hT_W, hT_Wn, hN_W, hN_Wn, h1_W, h2_W, u1_eq, u1_ne, u1_u1, haI_I, u1_ne]
      have C := E.sh i hi
      simp only [C, and_self, true_and, and_true]
      omega
    · have d : s 30 i + 6 ≤ s 30 w ∨ s 30 w + 6 ≤ s 30 i := D.2.2.2.1 i w hi hw hh
      simp (disch := omega) only [u2_u, u2_ne, hsI_ha, hsL_ha, hsR_ha, hI_I, hI_In, hL_L, hL_Ln, hR_R, hR_Rn, hL_I, hR_I, hT_I, hN_I, h1_I, h2_I, hI_L, hR_L, hT_L, hN_L, h1_L, h2_L, hI_R, hL_R, hT_R, hN_R, h1_R, h2_R, hI_W, hI_Wn, hL_W, hL_Wn, hR_W, hR_Wn, hT_W, hT_Wn, hN_W, hN_Wn, h1_W, h2_W, u1_eq, u1_ne, u1_u1, haI_I, u1_ne]
      have C := E.sh i hi
      simp only [C, and_self, true_and, and_true]
      omega
  · intro i hi
    have hi : i < s 0 5 := by simpa (disch := omega) only [u2_u, u2_ne, hsI_ha, hsL_ha, hsR_ha, hI_I, hI_In, hL_L, hL_Ln, hR_R, hR_Rn, hL_I, hR_I, hT_I, hN_I, h1_I, h2_I, hI_L, hR_L, hT_L, hN_L, h1_L, h2_L, hI_R, hL_R, hT_R, hN_R, h1_R, h2_R, hI_W, hI_Wn, hL_W, hL_Wn, hR_W, hR_Wn, hT_W, hT_Wn, hN_W, hN_Wn, h1_W, h2_W, u1_eq, u1_ne, u1_u1, haI_I] using hi
    have dd : ¬ s 31 i = s 30 w := fun z => by
      have q := E.sn.t hi
      rw [z, E.sh.t hw] at q
      exact absurd q (by decide)
    have lo := E.sn.lo hi
    have up := E.sn.hi hi
    simp (disch := omega) only [u2_u, u2_ne, hsI_ha, hsL_ha, hsR_ha, hI_I, hI_In, hL_L, hL_Ln, hR_R, hR_Rn, hL_I, hR_I, hT_I, hN_I, h1_I, h2_I, hI_L, hR_L, hT_L, hN_L, h1_L, h2_L, hI_R, hL_R, hT_R, hN_R, h1_R, h2_R, hI_W, hI_Wn, hL_W, hL_Wn, hR_W, hR_Wn, hT_W, hT_Wn, hN_W, hN_Wn, h1_W, h2_W, u1_eq, u1_ne, u1_u1, haI_I]
    have C := E.sn i hi
    simp only [C, and_self, true_and, and_true]
    omega
  · intro i hi
    have hi : i < s 0 7 := by simpa (disch := omega) only [u2_u, u2_ne, hsI_ha, hsL_ha, hsR_ha, hI_I, hI_In, hL_L, hL_Ln, hR_R, hR_Rn, hL_I, hR_I, hT_I, hN_I, h1_I, h2_I, hI_L, hR_L, hT_L, hN_L, h1_L, h2_L, hI_R, hL_R, hT_R, hN_R, h1_R, h2_R, hI_W, hI_Wn, hL_W, hL_Wn, hR_W, hR_Wn, hT_W, hT_Wn, hN_W, hN_Wn, h1_W, h2_W, u1_eq, u1_ne, u1_u1, haI_I] using hi
    have dd : ¬ s 32 i = s 30 w := fun z => by
      have q := E.rp.t hi
      rw [z, E.sh.t hw] at q
      exact absurd q (by decide)
    have lo := E.rp.lo hi
    have up := E.rp.hi hi
    have l2 := E.sh.lo (E.rp.b0 hi)
    simp (disch := omega) only [u2_u, u2_ne, hsI_ha, hsL_ha, hsR_ha, hI_I, hI_In, hL_L, hL_Ln, hR_R, hR_Rn, hL_I, hR_I, hT_I, hN_I, h1_I, h2_I, hI_L, hR_L, hT_L, hN_L, h1_L, h2_L, hI_R, hL_R, hT_R, hN_R, h1_R, h2_R, hI_W, hI_Wn, hL_W, hL_Wn, hR_W, hR_Wn, hT_W, hT_Wn, hN_W, hN_Wn, h1_W, h2_W, u1_eq, u1_ne, u1_u1, haI_I]
    have C := E.rp i hi
    simp only [C, and_self, true_and, and_true]
    omega
  · intro i hi
    have hi : i < s 0 8 + 1 := by simpa (disch := omega) only [u2_u, u2_ne, hsI_ha, hsL_ha, hsR_ha, hI_I, hI_In, hL_L, hL_Ln, hR_R, hR_Rn, hL_I, hR_I, hT_I, hN_I, h1_I, h2_I, hI_L, hR_L, hT_L, hN_L, h1_L, h2_L, hI_R, hL_R, hT_R, hN_R, h1_R, h2_R, hI_W, hI_Wn, hL_W, hL_Wn, hR_W, hR_Wn, hT_W, hT_Wn, hN_W, hN_Wn, h1_W, h2_W, u1_eq, u1_ne, u1_u1, haI_I] using hi
    by_cases hh : i = s 0 8
    · subst hh
      simp (disch := omega) only [u2_u, u2_ne, hsI_ha, hsL_ha, hsR_ha, hI_I, hI_In, hL_L, hL_Ln, hR_R, hR_Rn, hL_I, hR_I, hT_I, hN_I, h1_I, h2_I, hI_L, hR_L, hT_L, hN_L, h1_L, h2_L, hI_R, hL_R, hT_R, hN_R, h1_R, h2_R, hI_W, hI_Wn, hL_W, hL_Wn, hR_W, hR_Wn, hT_W, hT_Wn, hN_W, hN_Wn, h1_W, h2_W, u1_eq, u1_ne, u1_u1, haI_I, u1_eq, u1_ne]
      simp (disch := omega) only [nI_top, ok_top, ok_now0 b0, dC_now b0, hw, hc, hco, true_and, and_true, and_self, true_or]
      omega
    · have hi : i < s 0 8 := by omega
      have lo := E.bl.lo hi
      have up := E.bl.hi hi
      have dd : ¬ s 33 i = s 30 w := fun z => by
        have q := E.bl.t hi
        rw [z, E.sh.t hw] at q
        exact absurd q (by decide)
      simp (disch := omega) only [u2_u, u2_ne, hsI_ha, hsL_ha, hsR_ha, hI_I, hI_In, hL_L, hL_Ln, hR_R, hR_Rn, hL_I, hR_I, hT_I, hN_I, h1_I, h2_I, hI_L, hR_L, hT_L, hN_L, h1_L, h2_L, hI_R, hL_R, hT_R, hN_R, h1_R, h2_R, hI_W, hI_Wn, hL_W, hL_Wn, hR_W, hR_Wn, hT_W, hT_Wn, hN_W, hN_Wn, h1_W, h2_W, u1_eq, u1_ne, u1_u1, haI_I, u1_ne]
      have C := E.bl i hi
      simp only [C, and_self, true_and, and_true]
      omega
end W18
