/-! the state goes on: sheets -/
section W19
variable {s : SS} {h : HS} {num came : Int32} {x : Nat}
theorem shn_Tt (e : x < h.1 ∨ h.1 + 6 ≤ x) : hT (shn h num came) x = hT h x := (shn_T e).1
theorem shn_Tn (e : x < h.1 ∨ h.1 + 6 ≤ x) : hN (shn h num came) x = hN h x := (shn_T e).2
theorem shn_A5 (h : HS) (num came : Int32) : hT (shn h num came) (h.1 + 5) = 20 ∧ hN (shn h num came) (h.1 + 5) = 20 := by
  have e : h.1 + 5 = (sq8 (hnew h 9 13 (fun _ => 0)) h.1).1 := by rw [sq8_1, h1_W]
  constructor
  · rw [shn, hsI_ha, hT_I, hsI_ha, hT_I, sqA, hsR_ha, hT_R, sq9, e]; exact hT_W _ _ _ _
  · rw [shn, hsI_ha, hN_I, hsI_ha, hN_I, sqA, hsR_ha, hN_R, sq9, e]; exact hN_W _ _ _ _
theorem shn_A4 (h : HS) (num came : Int32) : hT (shn h num came) (h.1 + 4) = 20 ∧ hN (shn h num came) (h.1 + 4) = 20 := by
  have e5 : ¬ h.1 + 4 = (sq8 (hnew h 9 13 (fun _ => 0)) h.1).1 := by rw [sq8_1, h1_W]; omega
  have e : h.1 + 4 = (sq6 (hnew h 9 13 (fun _ => 0)) h.1).1 := by rw [sq6_1, h1_W]
  constructor
  · rw [shn, hsI_ha, hT_I, hsI_ha, hT_I, sqA, hsR_ha, hT_R, sq9, hT_Wn e5, sq8, hsR_ha, hT_R, sq7, e]; exact hT_W _ _ _ _
  · rw [shn, hsI_ha, hN_I, hsI_ha, hN_I, sqA, hsR_ha, hN_R, sq9, hN_Wn e5, sq8, hsR_ha, hN_R, sq7, e]; exact hN_W _ _ _ _
theorem shn_A3 (h : HS) (num came : Int32) : hT (shn h num came) (h.1 + 3) = 20 ∧ hN (shn h num came) (h.1 + 3) = 20 := by
  have e5 : ¬ h.1 + 3 = (sq8 (hnew h 9 13 (fun _ => 0)) h.1).1 := by rw [sq8_1, h1_W]; omega
  have e4 : ¬ h.1 + 3 = (sq6 (hnew h 9 13 (fun _ => 0)) h.1).1 := by rw [sq6_1, h1_W]; omega
  have e : h.1 + 3 = (sq4 (hnew h 9 13 (fun _ => 0)) h.1).1 := by rw [sq4_1, h1_W]
  constructor
  · rw [shn, hsI_ha, hT_I, hsI_ha, hT_I, sqA, hsR_ha, hT_R, sq9, hT_Wn e5, sq8, hsR_ha, hT_R, sq7, hT_Wn e4, sq6, hsR_ha, hT_R, sq5, e]; exact hT_W _ _ _ _
  · rw [shn, hsI_ha, hN_I, hsI_ha, hN_I, sqA, hsR_ha, hN_R, sq9, hN_Wn e5, sq8, hsR_ha, hN_R, sq7, hN_Wn e4, sq6, hsR_ha, hN_R, sq5, e]; exact hN_W _ _ _ _
theorem shn_A2 (h : HS) (num came : Int32) : hT (shn h num came) (h.1 + 2) = 20 ∧ hN (shn h num came) (h.1 + 2) = 20 := by
  have e5 : ¬ h.1 + 2 = (sq8 (hnew h 9 13 (fun _ => 0)) h.1).1 := by rw [sq8_1, h1_W]; omega
  have e4 : ¬ h.1 + 2 = (sq6 (hnew h 9 13 (fun _ => 0)) h.1).1 := by rw [sq6_1, h1_W]; omega
  have e3 : ¬ h.1 + 2 = (sq4 (hnew h 9 13 (fun _ => 0)) h.1).1 := by rw [sq4_1, h1_W]; omega
  have e : h.1 + 2 = (sq2 (hnew h 9 13 (fun _ => 0)) h.1).1 := by rw [sq2_1, h1_W]
  constructor
  · rw [shn, hsI_ha, hT_I, hsI_ha, hT_I, sqA, hsR_ha, hT_R, sq9, hT_Wn e5, sq8, hsR_ha, hT_R, sq7, hT_Wn e4, sq6, hsR_ha, hT_R, sq5, hT_Wn e3, sq4, hsR_ha, hT_R, sq3, e]; exact hT_W _ _ _ _
  · rw [shn, hsI_ha, hN_I, hsI_ha, hN_I, sqA, hsR_ha, hN_R, sq9, hN_Wn e5, sq8, hsR_ha, hN_R, sq7, hN_Wn e4, sq6, hsR_ha, hN_R, sq5, hN_Wn e3, sq4, hsR_ha, hN_R, sq3, e]; exact hN_W _ _ _ _
theorem shn_A1 (h : HS) (num came : Int32) : hT (shn h num came) (h.1 + 1) = 23 ∧ hN (shn h num came) (h.1 + 1) = 20 := by
  have e5 : ¬ h.1 + 1 = (sq8 (hnew h 9 13 (fun _ => 0)) h.1).1 := by rw [sq8_1, h1_W]; omega
  have e4 : ¬ h.1 + 1 = (sq6 (hnew h 9 13 (fun _ => 0)) h.1).1 := by rw [sq6_1, h1_W]; omega
  have e3 : ¬ h.1 + 1 = (sq4 (hnew h 9 13 (fun _ => 0)) h.1).1 := by rw [sq4_1, h1_W]; omega
  have e2 : ¬ h.1 + 1 = (sq2 (hnew h 9 13 (fun _ => 0)) h.1).1 := by rw [sq2_1, h1_W]; omega
  have e : h.1 + 1 = (sq0 (hnew h 9 13 (fun _ => 0)) h.1).1 := by rw [sq0_1, h1_W]
  constructor
  · rw [shn, hsI_ha, hT_I, hsI_ha, hT_I, sqA, hsR_ha, hT_R, sq9, hT_Wn e5, sq8, hsR_ha, hT_R, sq7, hT_Wn e4, sq6, hsR_ha, hT_R, sq5, hT_Wn e3, sq4, hsR_ha, hT_R, sq3, hT_Wn e2, sq2, hsR_ha, hT_R, sq1, e]; exact hT_W _ _ _ _
  · rw [shn, hsI_ha, hN_I, hsI_ha, hN_I, sqA, hsR_ha, hN_R, sq9, hN_Wn e5, sq8, hsR_ha, hN_R, sq7, hN_Wn e4, sq6, hsR_ha, hN_R, sq5, hN_Wn e3, sq4, hsR_ha, hN_R, sq3, hN_Wn e2, sq2, hsR_ha, hN_R, sq1, e]; exact hN_W _ _ _ _
theorem WF_shn (w : WF h) : WF (shn h num came) := by
  have hF : F0r.getD h.1 [] = [] := (w.nw (t := 9) (n := 13) (f := fun _ => 0)).own (t := 9) (by simp only [hT_W]) (by decide)
  have w0 : WF (sq0 (hnew h 9 13 (fun _ => 0)) h.1) := by unfold sq0; simp only [hsI_ha, WF_I]; exact w.nw
  have w1 : WF (sq1 (hnew h 9 13 (fun _ => 0)) h.1) := by unfold sq1; exact w0.nw
  have w2 : WF (sq2 (hnew h 9 13 (fun _ => 0)) h.1) := by unfold sq2; exact w1.ra h.1 hF
  have w3 : WF (sq3 (hnew h 9 13 (fun _ => 0)) h.1) := by unfold sq3; exact w2.nw
  have w4 : WF (sq4 (hnew h 9 13 (fun _ => 0)) h.1) := by unfold sq4; exact w3.ra h.1 hF
  have w5 : WF (sq5 (hnew h 9 13 (fun _ => 0)) h.1) := by unfold sq5; exact w4.nw
  have w6 : WF (sq6 (hnew h 9 13 (fun _ => 0)) h.1) := by unfold sq6; exact w5.ra h.1 hF
  have w7 : WF (sq7 (hnew h 9 13 (fun _ => 0)) h.1) := by unfold sq7; exact w6.nw
  have w8 : WF (sq8 (hnew h 9 13 (fun _ => 0)) h.1) := by unfold sq8; exact w7.ra h.1 hF
  have w9 : WF (sq9 (hnew h 9 13 (fun _ => 0)) h.1) := by unfold sq9; exact w8.nw
  have w10 : WF (sqA (hnew h 9 13 (fun _ => 0)) h.1) := by unfold sqA; exact w9.ra h.1 hF
  unfold shn
  simp only [hsI_ha, WF_I]
  exact w10
def st_sheet (s : SS) (h : HS) : SS := u2 (u2 (u2 (u2 (u2 (u2 (u2 s 1 (s 0 3) (s 0 0)) 2 (s 0 3) 100000) 3 (s 0 3) 100000) 4 (s 0 3) 0) 5 (s 0 3) 0) 30 (s 0 3) h.1) 0 3 (s 0 3 + 1)
theorem nI_z : nI 0 = 0 := Eq.trans rfl rfl
theorem nI_tp : nI (dC 100000) = nI 4000 := Eq.trans rfl rfl
theorem ev_sheet (E : EV s h) (hn : s 0 3 < 200) (z1 : hI h 98 (s 0 3) = 0) (z2 : hI h 99 (s 0 3) = 0) : EV (st_sheet s h) (shtM (s 0 3) (shtC (s 0 3) h (nI (s 0 0))) (nI (s 0 0))) := by
  have w1 : 160 ≤ h.1 := E.w.1
  have b0 := E.cn.b0
  refine ⟨?_, ?_, ?_, ?_, ?_, ?_⟩
  · unfold shtM shtC
    simp only [hsI_ha, WF_I]
    exact WF.ra (WF_shn E.w) 49 (by decide)
  all_goals unfold shtM shtC st_sheet
  · have C := E.cn
    unfold CN at C ⊢
    simp (disch := omega) only [u2_u, u2_ne, hsI_ha, hsL_ha, hsR_ha, hI_I, hI_In, hL_L, hL_Ln, hR_R, hR_Rn, hL_I, hR_I, hT_I, hN_I, h1_I, h2_I, hI_L, hR_L, hT_L, hN_L, h1_L, h2_L, hI_R, hL_R, hT_R, hN_R, h1_R, h2_R, hI_W, hI_Wn, hL_W, hL_Wn, hR_W, hR_Wn, hT_W, hT_Wn, hN_W, hN_Wn, h1_W, h2_W, u1_eq, u1_ne, u1_u1, haI_I, shn_In, shn_R, shn_Tt, shn_Tn, shn_1]
    simp (disch := omega) only [C, and_self, true_and, and_true]
    omega
  · intro i hi
    have hi : i < s 0 3 + 1 := by simpa (disch := omega) only [u2_u, u2_ne, hsI_ha, hsL_ha, hsR_ha, hI_I, hI_In, hL_L, hL_Ln, hR_R, hR_Rn, hL_I, hR_I, hT_I, hN_I, h1_I, h2_I, hI_L, hR_L, hT_L, hN_L, h1_L, h2_L, hI_R, hL_R, hT_R, hN_R, h1_R, h2_R, hI_W, hI_Wn, hL_W, hL_Wn, hR_W, hR_Wn, hT_W, hT_Wn, hN_W, hN_Wn, h1_W, h2_W, u1_eq, u1_ne, u1_u1, haI_I] using hi
    by_cases hh : i = s 0 3
    · subst hh
      simp (disch := omega) only [u2_u, u2_ne, hsI_ha, hsL_ha, hsR_ha, hI_I, hI_In, hL_L, hL_Ln, hR_R, hR_Rn, hL_I, hR_I, hT_I, hN_I, h1_I, h2_I, hI_L, hR_L, hT_L, hN_L, h1_L, h2_L, hI_R, hL_R, hT_R, hN_R, h1_R, h2_R, hI_W, hI_Wn, hL_W, hL_Wn, hR_W, hR_Wn, hT_W, hT_Wn, hN_W, hN_Wn, h1_W, h2_W, u1_eq, u1_ne, u1_u1, haI_I, u1_eq, u1_ne, shn_In, shn_R, shn_Tt, shn_Tn, shn_1, shn_O, shn_OR, shn_OT, shn_A1, shn_A2, shn_A3, shn_A4, shn_A5]
      simp (disch := omega) only [nI_top, nI_z, z1, z2, ok_top, ok_now0 b0, dC_now b0, true_and, and_true, and_self]
      omega
    · have hi : i < s 0 3 := by omega
      have lo := E.sh.lo hi
      have up := E.sh.hi hi
      simp (disch := omega) only [u2_u, u2_ne, hsI_ha, hsL_ha, hsR_ha, hI_I, hI_In, hL_L, hL_Ln, hR_R, hR_Rn, hL_I, hR_I, hT_I, hN_I, h1_I, h2_I, hI_L, hR_L, hT_L, hN_L, h1_L, h2_L, hI_R, hL_R, hT_R, hN_R, h1_R, h2_R, hI_W, hI_Wn, hL_W, hL_Wn, hR_W, hR_Wn, hT_W, hT_Wn, hN_W, hN_Wn, h1_W, h2_W, u1_eq, u1_ne, u1_u1, haI_I, u1_ne, shn_In, shn_R, shn_Tt, shn_Tn, shn_1]
      have C := E.sh i hi
      simp only [C, and_self, true_and, and_true]
      omega
  · intro i hi
    have hi : i < s 0 5 := by simpa (disch := omega) only [u2_u, u2_ne, hsI_ha, hsL_ha, hsR_ha, hI_I, hI_In, hL_L, hL_Ln, hR_R, hR_Rn, hL_I, hR_I, hT_I, hN_I, h1_I, h2_I, hI_L, hR_L, hT_L, hN_L, h1_L, h2_L, hI_R, hL_R, hT_R, hN_R, h1_R, h2_R, hI_W, hI_Wn, hL_W, hL_Wn, hR_W, hR_Wn, hT_W, hT_Wn, hN_W, hN_Wn, h1_W, h2_W, u1_eq, u1_ne, u1_u1, haI_I, u1_ne, shn_In, shn_R, shn_Tt, shn_Tn, shn_1] using hi
    have lo := E.sn.lo hi
    have up := E.sn.hi hi
    simp (disch := omega) only [u2_u, u2_ne, hsI_ha, hsL_ha, hsR_ha, hI_I, hI_In, hL_L, hL_Ln, hR_R, hR_Rn, hL_I, hR_I, hT_I, hN_I, h1_I, h2_I, hI_L, hR_L, hT_L, hN_L, h1_L, h2_L, hI_R, hL_R, hT_R, hN_R, h1_R, h2_R, hI_W, hI_Wn, hL_W, hL_Wn, hR_W, hR_Wn, hT_W, hT_Wn, hN_W, hN_Wn, h1_W, h2_W, u1_eq, u1_ne, u1_u1, haI_I, u1_ne, shn_In, shn_R, shn_Tt, shn_Tn, shn_1]
    have C := E.sn i hi
    simp only [C, and_self, true_and, and_true]
    omega
  · intro i hi
    have hi : i < s 0 7 := by simpa (disch := omega) only [u2_u, u2_ne, hsI_ha, hsL_ha, hsR_ha, hI_I, hI_In, hL_L, hL_Ln, hR_R, hR_Rn, hL_I, hR_I, hT_I, hN_I, h1_I, h2_I, hI_L, hR_L, hT_L, hN_L, h1_L, h2_L, hI_R, hL_R, hT_R, hN_R, h1_R, h2_R, hI_W, hI_Wn, hL_W, hL_Wn, hR_W, hR_Wn, hT_W, hT_Wn, hN_W, hN_Wn, h1_W, h2_W, u1_eq, u1_ne, u1_u1, haI_I, u1_ne, shn_In, shn_R, shn_Tt, shn_Tn, shn_1] using hi
    have b := E.rp.b0 hi
    have lo := E.rp.lo hi
    have up := E.rp.hi hi
    have l2 := E.sh.lo (E.rp.b0 hi)
    simp (disch := omega) only [u2_u, u2_ne, hsI_ha, hsL_ha, hsR_ha, hI_I, hI_In, hL_L, hL_Ln, hR_R, hR_Rn, hL_I, hR_I, hT_I, hN_I, h1_I, h2_I, hI_L, hR_L, hT_L, hN_L, h1_L, h2_L, hI_R, hL_R, hT_R, hN_R, h1_R, h2_R, hI_W, hI_Wn, hL_W, hL_Wn, hR_W, hR_Wn, hT_W, hT_Wn, hN_W, hN_Wn, h1_W, h2_W, u1_eq, u1_ne, u1_u1, haI_I, u1_ne, shn_In, shn_R, shn_Tt, shn_Tn, shn_1]
    have C := E.rp i hi
    simp only [C, and_self, true_and, and_true]
    omega
  · intro i hi
    have hi : i < s 0 8 := by simpa (disch := omega) only [u2_u, u2_ne, hsI_ha, hsL_ha, hsR_ha, hI_I, hI_In, hL_L, hL_Ln, hR_R, hR_Rn, hL_I, hR_I, hT_I, hN_I, h1_I, h2_I, hI_L, hR_L, hT_L, hN_L, h1_L, h2_L, hI_R, hL_R, hT_R, hN_R, h1_R, h2_R, hI_W, hI_Wn, hL_W, hL_Wn, hR_W, hR_Wn, hT_W, hT_Wn, hN_W, hN_Wn, h1_W, h2_W, u1_eq, u1_ne, u1_u1, haI_I, u1_ne, shn_In, shn_R, shn_Tt, shn_Tn, shn_1] using hi
    have b := E.bl.b0 hi
    have lo := E.bl.lo hi
    have up := E.bl.hi hi
    have l2 := E.sh.lo (E.bl.b0 hi)
    simp (disch := omega) only [u2_u, u2_ne, hsI_ha, hsL_ha, hsR_ha, hI_I, hI_In, hL_L, hL_Ln, hR_R, hR_Rn, hL_I, hR_I, hT_I, hN_I, h1_I, h2_I, hI_L, hR_L, hT_L, hN_L, h1_L, h2_L, hI_R, hL_R, hT_R, hN_R, h1_R, h2_R, hI_W, hI_Wn, hL_W, hL_Wn, hR_W, hR_Wn, hT_W, hT_Wn, hN_W, hN_Wn, h1_W, h2_W, u1_eq, u1_ne, u1_u1, haI_I, u1_ne, shn_In, shn_R, shn_Tt, shn_Tn, shn_1]
    have C := E.bl i hi
    simp only [C, and_self, true_and, and_true]
    omega
end W19
