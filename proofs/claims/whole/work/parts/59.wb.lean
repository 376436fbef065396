/-! scraps: the state goes on -/
section W11
variable {s : SS} {h : HS}
theorem WF_I (h : HS) (a : Nat) (f : Nat → Int32) : WF (haI h a f) = WF h := by
  unfold WF
  rw [h1_I, hT_I, hN_I, hR_I]
theorem WF_L (h : HS) (a : Nat) (f : Nat → Int64) : WF (haL h a f) = WF h := by
  unfold WF
  rw [h1_L, hT_L, hN_L, hR_L]
def sc_scrap (s : SS) (h : HS) (i j : Nat) (x : Int64) : HS := scrM (s 0 2) (scrC (s 0 2) h (nI i) (nI j) x) (nI i) (nI j) x
theorem ev_scrap (E : EV s h) {i j : Nat} {x : Int64} (hs : s 0 2 < 200) : EV (u2 s 0 2 (s 0 2 + 1)) (sc_scrap s h i j x) := by
  unfold sc_scrap scrM scrC
  simp only [hsI_ha, hsL_ha]
  refine ⟨by simp only [WF_I, WF_L]; exact E.w, ?_, ?_, ?_, ?_, ?_⟩
  · have C := E.cn
    unfold CN at C ⊢
    simp (disch := omega) only [u2_u, u2_ne, hsI_ha, hsL_ha, hsR_ha, hI_I, hI_In, hL_L, hL_Ln, hR_R, hR_Rn, hL_I, hR_I, hT_I, hN_I, h1_I, h2_I, hI_L, hR_L, hT_L, hN_L, h1_L, h2_L, hI_R, hL_R, hT_R, hN_R, h1_R, h2_R, hI_W, hI_Wn, hL_W, hL_Wn, hR_W, hR_Wn, hT_W, hT_Wn, hN_W, hN_Wn, h1_W, h2_W, u1_eq, u1_ne, u1_u1, haI_I]
    simp (disch := omega) only [C, and_self, true_and, and_true]
    omega
  · intro i hi
    have hi : i < s 0 3 := by simpa (disch := omega) only [u2_u, u2_ne, hsI_ha, hsL_ha, hsR_ha, hI_I, hI_In, hL_L, hL_Ln, hR_R, hR_Rn, hL_I, hR_I, hT_I, hN_I, h1_I, h2_I, hI_L, hR_L, hT_L, hN_L, h1_L, h2_L, hI_R, hL_R, hT_R, hN_R, h1_R, h2_R, hI_W, hI_Wn, hL_W, hL_Wn, hR_W, hR_Wn, hT_W, hT_Wn, hN_W, hN_Wn, h1_W, h2_W, u1_eq, u1_ne, u1_u1, haI_I] using hi
    have lo := E.sh.lo hi
    have up := E.sh.hi hi
    simp (disch := omega) only [u2_u, u2_ne, hsI_ha, hsL_ha, hsR_ha, hI_I, hI_In, hL_L, hL_Ln, hR_R, hR_Rn, hL_I, hR_I, hT_I, hN_I, h1_I, h2_I, hI_L, hR_L, hT_L, hN_L, h1_L, h2_L, hI_R, hL_R, hT_R, hN_R, h1_R, h2_R, hI_W, hI_Wn, hL_W, hL_Wn, hR_W, hR_Wn, hT_W, hT_Wn, hN_W, hN_Wn, h1_W, h2_W, u1_eq, u1_ne, u1_u1, haI_I]
    exact E.sh i hi
  · intro i hi
    have hi : i < s 0 5 := by simpa (disch := omega) only [u2_u, u2_ne, hsI_ha, hsL_ha, hsR_ha, hI_I, hI_In, hL_L, hL_Ln, hR_R, hR_Rn, hL_I, hR_I, hT_I, hN_I, h1_I, h2_I, hI_L, hR_L, hT_L, hN_L, h1_L, h2_L, hI_R, hL_R, hT_R, hN_R, h1_R, h2_R, hI_W, hI_Wn, hL_W, hL_Wn, hR_W, hR_Wn, hT_W, hT_Wn, hN_W, hN_Wn, h1_W, h2_W, u1_eq, u1_ne, u1_u1, haI_I] using hi
    have lo := E.sn.lo hi
    have up := E.sn.hi hi
    simp (disch := omega) only [u2_u, u2_ne, hsI_ha, hsL_ha, hsR_ha, hI_I, hI_In, hL_L, hL_Ln, hR_R, hR_Rn, hL_I, hR_I, hT_I, hN_I, h1_I, h2_I, hI_L, hR_L, hT_L, hN_L, h1_L, h2_L, hI_R, hL_R, hT_R, hN_R, h1_R, h2_R, hI_W, hI_Wn, hL_W, hL_Wn, hR_W, hR_Wn, hT_W, hT_Wn, hN_W, hN_Wn, h1_W, h2_W, u1_eq, u1_ne, u1_u1, haI_I]
    exact E.sn i hi
  · intro i hi
    have hi : i < s 0 7 := by simpa (disch := omega) only [u2_u, u2_ne, hsI_ha, hsL_ha, hsR_ha, hI_I, hI_In, hL_L, hL_Ln, hR_R, hR_Rn, hL_I, hR_I, hT_I, hN_I, h1_I, h2_I, hI_L, hR_L, hT_L, hN_L, h1_L, h2_L, hI_R, hL_R, hT_R, hN_R, h1_R, h2_R, hI_W, hI_Wn, hL_W, hL_Wn, hR_W, hR_Wn, hT_W, hT_Wn, hN_W, hN_Wn, h1_W, h2_W, u1_eq, u1_ne, u1_u1, haI_I] using hi
    have lo := E.rp.lo hi
    have up := E.rp.hi hi
    have l2 := E.sh.lo (E.rp.b0 hi)
    simp (disch := omega) only [u2_u, u2_ne, hsI_ha, hsL_ha, hsR_ha, hI_I, hI_In, hL_L, hL_Ln, hR_R, hR_Rn, hL_I, hR_I, hT_I, hN_I, h1_I, h2_I, hI_L, hR_L, hT_L, hN_L, h1_L, h2_L, hI_R, hL_R, hT_R, hN_R, h1_R, h2_R, hI_W, hI_Wn, hL_W, hL_Wn, hR_W, hR_Wn, hT_W, hT_Wn, hN_W, hN_Wn, h1_W, h2_W, u1_eq, u1_ne, u1_u1, haI_I]
    exact E.rp i hi
  · intro i hi
    have hi : i < s 0 8 := by simpa (disch := omega) only [u2_u, u2_ne, hsI_ha, hsL_ha, hsR_ha, hI_I, hI_In, hL_L, hL_Ln, hR_R, hR_Rn, hL_I, hR_I, hT_I, hN_I, h1_I, h2_I, hI_L, hR_L, hT_L, hN_L, h1_L, h2_L, hI_R, hL_R, hT_R, hN_R, h1_R, h2_R, hI_W, hI_Wn, hL_W, hL_Wn, hR_W, hR_Wn, hT_W, hT_Wn, hN_W, hN_Wn, h1_W, h2_W, u1_eq, u1_ne, u1_u1, haI_I] using hi
    have lo := E.bl.lo hi
    have up := E.bl.hi hi
    have l2 := E.sh.lo (E.bl.b0 hi)
    simp (disch := omega) only [u2_u, u2_ne, hsI_ha, hsL_ha, hsR_ha, hI_I, hI_In, hL_L, hL_Ln, hR_R, hR_Rn, hL_I, hR_I, hT_I, hN_I, h1_I, h2_I, hI_L, hR_L, hT_L, hN_L, h1_L, h2_L, hI_R, hL_R, hT_R, hN_R, h1_R, h2_R, hI_W, hI_Wn, hL_W, hL_Wn, hR_W, hR_Wn, hT_W, hT_Wn, hN_W, hN_Wn, h1_W, h2_W, u1_eq, u1_ne, u1_u1, haI_I]
    exact E.bl i hi
theorem sc_sack_sc (E : EV s h) (S : SCc s h) {n : Nat} (h1 : 1 ≤ n) (h2 : n ≤ 999) : SCc (u2 s 0 1 (s 0 1 + 1)) (sc_sack s h n) := by
  have b1 := E.cn.b1
  have b2 := E.cn.b2
  unfold sc_sack
  obtain ⟨S1, S2, S3, S4, S5, S6⟩ := S
  refine ⟨?_, ?_, ?_, ?_, ?_, ?_⟩
  · simp (disch := omega) only [u2_u, u2_ne, hsI_ha, hsL_ha, hsR_ha, hI_I, hI_In, hL_L, hL_Ln, hR_R, hR_Rn, hL_I, hR_I, hT_I, hN_I, h1_I, h2_I, hI_L, hR_L, hT_L, hN_L, h1_L, h2_L, hI_R, hL_R, hT_R, hN_R, h1_R, h2_R, hI_W, hI_Wn, hL_W, hL_Wn, hR_W, hR_Wn, hT_W, hT_Wn, hN_W, hN_Wn, h1_W, h2_W, u1_eq, u1_ne, u1_u1, haI_I, S1]
  · simp (disch := omega) only [u2_u, u2_ne, hsI_ha, hsL_ha, hsR_ha, hI_I, hI_In, hL_L, hL_Ln, hR_R, hR_Rn, hL_I, hR_I, hT_I, hN_I, h1_I, h2_I, hI_L, hR_L, hT_L, hN_L, h1_L, h2_L, hI_R, hL_R, hT_R, hN_R, h1_R, h2_R, hI_W, hI_Wn, hL_W, hL_Wn, hR_W, hR_Wn, hT_W, hT_Wn, hN_W, hN_Wn, h1_W, h2_W, u1_eq, u1_ne, u1_u1, haI_I, S2]
  · simp (disch := omega) only [u2_u, u2_ne, hsI_ha, hsL_ha, hsR_ha, hI_I, hI_In, hL_L, hL_Ln, hR_R, hR_Rn, hL_I, hR_I, hT_I, hN_I, h1_I, h2_I, hI_L, hR_L, hT_L, hN_L, h1_L, h2_L, hI_R, hL_R, hT_R, hN_R, h1_R, h2_R, hI_W, hI_Wn, hL_W, hL_Wn, hR_W, hR_Wn, hT_W, hT_Wn, hN_W, hN_Wn, h1_W, h2_W, u1_eq, u1_ne, u1_u1, haI_I, S3]
  · simp (disch := omega) only [u2_u, u2_ne, hsI_ha, hsL_ha, hsR_ha, hI_I, hI_In, hL_L, hL_Ln, hR_R, hR_Rn, hL_I, hR_I, hT_I, hN_I, h1_I, h2_I, hI_L, hR_L, hT_L, hN_L, h1_L, h2_L, hI_R, hL_R, hT_R, hN_R, h1_R, h2_R, hI_W, hI_Wn, hL_W, hL_Wn, hR_W, hR_Wn, hT_W, hT_Wn, hN_W, hN_Wn, h1_W, h2_W, u1_eq, u1_ne, u1_u1, haI_I, S4]
  · intro i hi
    have hi : i < s 0 1 + 1 := by simpa (disch := omega) only [u2_u, u2_ne, hsI_ha, hsL_ha, hsR_ha, hI_I, hI_In, hL_L, hL_Ln, hR_R, hR_Rn, hL_I, hR_I, hT_I, hN_I, h1_I, h2_I, hI_L, hR_L, hT_L, hN_L, h1_L, h2_L, hI_R, hL_R, hT_R, hN_R, h1_R, h2_R, hI_W, hI_Wn, hL_W, hL_Wn, hR_W, hR_Wn, hT_W, hT_Wn, hN_W, hN_Wn, h1_W, h2_W, u1_eq, u1_ne, u1_u1, haI_I] using hi
    simp (disch := omega) only [u2_u, u2_ne, hsI_ha, hsL_ha, hsR_ha, hI_I, hI_In, hL_L, hL_Ln, hR_R, hR_Rn, hL_I, hR_I, hT_I, hN_I, h1_I, h2_I, hI_L, hR_L, hT_L, hN_L, h1_L, h2_L, hI_R, hL_R, hT_R, hN_R, h1_R, h2_R, hI_W, hI_Wn, hL_W, hL_Wn, hR_W, hR_Wn, hT_W, hT_Wn, hN_W, hN_Wn, h1_W, h2_W, u1_eq, u1_ne, u1_u1, haI_I]
    by_cases hh : i = s 0 1
    · subst hh
      exact ⟨n, h1, h2, by rw [u1_eq]⟩
    · rw [u1_ne hh]
      exact S5 i (by omega)
  · intro i hi
    have hi : i < s 0 2 := by simpa (disch := omega) only [u2_u, u2_ne, hsI_ha, hsL_ha, hsR_ha, hI_I, hI_In, hL_L, hL_Ln, hR_R, hR_Rn, hL_I, hR_I, hT_I, hN_I, h1_I, h2_I, hI_L, hR_L, hT_L, hN_L, h1_L, h2_L, hI_R, hL_R, hT_R, hN_R, h1_R, h2_R, hI_W, hI_Wn, hL_W, hL_Wn, hR_W, hR_Wn, hT_W, hT_Wn, hN_W, hN_Wn, h1_W, h2_W, u1_eq, u1_ne, u1_u1, haI_I] using hi
    simp (disch := omega) only [u2_u, u2_ne, hsI_ha, hsL_ha, hsR_ha, hI_I, hI_In, hL_L, hL_Ln, hR_R, hR_Rn, hL_I, hR_I, hT_I, hN_I, h1_I, h2_I, hI_L, hR_L, hT_L, hN_L, h1_L, h2_L, hI_R, hL_R, hT_R, hN_R, h1_R, h2_R, hI_W, hI_Wn, hL_W, hL_Wn, hR_W, hR_Wn, hT_W, hT_Wn, hN_W, hN_Wn, h1_W, h2_W, u1_eq, u1_ne, u1_u1, haI_I]
    obtain ⟨⟨q, q1, q2⟩, q3, q4⟩ := S6 i hi
    exact ⟨⟨q, by omega, q2⟩, q3, q4⟩
theorem sc_scrap_sc (E : EV s h) (S : SCc s h) {a b : Nat} {x : Int64} (hs : s 0 2 < 200) (ha : a < s 0 1) : SCc (u2 s 0 2 (s 0 2 + 1)) (sc_scrap s h a b x) := by
  have b1 := E.cn.b1
  unfold sc_scrap scrM scrC
  obtain ⟨S1, S2, S3, S4, S5, S6⟩ := S
  refine ⟨?_, ?_, ?_, ?_, ?_, ?_⟩
  · simp (disch := omega) only [u2_u, u2_ne, hsI_ha, hsL_ha, hsR_ha, hI_I, hI_In, hL_L, hL_Ln, hR_R, hR_Rn, hL_I, hR_I, hT_I, hN_I, h1_I, h2_I, hI_L, hR_L, hT_L, hN_L, h1_L, h2_L, hI_R, hL_R, hT_R, hN_R, h1_R, h2_R, hI_W, hI_Wn, hL_W, hL_Wn, hR_W, hR_Wn, hT_W, hT_Wn, hN_W, hN_Wn, h1_W, h2_W, u1_eq, u1_ne, u1_u1, haI_I, S1]
  · simp (disch := omega) only [u2_u, u2_ne, hsI_ha, hsL_ha, hsR_ha, hI_I, hI_In, hL_L, hL_Ln, hR_R, hR_Rn, hL_I, hR_I, hT_I, hN_I, h1_I, h2_I, hI_L, hR_L, hT_L, hN_L, h1_L, h2_L, hI_R, hL_R, hT_R, hN_R, h1_R, h2_R, hI_W, hI_Wn, hL_W, hL_Wn, hR_W, hR_Wn, hT_W, hT_Wn, hN_W, hN_Wn, h1_W, h2_W, u1_eq, u1_ne, u1_u1, haI_I, S2]
  · simp (disch := omega) only [u2_u, u2_ne, hsI_ha, hsL_ha, hsR_ha, hI_I, hI_In, hL_L, hL_Ln, hR_R, hR_Rn, hL_I, hR_I, hT_I, hN_I, h1_I, h2_I, hI_L, hR_L, hT_L, hN_L, h1_L, h2_L, hI_R, hL_R, hT_R, hN_R, h1_R, h2_R, hI_W, hI_Wn, hL_W, hL_Wn, hR_W, hR_Wn, hT_W, hT_Wn, hN_W, hN_Wn, h1_W, h2_W, u1_eq, u1_ne, u1_u1, haI_I, S3]
  · simp (disch := omega) only [u2_u, u2_ne, hsI_ha, hsL_ha, hsR_ha, hI_I, hI_In, hL_L, hL_Ln, hR_R, hR_Rn, hL_I, hR_I, hT_I, hN_I, h1_I, h2_I, hI_L, hR_L, hT_L, hN_L, h1_L, h2_L, hI_R, hL_R, hT_R, hN_R, h1_R, h2_R, hI_W, hI_Wn, hL_W, hL_Wn, hR_W, hR_Wn, hT_W, hT_Wn, hN_W, hN_Wn, h1_W, h2_W, u1_eq, u1_ne, u1_u1, haI_I, S4]
  · intro i hi
    have hi : i < s 0 1 := by simpa (disch := omega) only [u2_u, u2_ne, hsI_ha, hsL_ha, hsR_ha, hI_I, hI_In, hL_L, hL_Ln, hR_R, hR_Rn, hL_I, hR_I, hT_I, hN_I, h1_I, h2_I, hI_L, hR_L, hT_L, hN_L, h1_L, h2_L, hI_R, hL_R, hT_R, hN_R, h1_R, h2_R, hI_W, hI_Wn, hL_W, hL_Wn, hR_W, hR_Wn, hT_W, hT_Wn, hN_W, hN_Wn, h1_W, h2_W, u1_eq, u1_ne, u1_u1, haI_I] using hi
    simp (disch := omega) only [u2_u, u2_ne, hsI_ha, hsL_ha, hsR_ha, hI_I, hI_In, hL_L, hL_Ln, hR_R, hR_Rn, hL_I, hR_I, hT_I, hN_I, h1_I, h2_I, hI_L, hR_L, hT_L, hN_L, h1_L, h2_L, hI_R, hL_R, hT_R, hN_R, h1_R, h2_R, hI_W, hI_Wn, hL_W, hL_Wn, hR_W, hR_Wn, hT_W, hT_Wn, hN_W, hN_Wn, h1_W, h2_W, u1_eq, u1_ne, u1_u1, haI_I]
    exact S5 i hi
  · intro i hi
    have hi : i < s 0 2 + 1 := by simpa (disch := omega) only [u2_u, u2_ne, hsI_ha, hsL_ha, hsR_ha, hI_I, hI_In, hL_L, hL_Ln, hR_R, hR_Rn, hL_I, hR_I, hT_I, hN_I, h1_I, h2_I, hI_L, hR_L, hT_L, hN_L, h1_L, h2_L, hI_R, hL_R, hT_R, hN_R, h1_R, h2_R, hI_W, hI_Wn, hL_W, hL_Wn, hR_W, hR_Wn, hT_W, hT_Wn, hN_W, hN_Wn, h1_W, h2_W, u1_eq, u1_ne, u1_u1, haI_I] using hi
    simp (disch := omega) only [u2_u, u2_ne, hsI_ha, hsL_ha, hsR_ha, hI_I, hI_In, hL_L, hL_Ln, hR_R, hR_Rn, hL_I, hR_I, hT_I, hN_I, h1_I, h2_I, hI_L, hR_L, hT_L, hN_L, h1_L, h2_L, hI_R, hL_R, hT_R, hN_R, h1_R, h2_R, hI_W, hI_Wn, hL_W, hL_Wn, hR_W, hR_Wn, hT_W, hT_Wn, hN_W, hN_Wn, h1_W, h2_W, u1_eq, u1_ne, u1_u1, haI_I]
    by_cases hh : i = s 0 2
    · subst hh
      refine ⟨⟨a, ha, by rw [u1_eq]⟩, Or.inl (by rw [u1_eq]), fun k hk => ?_⟩
      rw [edgs_n _ _ _ _ _ hk, u1_eq]
    · obtain ⟨q1, q3, q4⟩ := S6 i (by omega)
      simp only [u1_ne hh]
      refine ⟨q1, q3, fun k hk => ?_⟩
      rw [edgs_o _ _ _ _ _ _ hh hk (by decide)]
      exact q4 k hk
end W11
