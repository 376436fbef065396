/-! the counts a sheet keeps -/
theorem cnt_push (f : Nat → Nat) (n v i : Nat) : cnt (fun k => decide (u1 f n v k = i)) (n + 1) = cnt (fun k => decide (f k = i)) n + (if v = i then 1 else 0) := by
  rw [cnt, cnt_congr (Q := fun k => decide (f k = i)) (fun k hk => by rw [u1_ne (by omega)]), u1_eq]
  by_cases e : v = i
  · rw [decide_eq_true e, if_pos rfl, if_pos e]
  · rw [decide_eq_false e, if_neg e]; rfl
section W21
variable {s : SS} {h : HS}
theorem ct_report (E : EV s h) (D : DI s) (C : CTc s h) {w c p act pl d wr : Nat} (hw : w < s 0 3) : CTc (st_report s h w c p act pl d wr) (repM (s 0 7) (repC (s 0 7) h (s 30 w) (nI c) (nI p) (nI act) (nI pl) (nI d) (nI wr) (nI (s 0 0))) (nI w) (nI c) (nI p) (nI act) (nI pl) (nI d) (nI wr) (nI (s 0 0))) := by
  have w1 : 160 ≤ h.1 := E.w.1
  have lw := E.sh.lo hw
  have uw := E.sh.hi hw
  unfold repM repC pap st_report
  intro i hi
  have hi : i < s 0 3 := by simpa (disch := omega) only [u2_u, u2_ne, hsI_ha, hsL_ha, hsR_ha, hI_I, hI_In, hL_L, hL_Ln, hR_R, hR_Rn, hL_I, hR_I, hT_I, hN_I, h1_I, h2_I, hI_L, hR_L, hT_L, hN_L, h1_L, h2_L, hI_R, hL_R, hT_R, hN_R, h1_R, h2_R, hI_W, hI_Wn, hL_W, hL_Wn, hR_W, hR_Wn, hT_W, hT_Wn, hN_W, hN_Wn, h1_W, h2_W, u1_eq, u1_ne, u1_u1, haI_I] using hi
  have lo := E.sh.lo hi
  have up := E.sh.hi hi
  obtain ⟨C1, C2⟩ := C i hi
  simp (disch := omega) only [u2_u, u2_ne, hsI_ha, hsL_ha, hsR_ha, hI_I, hI_In, hL_L, hL_Ln, hR_R, hR_Rn, hL_I, hR_I, hT_I, hN_I, h1_I, h2_I, hI_L, hR_L, hT_L, hN_L, h1_L, h2_L, hI_R, hL_R, hT_R, hN_R, h1_R, h2_R, hI_W, hI_Wn, hL_W, hL_Wn, hR_W, hR_Wn, hT_W, hT_Wn, hN_W, hN_Wn, h1_W, h2_W, u1_eq, u1_ne, u1_u1, haI_I, u2_rowne]
  rw [cnt_push]
  by_cases hh : i = w
  · subst hh
    simp (disch := omega) only [u2_u, u2_ne, hsI_ha, hsL_ha, hsR_ha, hI_I, hI_In, hL_L, hL_Ln, hR_R, hR_Rn, hL_I, hR_I, hT_I, hN_I, h1_I, h2_I, hI_L, hR_L, hT_L, hN_L, h1_L, h2_L, hI_R, hL_R, hT_R, hN_R, h1_R, h2_R, hI_W, hI_Wn, hL_W, hL_Wn, hR_W, hR_Wn, hT_W, hT_Wn, hN_W, hN_Wn, h1_W, h2_W, u1_eq, u1_ne, u1_u1, haI_I, u1_eq, u1_ne, C1, C2, if_true, nI_1, and_self]
  · have d : s 30 i + 6 ≤ s 30 w ∨ s 30 w + 6 ≤ s 30 i := D.2.2.2.1 i w hi hw hh
    rw [if_neg (fun z => hh z.symm)]
    simp (disch := omega) only [u2_u, u2_ne, hsI_ha, hsL_ha, hsR_ha, hI_I, hI_In, hL_L, hL_Ln, hR_R, hR_Rn, hL_I, hR_I, hT_I, hN_I, h1_I, h2_I, hI_L, hR_L, hT_L, hN_L, h1_L, h2_L, hI_R, hL_R, hT_R, hN_R, h1_R, h2_R, hI_W, hI_Wn, hL_W, hL_Wn, hR_W, hR_Wn, hT_W, hT_Wn, hN_W, hN_Wn, h1_W, h2_W, u1_eq, u1_ne, u1_u1, haI_I, u1_eq, u1_ne, C1, C2, Nat.add_zero, and_self]
theorem ct_bill (E : EV s h) (D : DI s) (C : CTc s h) {w c co d : Nat} (hw : w < s 0 3) : CTc (st_bill s h w c co) (bilM (s 0 8) (bilC (s 0 8) h (s 30 w) (nI c) (nI co) (nI d) (nI (s 0 0))) (nI w) (nI c) (nI co) (nI d) (nI (s 0 0))) := by
  have w1 : 160 ≤ h.1 := E.w.1
  have lw := E.sh.lo hw
  have uw := E.sh.hi hw
  unfold bilM bilC pap st_bill
  intro i hi
  have hi : i < s 0 3 := by simpa (disch := omega) only [u2_u, u2_ne, hsI_ha, hsL_ha, hsR_ha, hI_I, hI_In, hL_L, hL_Ln, hR_R, hR_Rn, hL_I, hR_I, hT_I, hN_I, h1_I, h2_I, hI_L, hR_L, hT_L, hN_L, h1_L, h2_L, hI_R, hL_R, hT_R, hN_R, h1_R, h2_R, hI_W, hI_Wn, hL_W, hL_Wn, hR_W, hR_Wn, hT_W, hT_Wn, hN_W, hN_Wn, h1_W, h2_W, u1_eq, u1_ne, u1_u1, haI_I] using hi
  have lo := E.sh.lo hi
  have up := E.sh.hi hi
  obtain ⟨C1, C2⟩ := C i hi
  simp (disch := omega) only [u2_u, u2_ne, hsI_ha, hsL_ha, hsR_ha, hI_I, hI_In, hL_L, hL_Ln, hR_R, hR_Rn, hL_I, hR_I, hT_I, hN_I, h1_I, h2_I, hI_L, hR_L, hT_L, hN_L, h1_L, h2_L, hI_R, hL_R, hT_R, hN_R, h1_R, h2_R, hI_W, hI_Wn, hL_W, hL_Wn, hR_W, hR_Wn, hT_W, hT_Wn, hN_W, hN_Wn, h1_W, h2_W, u1_eq, u1_ne, u1_u1, haI_I, u2_rowne]
  rw [cnt_push]
  by_cases hh : i = w
  · subst hh
    simp (disch := omega) only [u2_u, u2_ne, hsI_ha, hsL_ha, hsR_ha, hI_I, hI_In, hL_L, hL_Ln, hR_R, hR_Rn, hL_I, hR_I, hT_I, hN_I, h1_I, h2_I, hI_L, hR_L, hT_L, hN_L, h1_L, h2_L, hI_R, hL_R, hT_R, hN_R, h1_R, h2_R, hI_W, hI_Wn, hL_W, hL_Wn, hR_W, hR_Wn, hT_W, hT_Wn, hN_W, hN_Wn, h1_W, h2_W, u1_eq, u1_ne, u1_u1, haI_I, u1_eq, u1_ne, C1, C2, if_true, nI_1, and_self]
  · have d : s 30 i + 6 ≤ s 30 w ∨ s 30 w + 6 ≤ s 30 i := D.2.2.2.1 i w hi hw hh
    rw [if_neg (fun z => hh z.symm)]
    simp (disch := omega) only [u2_u, u2_ne, hsI_ha, hsL_ha, hsR_ha, hI_I, hI_In, hL_L, hL_Ln, hR_R, hR_Rn, hL_I, hR_I, hT_I, hN_I, h1_I, h2_I, hI_L, hR_L, hT_L, hN_L, h1_L, h2_L, hI_R, hL_R, hT_R, hN_R, h1_R, h2_R, hI_W, hI_Wn, hL_W, hL_Wn, hR_W, hR_Wn, hT_W, hT_Wn, hN_W, hN_Wn, h1_W, h2_W, u1_eq, u1_ne, u1_u1, haI_I, u1_eq, u1_ne, C1, C2, Nat.add_zero, and_self]
theorem ct_sheet (E : EV s h) (C : CTc s h) : CTc (st_sheet s h) (shtM (s 0 3) (shtC (s 0 3) h (nI (s 0 0))) (nI (s 0 0))) := by
  have w1 : 160 ≤ h.1 := E.w.1
  have z1 : cnt (fun k => decide (s 12 k = s 0 3)) (s 0 7) = 0 := cnt_false (fun k hk => decide_eq_false (by have := E.rp.b0 hk; omega))
  have z2 : cnt (fun k => decide (s 21 k = s 0 3)) (s 0 8) = 0 := cnt_false (fun k hk => decide_eq_false (by have := E.bl.b0 hk; omega))
  unfold shtM shtC st_sheet
  intro i hi
  have hi : i < s 0 3 + 1 := by simpa (disch := omega) only [u2_u, u2_ne, hsI_ha, hsL_ha, hsR_ha, hI_I, hI_In, hL_L, hL_Ln, hR_R, hR_Rn, hL_I, hR_I, hT_I, hN_I, h1_I, h2_I, hI_L, hR_L, hT_L, hN_L, h1_L, h2_L, hI_R, hL_R, hT_R, hN_R, h1_R, h2_R, hI_W, hI_Wn, hL_W, hL_Wn, hR_W, hR_Wn, hT_W, hT_Wn, hN_W, hN_Wn, h1_W, h2_W, u1_eq, u1_ne, u1_u1, haI_I] using hi
  by_cases hh : i = s 0 3
  · subst hh
    simp (disch := omega) only [u2_u, u2_ne, hsI_ha, hsL_ha, hsR_ha, hI_I, hI_In, hL_L, hL_Ln, hR_R, hR_Rn, hL_I, hR_I, hT_I, hN_I, h1_I, h2_I, hI_L, hR_L, hT_L, hN_L, h1_L, h2_L, hI_R, hL_R, hT_R, hN_R, h1_R, h2_R, hI_W, hI_Wn, hL_W, hL_Wn, hR_W, hR_Wn, hT_W, hT_Wn, hN_W, hN_Wn, h1_W, h2_W, u1_eq, u1_ne, u1_u1, haI_I, u2_rowne, u1_eq, u1_ne, shn_O, z1, z2, nI_z, and_self]
  · have hi : i < s 0 3 := by omega
    have lo := E.sh.lo hi
    have up := E.sh.hi hi
    simp (disch := omega) only [u2_u, u2_ne, hsI_ha, hsL_ha, hsR_ha, hI_I, hI_In, hL_L, hL_Ln, hR_R, hR_Rn, hL_I, hR_I, hT_I, hN_I, h1_I, h2_I, hI_L, hR_L, hT_L, hN_L, h1_L, h2_L, hI_R, hL_R, hT_R, hN_R, h1_R, h2_R, hI_W, hI_Wn, hL_W, hL_Wn, hR_W, hR_Wn, hT_W, hT_Wn, hN_W, hN_Wn, h1_W, h2_W, u1_eq, u1_ne, u1_u1, haI_I, u2_rowne, u1_eq, u1_ne, shn_In]
    exact C i hi
end W21
