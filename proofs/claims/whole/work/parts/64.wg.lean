/-! the state goes on: papers that fall, sheets opened; objects are distinct -/
def DI (s : SS) : Prop := (∀ i j, i < s 0 5 → j < s 0 5 → s 31 i = s 31 j → i = j) ∧ (∀ i j, i < s 0 7 → j < s 0 7 → s 32 i = s 32 j → i = j) ∧ (∀ i j, i < s 0 8 → j < s 0 8 → s 33 i = s 33 j → i = j) ∧ (∀ i j, i < s 0 3 → j < s 0 3 → ¬ i = j → s 30 i + 6 ≤ s 30 j ∨ s 30 j + 6 ≤ s 30 i) ∧ (∀ i j, i < s 0 5 → j < s 0 7 → ¬ s 31 i = s 32 j) ∧ (∀ i j, i < s 0 5 → j < s 0 8 → ¬ s 31 i = s 33 j) ∧ (∀ i j, i < s 0 7 → j < s 0 8 → ¬ s 32 i = s 33 j)
theorem dC_now {x : Nat} (h : x ≤ 3999) : dC x = x := if_neg (by omega)
theorem okDy_now {x : Nat} (h : x ≤ 3999) : okDy x 3999 := Or.inl h
section W16
variable {s : SS} {h : HS}
theorem ev_unsee (E : EV s h) (D : DI s) {w : Nat} (hw : w < s 0 5) : EV (u2 s 11 w (s 0 0)) (sc_unsee s h w) := by
  have lw := E.sn.lo hw
  have uw := E.sn.hi hw
  unfold sc_unsee
  refine ⟨by simp only [WF_I, WF_L]; exact E.w, ?_, ?_, ?_, ?_, ?_⟩
  · have C := E.cn
    unfold CN at C ⊢
    simp (disch := omega) only [u2_u, u2_ne, hsI_ha, hsL_ha, hsR_ha, hI_I, hI_In, hL_L, hL_Ln, hR_R, hR_Rn, hL_I, hR_I, hT_I, hN_I, h1_I, h2_I, hI_L, hR_L, hT_L, hN_L, h1_L, h2_L, hI_R, hL_R, hT_R, hN_R, h1_R, h2_R, hI_W, hI_Wn, hL_W, hL_Wn, hR_W, hR_Wn, hT_W, hT_Wn, hN_W, hN_Wn, h1_W, h2_W, u1_eq, u1_ne, u1_u1, haI_I]
    exact C
  · intro i hi
    have hi : i < s 0 3 := by simpa (disch := omega) only [u2_u, u2_ne, hsI_ha, hsL_ha, hsR_ha, hI_I, hI_In, hL_L, hL_Ln, hR_R, hR_Rn, hL_I, hR_I, hT_I, hN_I, h1_I, h2_I, hI_L, hR_L, hT_L, hN_L, h1_L, h2_L, hI_R, hL_R, hT_R, hN_R, h1_R, h2_R, hI_W, hI_Wn, hL_W, hL_Wn, hR_W, hR_Wn, hT_W, hT_Wn, hN_W, hN_Wn, h1_W, h2_W, u1_eq, u1_ne, u1_u1, haI_I] using hi
    have d : ¬ s 30 i = s 31 w := fun z => by
      have q := E.sh.t hi
      rw [z, E.sn.t hw] at q
      exact absurd q (by decide)
    have lo := E.sh.lo hi
    have up := E.sh.hi hi
    simp (disch := omega) only [u2_u, u2_ne, hsI_ha, hsL_ha, hsR_ha, hI_I, hI_In, hL_L, hL_Ln, hR_R, hR_Rn, hL_I, hR_I, hT_I, hN_I, h1_I, h2_I, hI_L, hR_L, hT_L, hN_L, h1_L, h2_L, hI_R, hL_R, hT_R, hN_R, h1_R, h2_R, hI_W, hI_Wn, hL_W, hL_Wn, hR_W, hR_Wn, hT_W, hT_Wn, hN_W, hN_Wn, h1_W, h2_W, u1_eq, u1_ne, u1_u1, haI_I]
    exact E.sh i hi
  · intro i hi
    have hi : i < s 0 5 := by simpa (disch := omega) only [u2_u, u2_ne, hsI_ha, hsL_ha, hsR_ha, hI_I, hI_In, hL_L, hL_Ln, hR_R, hR_Rn, hL_I, hR_I, hT_I, hN_I, h1_I, h2_I, hI_L, hR_L, hT_L, hN_L, h1_L, h2_L, hI_R, hL_R, hT_R, hN_R, h1_R, h2_R, hI_W, hI_Wn, hL_W, hL_Wn, hR_W, hR_Wn, hT_W, hT_Wn, hN_W, hN_Wn, h1_W, h2_W, u1_eq, u1_ne, u1_u1, haI_I] using hi
    have lo := E.sn.lo hi
    have up := E.sn.hi hi
    by_cases hh : i = w
    · subst hh
      have C := E.sn i hi
      simp (disch := omega) only [u2_u, u2_ne, hsI_ha, hsL_ha, hsR_ha, hI_I, hI_In, hL_L, hL_Ln, hR_R, hR_Rn, hL_I, hR_I, hT_I, hN_I, h1_I, h2_I, hI_L, hR_L, hT_L, hN_L, h1_L, h2_L, hI_R, hL_R, hT_R, hN_R, h1_R, h2_R, hI_W, hI_Wn, hL_W, hL_Wn, hR_W, hR_Wn, hT_W, hT_Wn, hN_W, hN_Wn, h1_W, h2_W, u1_eq, u1_ne, u1_u1, haI_I, u1_eq, u1_ne]
      simp (disch := omega) only [C, dC_now E.cn.b0, okDy_now E.cn.b0, and_self, true_and, and_true]
    · have d : ¬ s 31 i = s 31 w := fun z => hh (D.1 i w hi hw z)
      simp (disch := omega) only [u2_u, u2_ne, hsI_ha, hsL_ha, hsR_ha, hI_I, hI_In, hL_L, hL_Ln, hR_R, hR_Rn, hL_I, hR_I, hT_I, hN_I, h1_I, h2_I, hI_L, hR_L, hT_L, hN_L, h1_L, h2_L, hI_R, hL_R, hT_R, hN_R, h1_R, h2_R, hI_W, hI_Wn, hL_W, hL_Wn, hR_W, hR_Wn, hT_W, hT_Wn, hN_W, hN_Wn, h1_W, h2_W, u1_eq, u1_ne, u1_u1, haI_I, u1_ne]
      exact E.sn i hi
  · intro i hi
    have hi : i < s 0 7 := by simpa (disch := omega) only [u2_u, u2_ne, hsI_ha, hsL_ha, hsR_ha, hI_I, hI_In, hL_L, hL_Ln, hR_R, hR_Rn, hL_I, hR_I, hT_I, hN_I, h1_I, h2_I, hI_L, hR_L, hT_L, hN_L, h1_L, h2_L, hI_R, hL_R, hT_R, hN_R, h1_R, h2_R, hI_W, hI_Wn, hL_W, hL_Wn, hR_W, hR_Wn, hT_W, hT_Wn, hN_W, hN_Wn, h1_W, h2_W, u1_eq, u1_ne, u1_u1, haI_I] using hi
    have d : ¬ s 32 i = s 31 w := fun z => D.2.2.2.2.1 w i hw hi z.symm
    have lo := E.rp.lo hi
    have up := E.rp.hi hi
    have l2 := E.sh.lo (E.rp.b0 hi)
    simp (disch := omega) only [u2_u, u2_ne, hsI_ha, hsL_ha, hsR_ha, hI_I, hI_In, hL_L, hL_Ln, hR_R, hR_Rn, hL_I, hR_I, hT_I, hN_I, h1_I, h2_I, hI_L, hR_L, hT_L, hN_L, h1_L, h2_L, hI_R, hL_R, hT_R, hN_R, h1_R, h2_R, hI_W, hI_Wn, hL_W, hL_Wn, hR_W, hR_Wn, hT_W, hT_Wn, hN_W, hN_Wn, h1_W, h2_W, u1_eq, u1_ne, u1_u1, haI_I]
    exact E.rp i hi
  · intro i hi
    have hi : i < s 0 8 := by simpa (disch := omega) only [u2_u, u2_ne, hsI_ha, hsL_ha, hsR_ha, hI_I, hI_In, hL_L, hL_Ln, hR_R, hR_Rn, hL_I, hR_I, hT_I, hN_I, h1_I, h2_I, hI_L, hR_L, hT_L, hN_L, h1_L, h2_L, hI_R, hL_R, hT_R, hN_R, h1_R, h2_R, hI_W, hI_Wn, hL_W, hL_Wn, hR_W, hR_Wn, hT_W, hT_Wn, hN_W, hN_Wn, h1_W, h2_W, u1_eq, u1_ne, u1_u1, haI_I] using hi
    have d : ¬ s 33 i = s 31 w := fun z => D.2.2.2.2.2.1 w i hw hi z.symm
    have lo := E.bl.lo hi
    have up := E.bl.hi hi
    have l2 := E.sh.lo (E.bl.b0 hi)
    simp (disch := omega) only [u2_u, u2_ne, hsI_ha, hsL_ha, hsR_ha, hI_I, hI_In, hL_L, hL_Ln, hR_R, hR_Rn, hL_I, hR_I, hT_I, hN_I, h1_I, h2_I, hI_L, hR_L, hT_L, hN_L, h1_L, h2_L, hI_R, hL_R, hT_R, hN_R, h1_R, h2_R, hI_W, hI_Wn, hL_W, hL_Wn, hR_W, hR_Wn, hT_W, hT_Wn, hN_W, hN_Wn, h1_W, h2_W, u1_eq, u1_ne, u1_u1, haI_I]
    exact E.bl i hi
theorem ev_fall (E : EV s h) (D : DI s) {w : Nat} (hw : w < s 0 7) : EV (u2 s 20 w (s 0 0)) (sc_fall s h w) := by
  have lw := E.rp.lo hw
  have uw := E.rp.hi hw
  unfold sc_fall
  refine ⟨by simp only [WF_I, WF_L]; exact E.w, ?_, ?_, ?_, ?_, ?_⟩
  · have C := E.cn
    unfold CN at C ⊢
    simp (disch := omega) only [u2_u, u2_ne, hsI_ha, hsL_ha, hsR_ha, hI_I, hI_In, hL_L, hL_Ln, hR_R, hR_Rn, hL_I, hR_I, hT_I, hN_I, h1_I, h2_I, hI_L, hR_L, hT_L, hN_L, h1_L, h2_L, hI_R, hL_R, hT_R, hN_R, h1_R, h2_R, hI_W, hI_Wn, hL_W, hL_Wn, hR_W, hR_Wn, hT_W, hT_Wn, hN_W, hN_Wn, h1_W, h2_W, u1_eq, u1_ne, u1_u1, haI_I]
    exact C
  · intro i hi
    have hi : i < s 0 3 := by simpa (disch := omega) only [u2_u, u2_ne, hsI_ha, hsL_ha, hsR_ha, hI_I, hI_In, hL_L, hL_Ln, hR_R, hR_Rn, hL_I, hR_I, hT_I, hN_I, h1_I, h2_I, hI_L, hR_L, hT_L, hN_L, h1_L, h2_L, hI_R, hL_R, hT_R, hN_R, h1_R, h2_R, hI_W, hI_Wn, hL_W, hL_Wn, hR_W, hR_Wn, hT_W, hT_Wn, hN_W, hN_Wn, h1_W, h2_W, u1_eq, u1_ne, u1_u1, haI_I] using hi
    have d : ¬ s 30 i = s 32 w := fun z => by
      have q := E.sh.t hi
      rw [z, E.rp.t hw] at q
      exact absurd q (by decide)
    have lo := E.sh.lo hi
    have up := E.sh.hi hi
    simp (disch := omega) only [u2_u, u2_ne, hsI_ha, hsL_ha, hsR_ha, hI_I, hI_In, hL_L, hL_Ln, hR_R, hR_Rn, hL_I, hR_I, hT_I, hN_I, h1_I, h2_I, hI_L, hR_L, hT_L, hN_L, h1_L, h2_L, hI_R, hL_R, hT_R, hN_R, h1_R, h2_R, hI_W, hI_Wn, hL_W, hL_Wn, hR_W, hR_Wn, hT_W, hT_Wn, hN_W, hN_Wn, h1_W, h2_W, u1_eq, u1_ne, u1_u1, haI_I]
    exact E.sh i hi
  · intro i hi
    have hi : i < s 0 5 := by simpa (disch := omega) only [u2_u, u2_ne, hsI_ha, hsL_ha, hsR_ha, hI_I, hI_In, hL_L, hL_Ln, hR_R, hR_Rn, hL_I, hR_I, hT_I, hN_I, h1_I, h2_I, hI_L, hR_L, hT_L, hN_L, h1_L, h2_L, hI_R, hL_R, hT_R, hN_R, h1_R, h2_R, hI_W, hI_Wn, hL_W, hL_Wn, hR_W, hR_Wn, hT_W, hT_Wn, hN_W, hN_Wn, h1_W, h2_W, u1_eq, u1_ne, u1_u1, haI_I] using hi
    have d : ¬ s 31 i = s 32 w := D.2.2.2.2.1 i w hi hw
    have lo := E.sn.lo hi
    have up := E.sn.hi hi
    simp (disch := omega) only [u2_u, u2_ne, hsI_ha, hsL_ha, hsR_ha, hI_I, hI_In, hL_L, hL_Ln, hR_R, hR_Rn, hL_I, hR_I, hT_I, hN_I, h1_I, h2_I, hI_L, hR_L, hT_L, hN_L, h1_L, h2_L, hI_R, hL_R, hT_R, hN_R, h1_R, h2_R, hI_W, hI_Wn, hL_W, hL_Wn, hR_W, hR_Wn, hT_W, hT_Wn, hN_W, hN_Wn, h1_W, h2_W, u1_eq, u1_ne, u1_u1, haI_I]
    exact E.sn i hi
  · intro i hi
    have hi : i < s 0 7 := by simpa (disch := omega) only [u2_u, u2_ne, hsI_ha, hsL_ha, hsR_ha, hI_I, hI_In, hL_L, hL_Ln, hR_R, hR_Rn, hL_I, hR_I, hT_I, hN_I, h1_I, h2_I, hI_L, hR_L, hT_L, hN_L, h1_L, h2_L, hI_R, hL_R, hT_R, hN_R, h1_R, h2_R, hI_W, hI_Wn, hL_W, hL_Wn, hR_W, hR_Wn, hT_W, hT_Wn, hN_W, hN_Wn, h1_W, h2_W, u1_eq, u1_ne, u1_u1, haI_I] using hi
    have lo := E.rp.lo hi
    have up := E.rp.hi hi
    by_cases hh : i = w
    · subst hh
      have C := E.rp i hi
      simp (disch := omega) only [u2_u, u2_ne, hsI_ha, hsL_ha, hsR_ha, hI_I, hI_In, hL_L, hL_Ln, hR_R, hR_Rn, hL_I, hR_I, hT_I, hN_I, h1_I, h2_I, hI_L, hR_L, hT_L, hN_L, h1_L, h2_L, hI_R, hL_R, hT_R, hN_R, h1_R, h2_R, hI_W, hI_Wn, hL_W, hL_Wn, hR_W, hR_Wn, hT_W, hT_Wn, hN_W, hN_Wn, h1_W, h2_W, u1_eq, u1_ne, u1_u1, haI_I, u1_eq, u1_ne]
      simp (disch := omega) only [C, dC_now E.cn.b0, okDy_now E.cn.b0, and_self, true_and, and_true] <;> exact Or.inr E.cn.b0
    · have d : ¬ s 32 i = s 32 w := fun z => hh (D.2.1 i w hi hw z)
      simp (disch := omega) only [u2_u, u2_ne, hsI_ha, hsL_ha, hsR_ha, hI_I, hI_In, hL_L, hL_Ln, hR_R, hR_Rn, hL_I, hR_I, hT_I, hN_I, h1_I, h2_I, hI_L, hR_L, hT_L, hN_L, h1_L, h2_L, hI_R, hL_R, hT_R, hN_R, h1_R, h2_R, hI_W, hI_Wn, hL_W, hL_Wn, hR_W, hR_Wn, hT_W, hT_Wn, hN_W, hN_Wn, h1_W, h2_W, u1_eq, u1_ne, u1_u1, haI_I, u1_ne]
      exact E.rp i hi
  · intro i hi
    have hi : i < s 0 8 := by simpa (disch := omega) only [u2_u, u2_ne, hsI_ha, hsL_ha, hsR_ha, hI_I, hI_In, hL_L, hL_Ln, hR_R, hR_Rn, hL_I, hR_I, hT_I, hN_I, h1_I, h2_I, hI_L, hR_L, hT_L, hN_L, h1_L, h2_L, hI_R, hL_R, hT_R, hN_R, h1_R, h2_R, hI_W, hI_Wn, hL_W, hL_Wn, hR_W, hR_Wn, hT_W, hT_Wn, hN_W, hN_Wn, h1_W, h2_W, u1_eq, u1_ne, u1_u1, haI_I] using hi
    have d : ¬ s 33 i = s 32 w := fun z => D.2.2.2.2.2.2 w i hw hi z.symm
    have lo := E.bl.lo hi
    have up := E.bl.hi hi
    have l2 := E.sh.lo (E.bl.b0 hi)
    simp (disch := omega) only [u2_u, u2_ne, hsI_ha, hsL_ha, hsR_ha, hI_I, hI_In, hL_L, hL_Ln, hR_R, hR_Rn, hL_I, hR_I, hT_I, hN_I, h1_I, h2_I, hI_L, hR_L, hT_L, hN_L, h1_L, h2_L, hI_R, hL_R, hT_R, hN_R, h1_R, h2_R, hI_W, hI_Wn, hL_W, hL_Wn, hR_W, hR_Wn, hT_W, hT_Wn, hN_W, hN_Wn, h1_W, h2_W, u1_eq, u1_ne, u1_u1, haI_I]
    exact E.bl i hi
theorem ev_open (E : EV s h) (D : DI s) {w : Nat} (hw : w < s 0 3) : EV (u2 s 2 w (s 0 0)) (sc_open s h w) := by
  have lw := E.sh.lo hw
  have uw := E.sh.hi hw
  unfold sc_open
  refine ⟨by simp only [WF_I, WF_L]; exact E.w, ?_, ?_, ?_, ?_, ?_⟩
  · have C := E.cn
    unfold CN at C ⊢
    simp (disch := omega) only [u2_u, u2_ne, hsI_ha, hsL_ha, hsR_ha, hI_I, hI_In, hL_L, hL_Ln, hR_R, hR_Rn, hL_I, hR_I, hT_I, hN_I, h1_I, h2_I, hI_L, hR_L, hT_L, hN_L, h1_L, h2_L, hI_R, hL_R, hT_R, hN_R, h1_R, h2_R, hI_W, hI_Wn, hL_W, hL_Wn, hR_W, hR_Wn, hT_W, hT_Wn, hN_W, hN_Wn, h1_W, h2_W, u1_eq, u1_ne, u1_u1, haI_I]
    exact C
  · intro i hi
    have hi : i < s 0 3 := by simpa (disch := omega) only [u2_u, u2_ne, hsI_ha, hsL_ha, hsR_ha, hI_I, hI_In, hL_L, hL_Ln, hR_R, hR_Rn, hL_I, hR_I, hT_I, hN_I, h1_I, h2_I, hI_L, hR_L, hT_L, hN_L, h1_L, h2_L, hI_R, hL_R, hT_R, hN_R, h1_R, h2_R, hI_W, hI_Wn, hL_W, hL_Wn, hR_W, hR_Wn, hT_W, hT_Wn, hN_W, hN_Wn, h1_W, h2_W, u1_eq, u1_ne, u1_u1, haI_I] using hi
    have lo := E.sh.lo hi
    have up := E.sh.hi hi
    by_cases hh : i = w
    · subst hh
      have C := E.sh i hi
      simp (disch := omega) only [u2_u, u2_ne, hsI_ha, hsL_ha, hsR_ha, hI_I, hI_In, hL_L, hL_Ln, hR_R, hR_Rn, hL_I, hR_I, hT_I, hN_I, h1_I, h2_I, hI_L, hR_L, hT_L, hN_L, h1_L, h2_L, hI_R, hL_R, hT_R, hN_R, h1_R, h2_R, hI_W, hI_Wn, hL_W, hL_Wn, hR_W, hR_Wn, hT_W, hT_Wn, hN_W, hN_Wn, h1_W, h2_W, u1_eq, u1_ne, u1_u1, haI_I, u1_eq, u1_ne]
      simp (disch := omega) only [C, dC_now E.cn.b0, okDy_now E.cn.b0, and_self, true_and, and_true]
    · have d : s 30 i + 6 ≤ s 30 w ∨ s 30 w + 6 ≤ s 30 i := D.2.2.2.1 i w hi hw hh
      simp (disch := omega) only [u2_u, u2_ne, hsI_ha, hsL_ha, hsR_ha, hI_I, hI_In, hL_L, hL_Ln, hR_R, hR_Rn, hL_I, hR_I, hT_I, hN_I, h1_I, h2_I, hI_L, hR_L, hT_L, hN_L, h1_L, h2_L, hI_R, hL_R, hT_R, hN_R, h1_R, h2_R, hI_W, hI_Wn, hL_W, hL_Wn, hR_W, hR_Wn, hT_W, hT_Wn, hN_W, hN_Wn, h1_W, h2_W, u1_eq, u1_ne, u1_u1, haI_I, u1_ne]
      exact E.sh i hi
  · intro i hi
    have hi : i < s 0 5 := by simpa (disch := omega) only [u2_u, u2_ne, hsI_ha, hsL_ha, hsR_ha, hI_I, hI_In, hL_L, hL_Ln, hR_R, hR_Rn, hL_I, hR_I, hT_I, hN_I, h1_I, h2_I, hI_L, hR_L, hT_L, hN_L, h1_L, h2_L, hI_R, hL_R, hT_R, hN_R, h1_R, h2_R, hI_W, hI_Wn, hL_W, hL_Wn, hR_W, hR_Wn, hT_W, hT_Wn, hN_W, hN_Wn, h1_W, h2_W, u1_eq, u1_ne, u1_u1, haI_I] using hi
    have d : ¬ s 31 i = s 30 w := fun z => by
      have q := E.sn.t hi
      rw [z, E.sh.t hw] at q
      exact absurd q (by decide)
    have lo := E.sn.lo hi
    have up := E.sn.hi hi
    simp (disch := omega) only [u2_u, u2_ne, hsI_ha, hsL_ha, hsR_ha, hI_I, hI_In, hL_L, hL_Ln, hR_R, hR_Rn, hL_I, hR_I, hT_I, hN_I, h1_I, h2_I, hI_L, hR_L, hT_L, hN_L, h1_L, h2_L, hI_R, hL_R, hT_R, hN_R, h1_R, h2_R, hI_W, hI_Wn, hL_W, hL_Wn, hR_W, hR_Wn, hT_W, hT_Wn, hN_W, hN_Wn, h1_W, h2_W, u1_eq, u1_ne, u1_u1, haI_I]
    exact E.sn i hi
  · intro i hi
    have hi : i < s 0 7 := by simpa (disch := omega) only [u2_u, u2_ne, hsI_ha, hsL_ha, hsR_ha, hI_I, hI_In, hL_L, hL_Ln, hR_R, hR_Rn, hL_I, hR_I, hT_I, hN_I, h1_I, h2_I, hI_L, hR_L, hT_L, hN_L, h1_L, h2_L, hI_R, hL_R, hT_R, hN_R, h1_R, h2_R, hI_W, hI_Wn, hL_W, hL_Wn, hR_W, hR_Wn, hT_W, hT_Wn, hN_W, hN_Wn, h1_W, h2_W, u1_eq, u1_ne, u1_u1, haI_I] using hi
    have d : ¬ s 32 i = s 30 w := fun z => by
      have q := E.rp.t hi
      rw [z, E.sh.t hw] at q
      exact absurd q (by decide)
    have lo := E.rp.lo hi
    have up := E.rp.hi hi
    have l2 := E.sh.lo (E.rp.b0 hi)
    simp (disch := omega) only [u2_u, u2_ne, hsI_ha, hsL_ha, hsR_ha, hI_I, hI_In, hL_L, hL_Ln, hR_R, hR_Rn, hL_I, hR_I, hT_I, hN_I, h1_I, h2_I, hI_L, hR_L, hT_L, hN_L, h1_L, h2_L, hI_R, hL_R, hT_R, hN_R, h1_R, h2_R, hI_W, hI_Wn, hL_W, hL_Wn, hR_W, hR_Wn, hT_W, hT_Wn, hN_W, hN_Wn, h1_W, h2_W, u1_eq, u1_ne, u1_u1, haI_I]
    exact E.rp i hi
  · intro i hi
    have hi : i < s 0 8 := by simpa (disch := omega) only [u2_u, u2_ne, hsI_ha, hsL_ha, hsR_ha, hI_I, hI_In, hL_L, hL_Ln, hR_R, hR_Rn, hL_I, hR_I, hT_I, hN_I, h1_I, h2_I, hI_L, hR_L, hT_L, hN_L, h1_L, h2_L, hI_R, hL_R, hT_R, hN_R, h1_R, h2_R, hI_W, hI_Wn, hL_W, hL_Wn, hR_W, hR_Wn, hT_W, hT_Wn, hN_W, hN_Wn, h1_W, h2_W, u1_eq, u1_ne, u1_u1, haI_I] using hi
    have d : ¬ s 33 i = s 30 w := fun z => by
      have q := E.bl.t hi
      rw [z, E.sh.t hw] at q
      exact absurd q (by decide)
    have lo := E.bl.lo hi
    have up := E.bl.hi hi
    have l2 := E.sh.lo (E.bl.b0 hi)
    simp (disch := omega) only [u2_u, u2_ne, hsI_ha, hsL_ha, hsR_ha, hI_I, hI_In, hL_L, hL_Ln, hR_R, hR_Rn, hL_I, hR_I, hT_I, hN_I, h1_I, h2_I, hI_L, hR_L, hT_L, hN_L, h1_L, h2_L, hI_R, hL_R, hT_R, hN_R, h1_R, h2_R, hI_W, hI_Wn, hL_W, hL_Wn, hR_W, hR_Wn, hT_W, hT_Wn, hN_W, hN_Wn, h1_W, h2_W, u1_eq, u1_ne, u1_u1, haI_I]
    exact E.bl i hi
end W16
