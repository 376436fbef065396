/-! take: all families go on -/
section AL7
variable {s : SS} {h : HS} {F : Nat}
theorem AL_scr (A : AL s h) {i v : Nat} (hi : i < s 0 3) (hv : v ≤ 8) {R : Nat → Int32} (hRv : ∀ j, R j = hI h 91 j ∨ R j = nI i) : AL (u2 s 4 i v) (haI (haI (sc_scr s h i v) 37 R) 91 R) := by
  have E := A.e
  have w := A.w
  have lo := E.sh.lo hi
  have f := fr_scr (v := v) (R := R) E hi
  have r37 : hI (haI (haI (sc_scr s h i v) 37 R) 91 R) 37 = R := by rw [hI_In (by decide), hI_I]
  have r91 : hI (haI (haI (sc_scr s h i v) 37 R) 91 R) 91 = R := hI_I _ _ _
  have r98 : hI (haI (haI (sc_scr s h i v) 37 R) 91 R) 98 = u1 (hI h 98) i (nI v) := by
    unfold sc_scr
    simp (disch := omega) only [hsI_ha, hsL_ha, hsR_ha, hI_I, hI_In, hL_L, hL_Ln, hR_R, hR_Rn, hL_I, hR_I, hT_I, hN_I, h1_I, h2_I, hI_L, hR_L, hT_L, hN_L, h1_L, h2_L, hI_R, hL_R, hT_R, hN_R, h1_R, h2_R, hI_W, hI_Wn, hL_W, hL_Wn, hR_W, hR_Wn, hT_W, hT_Wn, hN_W, hN_Wn, h1_W, h2_W, u1_eq, u1_ne, u1_u1, haI_I]
  have rO : hI (haI (haI (sc_scr s h i v) 37 R) 91 R) (s 30 i) = u1 (hI h (s 30 i)) 4 (nI v) := by
    unfold sc_scr
    simp (disch := omega) only [hsI_ha, hsL_ha, hsR_ha, hI_I, hI_In, hL_L, hL_Ln, hR_R, hR_Rn, hL_I, hR_I, hT_I, hN_I, h1_I, h2_I, hI_L, hR_L, hT_L, hN_L, h1_L, h2_L, hI_R, hL_R, hT_R, hN_R, h1_R, h2_R, hI_W, hI_Wn, hL_W, hL_Wn, hR_W, hR_Wn, hT_W, hT_Wn, hN_W, hN_Wn, h1_W, h2_W, u1_eq, u1_ne, u1_u1, haI_I]
  have rOR : hR (haI (haI (sc_scr s h i v) 37 R) 91 R) (s 30 i) = hR h (s 30 i) := by
    unfold sc_scr
    simp (disch := omega) only [hsI_ha, hsL_ha, hsR_ha, hI_I, hI_In, hL_L, hL_Ln, hR_R, hR_Rn, hL_I, hR_I, hT_I, hN_I, h1_I, h2_I, hI_L, hR_L, hT_L, hN_L, h1_L, h2_L, hI_R, hL_R, hT_R, hN_R, h1_R, h2_R, hI_W, hI_Wn, hL_W, hL_Wn, hR_W, hR_Wn, hT_W, hT_Wn, hN_W, hN_Wn, h1_W, h2_W, u1_eq, u1_ne, u1_u1, haI_I]
  have ed : evD s (fun x => x = s 30 i) → True := fun _ => trivial
  have dd : anD s (fun x => x = s 30 i) := anD_o A (Or.inr (E.sh.t hi))
  have o9 : ∀ k, k < s 0 3 → ¬ k = i → ¬ s 30 k = s 30 i := fun k hk ne z => by
    have := A.di.2.2.2.1 k i hk hi ne
    omega
  generalize haI (haI (sc_scr s h i v) 37 R) 91 R = g at *
  have ow : wl scW [] := by decide
  have sh : SHc (u2 s 4 i v) g := by
    intro k hk
    have hk : k < s 0 3 := hk
    have lo := E.sh.lo hk
    have up := E.sh.hi hk
    have a95 : hI g 95 = hI h 95 := f.fA w 95 (by decide)
    have a96 : hI g 96 = hI h 96 := f.fA w 96 (by decide)
    have a97 : hI g 97 = hI h 97 := f.fA w 97 (by decide)
    have a99 : hI g 99 = hI h 99 := f.fA w 99 (by decide)
    have r49 : hR g 49 = hR h 49 := f.fR w 49 (by decide)
    have oI : ∀ j, ¬ j = 4 → hI g (s 30 k) j = hI h (s 30 k) j := fun j hj => by
      by_cases e : k = i
      · subst e; rw [rO, u1_ne hj]
      · exact f.oI ow.1 ow.2 lo (by omega) (o9 k hk e) j
    have oR : ∀ j, hR g (s 30 k) j = hR h (s 30 k) j := fun j => by
      by_cases e : k = i
      · subst e; rw [rOR]
      · exact f.oR ow.1 lo (by omega) (o9 k hk e) j
    have v4 : hI g (s 30 k) 4 = nI ((u2 s 4 i v) 4 k) ∧ hI g 98 k = nI ((u2 s 4 i v) 4 k) ∧ (u2 s 4 i v) 4 k ≤ 8 := by
      rw [u2_u, r98]
      by_cases e : k = i
      · subst e
        rw [rO, u1_eq, u1_eq, u1_eq]
        exact ⟨rfl, rfl, hv⟩
      · rw [u1_ne e, u1_ne e]
        exact ⟨(f.oI ow.1 ow.2 lo (by omega) (o9 k hk e) 4).trans (E.sh.f4 hk), E.sh.m4 hk, E.sh.b4 hk⟩
    rw [u2_rowne (x := 1) (by decide), u2_rowne (x := 2) (by decide), u2_rowne (x := 3) (by decide), u2_rowne (x := 5) (by decide), u2_rowne (x := 30) (by decide), a95, a96, a97, a99, r49, oI 0 (by decide), oI 1 (by decide), oI 2 (by decide), oI 3 (by decide), oI 7 (by decide), oR, oR, oR, oR, oR, f.T (by omega), f.T (by omega), f.T (by omega), f.T (by omega), f.T (by omega), f.T (by omega), f.N (by omega), f.N (by omega), f.N (by omega), f.N (by omega), f.N (by omega)]
    have H := E.sh
    exact ⟨H.m1 hk, H.m2 hk, H.m3 hk, v4.2.1, H.m5 hk, H.o hk, H.t hk, H.f0 hk, H.f1 hk, H.f2 hk, H.f3 hk, v4.1, H.f7 hk, H.b1 hk, H.b2 hk, H.b3 hk, v4.2.2, H.b5 hk, H.r8 hk, H.r9 hk, H.r10 hk, H.r11 hk, H.r12 hk, H.t1 hk, H.t2 hk, H.t3 hk, H.t4 hk, H.t5 hk, lo, Nat.le_trans up f.1⟩
  have nt : ∀ x, hT h x = 5 → ¬ x = s 30 i := fun x z y => by
    rw [y, E.sh.t hi] at z
    exact absurd z (by decide)
  have ev : EV (u2 s 4 i v) g := ⟨E.w.fr f (by decide), CN.fx E.cn w f [] (fun j hj _ => ⟨rfl, List.not_mem_nil, List.not_mem_nil⟩) (by decide) (fun j hj => absurd hj List.not_mem_nil), sh, E.sn.fr w f (by decide) (fun k hk => nt _ (E.sn.t hk)), E.rp.fr w f (by decide) (fun k hk => nt _ (E.rp.t hk)), E.bl.fr w f (by decide) (fun k hk => nt _ (E.bl.t hk))⟩
  have sc : SCc (u2 s 4 i v) g := by
    obtain ⟨S1, S2, S3, S4, S5, S6⟩ := A.sc0
    unfold SCc
    rw [r37, r91, f.fA w 34 (by decide), f.fA w 35 (by decide), f.fA w 36 (by decide), f.fA w 87 (by decide), f.fA w 88 (by decide), f.fA w 89 (by decide), f.fA w 90 (by decide), f.fL w 38 (by decide)]
    refine ⟨S1, S2, S3, rfl, S5, fun k hk => ?_⟩
    obtain ⟨q1, q2, q3⟩ := S6 k hk
    refine ⟨q1, ?_, q3⟩
    rcases hRv k with z | z
    · rw [z]; exact q2
    · exact Or.inr ⟨i, hi, z⟩
  have ct : CTc (u2 s 4 i v) g := A.ct0.k (fun k hk => by
    by_cases z : k = i
    · subst z; rw [rO, u1_ne (by decide), u1_ne (by decide)]; exact ⟨rfl, rfl⟩
    · have lo := E.sh.lo hk
      have up := E.sh.hi hk
      exact ⟨f.oI ow.1 ow.2 lo (by omega) (o9 k hk z) 5, f.oI ow.1 ow.2 lo (by omega) (o9 k hk z) 6⟩) (by first | rfl | exact Nat.le_refl _ | (simp (disch := omega) only [u2_u, u2_ne, u1_ne, u1_eq, u2_rowne, Nat.le_refl]; done) | (simp (disch := omega) only [u2_u, u2_ne, u1_ne, u1_eq, u2_rowne]; omega)) (by first | rfl | exact Nat.le_refl _ | (simp (disch := omega) only [u2_u, u2_ne, u1_ne, u1_eq, u2_rowne, Nat.le_refl]; done) | (simp (disch := omega) only [u2_u, u2_ne, u1_ne, u1_eq, u2_rowne]; omega)) (by first | rfl | exact Nat.le_refl _ | (simp (disch := omega) only [u2_u, u2_ne, u1_ne, u1_eq, u2_rowne, Nat.le_refl]; done) | (simp (disch := omega) only [u2_u, u2_ne, u1_ne, u1_eq, u2_rowne]; omega)) (by first | rfl | exact Nat.le_refl _ | (simp (disch := omega) only [u2_u, u2_ne, u1_ne, u1_eq, u2_rowne, Nat.le_refl]; done) | (simp (disch := omega) only [u2_u, u2_ne, u1_ne, u1_eq, u2_rowne]; omega)) (by first | rfl | exact Nat.le_refl _ | (simp (disch := omega) only [u2_u, u2_ne, u1_ne, u1_eq, u2_rowne, Nat.le_refl]; done) | (simp (disch := omega) only [u2_u, u2_ne, u1_ne, u1_eq, u2_rowne]; omega)) (by first | rfl | exact Nat.le_refl _ | (simp (disch := omega) only [u2_u, u2_ne, u1_ne, u1_eq, u2_rowne, Nat.le_refl]; done) | (simp (disch := omega) only [u2_u, u2_ne, u1_ne, u1_eq, u2_rowne]; omega))
  have zs : ZSc (u2 s 4 i v) g := fun k hk => by
    have hk : s 0 3 ≤ k := hk
    rw [r98, u1_ne (by omega), f.fA w 99 (by decide)]
    exact A.zs0 k hk
  exact (⟨ev, A.di.k (by first | rfl | exact Nat.le_refl _ | (simp (disch := omega) only [u2_u, u2_ne, u1_ne, u1_eq, u2_rowne, Nat.le_refl]; done) | (simp (disch := omega) only [u2_u, u2_ne, u1_ne, u1_eq, u2_rowne]; omega)) (by first | rfl | exact Nat.le_refl _ | (simp (disch := omega) only [u2_u, u2_ne, u1_ne, u1_eq, u2_rowne, Nat.le_refl]; done) | (simp (disch := omega) only [u2_u, u2_ne, u1_ne, u1_eq, u2_rowne]; omega)) (by first | rfl | exact Nat.le_refl _ | (simp (disch := omega) only [u2_u, u2_ne, u1_ne, u1_eq, u2_rowne, Nat.le_refl]; done) | (simp (disch := omega) only [u2_u, u2_ne, u1_ne, u1_eq, u2_rowne]; omega)) (by first | rfl | exact Nat.le_refl _ | (simp (disch := omega) only [u2_u, u2_ne, u1_ne, u1_eq, u2_rowne, Nat.le_refl]; done) | (simp (disch := omega) only [u2_u, u2_ne, u1_ne, u1_eq, u2_rowne]; omega)) (fun x h1 h2 => by first | rfl | exact Nat.le_refl _ | (simp (disch := omega) only [u2_u, u2_ne, u1_ne, u1_eq, u2_rowne, Nat.le_refl]; done) | (simp (disch := omega) only [u2_u, u2_ne, u1_ne, u1_eq, u2_rowne]; omega)), sc, A.la f (by decide) (by first | rfl | exact Nat.le_refl _ | (simp (disch := omega) only [u2_u, u2_ne, u1_ne, u1_eq, u2_rowne, Nat.le_refl]; done) | (simp (disch := omega) only [u2_u, u2_ne, u1_ne, u1_eq, u2_rowne]; omega)), ct, A.rw f (by decide), zs⟩ : AO (u2 s 4 i v) g) |> fun x => ⟨x, ⟨A.lt f (by decide) (by first | rfl | exact Nat.le_refl _ | (simp (disch := omega) only [u2_u, u2_ne, u1_ne, u1_eq, u2_rowne, Nat.le_refl]; done) | (simp (disch := omega) only [u2_u, u2_ne, u1_ne, u1_eq, u2_rowne]; omega)) (by first | rfl | exact Nat.le_refl _ | (simp (disch := omega) only [u2_u, u2_ne, u1_ne, u1_eq, u2_rowne, Nat.le_refl]; done) | (simp (disch := omega) only [u2_u, u2_ne, u1_ne, u1_eq, u2_rowne]; omega)), A.tp f (by decide) (by first | rfl | exact Nat.le_refl _ | (simp (disch := omega) only [u2_u, u2_ne, u1_ne, u1_eq, u2_rowne, Nat.le_refl]; done) | (simp (disch := omega) only [u2_u, u2_ne, u1_ne, u1_eq, u2_rowne]; omega)), A.rd f (by decide) dd.1 (by first | rfl | exact Nat.le_refl _ | (simp (disch := omega) only [u2_u, u2_ne, u1_ne, u1_eq, u2_rowne, Nat.le_refl]; done) | (simp (disch := omega) only [u2_u, u2_ne, u1_ne, u1_eq, u2_rowne]; omega)) (by first | rfl | exact Nat.le_refl _ | (simp (disch := omega) only [u2_u, u2_ne, u1_ne, u1_eq, u2_rowne, Nat.le_refl]; done) | (simp (disch := omega) only [u2_u, u2_ne, u1_ne, u1_eq, u2_rowne]; omega)) (by first | rfl | exact Nat.le_refl _ | (simp (disch := omega) only [u2_u, u2_ne, u1_ne, u1_eq, u2_rowne, Nat.le_refl]; done) | (simp (disch := omega) only [u2_u, u2_ne, u1_ne, u1_eq, u2_rowne]; omega)) (by first | rfl | exact Nat.le_refl _ | (simp (disch := omega) only [u2_u, u2_ne, u1_ne, u1_eq, u2_rowne, Nat.le_refl]; done) | (simp (disch := omega) only [u2_u, u2_ne, u1_ne, u1_eq, u2_rowne]; omega)) (fun k hk => by first | rfl | exact Nat.le_refl _ | (simp (disch := omega) only [u2_u, u2_ne, u1_ne, u1_eq, u2_rowne, Nat.le_refl]; done) | (simp (disch := omega) only [u2_u, u2_ne, u1_ne, u1_eq, u2_rowne]; omega)), A.ln f (by decide) dd.2.1 (by first | rfl | exact Nat.le_refl _ | (simp (disch := omega) only [u2_u, u2_ne, u1_ne, u1_eq, u2_rowne, Nat.le_refl]; done) | (simp (disch := omega) only [u2_u, u2_ne, u1_ne, u1_eq, u2_rowne]; omega)) (by first | rfl | exact Nat.le_refl _ | (simp (disch := omega) only [u2_u, u2_ne, u1_ne, u1_eq, u2_rowne, Nat.le_refl]; done) | (simp (disch := omega) only [u2_u, u2_ne, u1_ne, u1_eq, u2_rowne]; omega)) (by first | rfl | exact Nat.le_refl _ | (simp (disch := omega) only [u2_u, u2_ne, u1_ne, u1_eq, u2_rowne, Nat.le_refl]; done) | (simp (disch := omega) only [u2_u, u2_ne, u1_ne, u1_eq, u2_rowne]; omega)) (by first | rfl | exact Nat.le_refl _ | (simp (disch := omega) only [u2_u, u2_ne, u1_ne, u1_eq, u2_rowne, Nat.le_refl]; done) | (simp (disch := omega) only [u2_u, u2_ne, u1_ne, u1_eq, u2_rowne]; omega)), A.lw f (by decide) dd.2.2 (by first | rfl | exact Nat.le_refl _ | (simp (disch := omega) only [u2_u, u2_ne, u1_ne, u1_eq, u2_rowne, Nat.le_refl]; done) | (simp (disch := omega) only [u2_u, u2_ne, u1_ne, u1_eq, u2_rowne]; omega)) (fun r h1 h2 h3 => by first | rfl | exact Nat.le_refl _ | (simp (disch := omega) only [u2_u, u2_ne, u1_ne, u1_eq, u2_rowne, Nat.le_refl]; done) | (simp (disch := omega) only [u2_u, u2_ne, u1_ne, u1_eq, u2_rowne]; omega)) (by first | rfl | exact Nat.le_refl _ | (simp (disch := omega) only [u2_u, u2_ne, u1_ne, u1_eq, u2_rowne, Nat.le_refl]; done) | (simp (disch := omega) only [u2_u, u2_ne, u1_ne, u1_eq, u2_rowne]; omega)) (by first | rfl | exact Nat.le_refl _ | (simp (disch := omega) only [u2_u, u2_ne, u1_ne, u1_eq, u2_rowne, Nat.le_refl]; done) | (simp (disch := omega) only [u2_u, u2_ne, u1_ne, u1_eq, u2_rowne]; omega)), A.of f (by decide) (by first | rfl | exact Nat.le_refl _ | (simp (disch := omega) only [u2_u, u2_ne, u1_ne, u1_eq, u2_rowne, Nat.le_refl]; done) | (simp (disch := omega) only [u2_u, u2_ne, u1_ne, u1_eq, u2_rowne]; omega)) (by first | rfl | exact Nat.le_refl _ | (simp (disch := omega) only [u2_u, u2_ne, u1_ne, u1_eq, u2_rowne, Nat.le_refl]; done) | (simp (disch := omega) only [u2_u, u2_ne, u1_ne, u1_eq, u2_rowne]; omega)) (by first | rfl | exact Nat.le_refl _ | (simp (disch := omega) only [u2_u, u2_ne, u1_ne, u1_eq, u2_rowne, Nat.le_refl]; done) | (simp (disch := omega) only [u2_u, u2_ne, u1_ne, u1_eq, u2_rowne]; omega)), A.orc f (by decide) (by first | rfl | exact Nat.le_refl _ | (simp (disch := omega) only [u2_u, u2_ne, u1_ne, u1_eq, u2_rowne, Nat.le_refl]; done) | (simp (disch := omega) only [u2_u, u2_ne, u1_ne, u1_eq, u2_rowne]; omega)), A.ctf f (by decide), A.w3 f (by decide)⟩⟩
theorem al_take (A : AL s h) (hF : 50000 ≤ F) (a : Int32) : CO h (p122 F h a) (fun g => p207 F g a) := by
  rcases w_take (F := F) A.e A.sc0 A.la0 A.lt0 (by omega) a with ⟨v, e1, e2⟩ | ⟨v, hc, R, hn, e1, e2, hRv⟩
  · exact CO.n A v e1 e2
  · have B := AL_sheet A hn
    have g := gr_sheet (s := s) (h := h)
    have hi : s 0 3 < st_sheet s h 0 3 := by rw [sts_3]; exact Nat.lt_succ_self _
    have k91 : hI (tkB s h) 91 = hI h 91 := (fr_sheet (s := s) (h := h) A.e).fA A.w 91 (by decide)
    have C := AL_scr (v := s 50 0) (R := R) B hi A.la0.2.2.1 (by rw [k91]; exact hRv)
    have z := (fr_scr (v := s 50 0) (R := R) B.e hi).z (by decide)
    exact ⟨v, hc, _, e1, e2, ⟨_, C⟩, ⟨by show (tkM s h R).1 ≤ _; unfold tkM; omega, by show (tkM s h R).2.1 ≤ _; unfold tkM; omega⟩, (SK.fr A.w (fr_sheet A.e) (by decide)).tr (SK.fr B.w (fr_scr (v := s 50 0) (R := R) B.e hi) (by decide))⟩
end AL7
