/-! sheet, take: all families go on -/
section AL6
variable {s : SS} {h : HS} {F : Nat}
theorem shn_Z {num came : Int32} {d j : Nat} (hd : d = 4 ∨ d = 5) : hI (shn h num came) (h.1 + d) j = 0 := by
  rcases hd with rfl | rfl
  · have e0 : ¬ h.1 + 4 = h.1 := by omega
    have e5 : ¬ h.1 + 4 = (sq8 (hnew h 9 13 (fun _ => 0)) h.1).1 := by rw [sq8_1, h1_W]; omega
    have e : h.1 + 4 = (sq6 (hnew h 9 13 (fun _ => 0)) h.1).1 := by rw [sq6_1, h1_W]
    have : hI (shn h num came) (h.1 + 4) = fun _ => 0 := by
      rw [shn, hsI_ha, hI_In e0, hsI_ha, hI_In e0, sqA, hsR_ha, hI_R, sq9, hI_Wn e5, sq8, hsR_ha, hI_R, sq7, e]; exact hI_W _ _ _ _
    exact congrFun this j
  · have e0 : ¬ h.1 + 5 = h.1 := by omega
    have e : h.1 + 5 = (sq8 (hnew h 9 13 (fun _ => 0)) h.1).1 := by rw [sq8_1, h1_W]
    have : hI (shn h num came) (h.1 + 5) = fun _ => 0 := by
      rw [shn, hsI_ha, hI_In e0, hsI_ha, hI_In e0, sqA, hsR_ha, hI_R, sq9, e]; exact hI_W _ _ _ _
    exact congrFun this j
theorem fr_sheet (E : EV s h) : FR [31, 49, 95, 96, 97] [(32, 2), (86, 14)] nD h (tkB s h) := by
  have f0 : FR [31, 49, 95, 96, 97] [(32, 2), (86, 14)] nD h (shtC (s 0 3) h (nI (s 0 0))) := (shtC_f E.w.1).mo (by decide) (by decide) (fun _ z => z) nD160
  unfold tkB shtM
  exact (((f0.sI (Or.inl (by decide))).sI (Or.inl (by decide))).sI (Or.inl (by decide))).sI (Or.inr (Or.inr (Or.inl (by decide))))
theorem sts_3 : st_sheet s h 0 3 = s 0 3 + 1 := by unfold st_sheet; simp (disch := omega) only [u2_u, u1_eq]
theorem sts_0 {j : Nat} (hj : ¬ j = 3) : st_sheet s h 0 j = s 0 j := by unfold st_sheet; simp (disch := omega) only [u2_u, u2_ne, u1_ne]
theorem sts_30n : st_sheet s h 30 (s 0 3) = h.1 := by unfold st_sheet; simp (disch := omega) only [u2_u, u2_ne, u1_eq]
theorem sts_30 {k : Nat} (hk : ¬ k = s 0 3) : st_sheet s h 30 k = s 30 k := by unfold st_sheet; simp (disch := omega) only [u2_u, u2_ne, u1_ne]
theorem sts_5n : st_sheet s h 5 (s 0 3) = 0 := by unfold st_sheet; simp (disch := omega) only [u2_u, u2_ne, u1_eq]
theorem sts_5 {k : Nat} (hk : ¬ k = s 0 3) : st_sheet s h 5 k = s 5 k := by unfold st_sheet; simp (disch := omega) only [u2_u, u2_ne, u1_ne]
theorem sts_r {r : Nat} (h0 : ¬ r = 0) (h1 : 5 < r) (h30 : ¬ r = 30) : st_sheet s h r = s r := by unfold st_sheet; simp (disch := omega) only [u2_rowne]
theorem ln_sheet (A : AL s h) (hn : s 0 3 < 200) : LNc (st_sheet s h) (tkB s h) := by
  have E := A.e
  have w := A.w
  have f := fr_sheet (s := s) (h := h) E
  obtain ⟨L1, L2, L3⟩ := A.ln0
  have k1 := f.fL w 138 (by decide)
  have k2 := f.fA w 139 (by decide)
  have k3 := f.fA w 140 (by decide)
  have k4 := f.fA w 146 (by decide)
  have oI : ∀ i, i < s 0 3 → ∀ k, k < 6 → ∀ j, hI (tkB s h) (s 30 i + k) j = hI h (s 30 i + k) j := fun i hi k hk j => f.oI (by decide) (by decide) (by have := E.sh.lo hi; omega) (by have := E.sh.hi hi; omega) (fun z => z) j
  have oLo : ∀ i, i < s 0 3 → ∀ k, k < 6 → ∀ j, hL (tkB s h) (s 30 i + k) j = hL h (s 30 i + k) j := fun i hi k hk j => f.oLo (by decide) (by have := E.sh.lo hi; omega) (by have := E.sh.hi hi; omega) (fun z => z) j
  have nz : ∀ d, d = 4 ∨ d = 5 → ∀ j, hI (tkB s h) (h.1 + d) j = 0 := fun d hd j => by
    unfold tkB shtM shtC
    rw [hsI_n (by omega), hsI_n (by omega), hsI_n (by omega), hsI_n (by omega), hsI_n (by omega), hsR_ha, hI_R]
    exact shn_Z hd
  have b0 : ∀ r, bt 0 r = false := fun r => by
    unfold bt
    exact BitVec.getLsbD_zero
  refine ⟨fun i hi j hj => ?_, fun i hi j hj r hr => ?_, fun i hi h2 j hj r hr => ?_⟩
  · rw [sts_3] at hi
    by_cases z : i = s 0 3
    · rw [z, sts_5n] at hj; exact absurd hj (Nat.not_lt_zero j)
    · have hi' : i < s 0 3 := by omega
      rw [sts_5 z] at hj
      rw [sts_30 z, oLo i hi' 1 (by decide), oI i hi' 2 (by decide), oI i hi' 3 (by decide), k1, k2, k3, sts_0 (by decide)]
      exact L1 i hi' j hj
  · rw [sts_3] at hi
    by_cases z : i = s 0 3
    · rw [z, sts_30n, nz 4 (Or.inl rfl), nz 5 (Or.inr rfl), k4, L3 (s 0 3) (Nat.le_refl _) hn j hj r hr]
      unfold thw
      rw [b0]
      rfl
    · have hi' : i < s 0 3 := by omega
      rw [sts_30 z, oI i hi' 4 (by decide), oI i hi' 5 (by decide), k4]
      exact L2 i hi' j hj r hr
  · rw [sts_3] at hi
    rw [k4]
    exact L3 i (by omega) h2 j hj r hr
theorem AL_sheet (A : AL s h) (hn : s 0 3 < 200) : AL (st_sheet s h) (tkB s h) := by
  have E := A.e
  have f := fr_sheet (s := s) (h := h) E
  have z := A.zs0 (s 0 3) (Nat.le_refl _)
  have c := fun j hj => sts_0 (s := s) (h := h) (j := j) hj
  have r := fun x h0 h1 h2 => sts_r (s := s) (h := h) (r := x) h0 h1 h2
  refine ⟨⟨ev_sheet E hn z.1 z.2, di_sheet E A.di, sk_sheet E A.sc0, lk_sheet E A.la0, ct_sheet E A.ct0, rk_sheet E A.rw0, zk_sheet E A.zs0⟩, A.lt f (by decide) (r 50 (by decide) (by decide) (by decide)) (Nat.le_of_eq (c 2 (by decide)).symm), A.tp f (by decide) (Nat.le_of_eq (c 12 (by decide))), A.rd f (by decide) anD_n.1 (c 10 (by decide)) (r 35 (by decide) (by decide) (by decide)) (Nat.le_of_eq (c 4 (by decide)).symm) (by rw [sts_3]; omega) (fun k hk => sts_30 (by omega)), ln_sheet A hn, A.lw' f (by decide) anD_n.2.2 (c 9 (by decide)) (fun x h1 h2 h3 => r x (by omega) (by omega) (by omega)) (fun l i hl hi => ?_), A.of f (by decide) (c 11 (by decide)) (c 4 (by decide)) (Nat.le_of_eq (c 6 (by decide)).symm), A.orc f (by decide) (c 13 (by decide)), A.ctf f (by decide), A.w3 f (by decide)⟩
  rw [sts_3] at hi
  by_cases y : i = s 0 3
  · rw [y, sts_30n]
    have := (A.lw0.1 l hl).1.2.2.1.2
    left; omega
  · rw [sts_30 y]
    exact A.lw0.2.2 l i hl (by omega)
theorem shn_2 (num came : Int32) : (shn h num came).2.1 = h.2.1 + 13 + 20 + 20 + 20 + 20 + 20 := by
  rw [shn, hsI_ha, h2_I, hsI_ha, h2_I, sqA, hsR_ha, h2_R, sq9, h2_W, sq8, hsR_ha, h2_R, sq7, h2_W, sq6, hsR_ha, h2_R, sq5, h2_W, sq4, hsR_ha, h2_R, sq3, h2_W, sq2, hsR_ha, h2_R, sq1, h2_W, sq0, hsI_ha, h2_I, hsI_ha, h2_I, h2_W]
theorem gr_sheet : (tkB s h).1 = h.1 + 6 ∧ (tkB s h).2.1 = h.2.1 + 13 + 20 + 20 + 20 + 20 + 20 := by
  refine ⟨?_, ?_⟩
  · rw [tkB, shtM, hsI_ha, h1_I, hsI_ha, h1_I, hsI_ha, h1_I, hsI_ha, h1_I, shtC, hsI_ha, h1_I, hsR_ha, h1_R]
    exact shn_1 h _ _
  · rw [tkB, shtM, hsI_ha, h2_I, hsI_ha, h2_I, hsI_ha, h2_I, hsI_ha, h2_I, shtC, hsI_ha, h2_I, hsR_ha, h2_R]
    exact shn_2 _ _
theorem al_sheet (A : AL s h) : CO h (p123 h) (fun g => p204 g) := by
  rcases w_sheet A.e with ⟨v, e1, e2⟩ | ⟨v, hn, e1, e2⟩
  · exact CO.n A v e1 e2
  · have g := gr_sheet (s := s) (h := h)
    exact ⟨v, _, _, e1, e2, ⟨_, AL_sheet A hn⟩, ⟨by show (tkB s h).1 ≤ _; omega, by show (tkB s h).2.1 ≤ _; omega⟩, SK.fr A.w (fr_sheet A.e) (by decide)⟩
/-! scraps laid to a sheet -/
def scW : List Nat := [37, 91, 98]
theorem fr_scr (E : EV s h) {i v : Nat} (hi : i < s 0 3) {R : Nat → Int32} : FR scW [] (fun x => x = s 30 i) h (haI (haI (sc_scr s h i v) 37 R) 91 R) := by
  have lo := E.sh.lo hi
  have f0 : FR scW [] (fun x => x = s 30 i) h h := FR.rf (fun x z => by rw [z]; exact lo)
  unfold sc_scr
  exact (((f0.sI (Or.inr (Or.inl rfl))).sI (Or.inl (by decide))).aI (Or.inl (by decide))).aI (Or.inl (by decide))
end AL6
