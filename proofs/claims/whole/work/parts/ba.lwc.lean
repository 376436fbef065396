/-! law: the class -/
section LWC1
variable {s : SS} {h : HS} {F : Nat}
def btp (h : HS) (j : Nat) : Nat := (hI h 58 j).toNatClampNeg
theorem btp_c (E : EV s h) (T : TPc s h) : BYc h (s 0 12) (btp h) ∧ ∀ j, j < s 0 12 → hI h 126 j = sb (btp h j) := by
  refine ⟨⟨E.cn.b12, E.cn.c12, fun j hj => ?_⟩, fun j hj => ?_⟩
  · obtain ⟨b, h1, h2, h3⟩ := T j hj
    unfold btp
    rw [h2, nI_clamp (by omega)]
    exact ⟨h1, rfl⟩
  · obtain ⟨b, h1, h2, h3⟩ := T j hj
    unfold btp
    rw [h2, nI_clamp (by omega)]
    exact h3
theorem tTk_lt {n : Nat} {β : Nat → Nat} (k : Nat) : tTk n β k < 20000 := by
  unfold tTk
  by_cases z : tPl n β k < n
  · rw [if_pos z]
    rcases tkn_c (β := β) z with ⟨-, b, -⟩ | ⟨-, -, -, b, -⟩ | ⟨-, -, b, -⟩
    · omega
    · omega
    · have := sgT_r (β (tPl n β k)) (decide (tEn n β (tPl n β k) = tPl n β k + 2)); omega
  · rw [if_neg z]; decide
theorem okT_lt {t : Nat} (h : okT t) : t < 20000 := by
  rcases h with z | z | z | z
  · omega
  · omega
  · omega
  · unfold isJ at z
    have := of_decide_eq_true z
    omega
def lcW : List Nat := [31, 59, 60, 62, 63, 64, 65, 66]
def lcK : List (Nat × Nat) := [(57, 0), (57, 2), (61, 2), (61, 3), (61, 4), (61, 5), (61, 6), (32, 3)]
/-- a law object as it must be -/
def NLO (h1 : HS) (o d : Nat) (L : List CLE) (C : List Nat) : Prop := (hT h1 o = 1 ∧ hI h1 o 0 = nI d ∧ hI h1 o 1 = b2 (anyN (fun k => decide (C.getD k 0 = 10012)) C.length)) ∧ (hR h1 o 6 = some (o + 1) ∧ hR h1 o 3 = some (o + 2) ∧ hR h1 o 2 = some (o + 3) ∧ hR h1 o 4 = some (o + 4) ∧ hR h1 o 5 = some (o + 5)) ∧ ((hT h1 (o + 1) = 23 ∧ hN h1 (o + 1) = 80) ∧ (hT h1 (o + 2) = 20 ∧ hN h1 (o + 2) = L.length) ∧ (hT h1 (o + 3) = 20 ∧ hN h1 (o + 3) = L.length) ∧ (hT h1 (o + 4) = 20 ∧ hN h1 (o + 4) = L.length) ∧ (hT h1 (o + 5) = 20 ∧ hN h1 (o + 5) = C.length)) ∧ (∀ c, c < L.length → hI h1 (o + 2) c = nI (10021 + (L.getD c (0, 0, 0)).1) ∧ hI h1 (o + 3) c = nI (L.getD c (0, 0, 0)).2.1 ∧ hI h1 (o + 4) c = nI (L.getD c (0, 0, 0)).2.2) ∧ ∀ k, k < C.length → hI h1 (o + 5) k = nI (C.getD k 0)
theorem lawC (E : EV s h) (T : TPc s h) (A : STc h) (hF : 3000 ≤ F) {d : Nat} (d1 : s 0 0 ≤ d) (d2 : d ≤ 3999) (hl : s 0 9 < 20) : ∃ h1, (∃ e, aTx (tTk (s 0 12) (btp h)) (tPl (s 0 12) (btp h)) 401 [] (0, 0, []) = Sum.inl e ∧ p144 F h (nI d) = some (-2 - nI e, h1) ∧ FR lcW lcK nD h h1 ∧ (h1.1 ≤ h.1 + 6 ∧ h1.2.1 ≤ h.2.1 + 700) ∧ hI h1 57 0 = 0 ∧ hI h1 32 3 = nI (s 0 9) ∧ hR h1 66 = hR h 66) ∨ (∃ r L', aTx (tTk (s 0 12) (btp h)) (tPl (s 0 12) (btp h)) 401 [] (0, 0, []) = Sum.inr (r, L') ∧ TXI L' r.2.2 ∧ r.2.2.length ≤ 400 ∧ p144 F h (nI d) = some (nI (s 0 9), h1) ∧ FR lcW lcK nD h h1 ∧ (h1.1 ≤ h.1 + 6 ∧ h1.2.1 ≤ h.2.1 + 700) ∧ hI h1 57 0 = 0 ∧ hI h1 32 3 = nI (s 0 9 + 1) ∧ ∃ o, h.1 ≤ o ∧ o + 6 ≤ h1.1 ∧ hR h1 66 (s 0 9) = some o ∧ (∀ j, ¬ j = s 0 9 → hR h1 66 j = hR h 66 j) ∧ NLO h1 o d L' r.2.2) := by
  have w := E.w.1
  obtain ⟨B, -⟩ := btp_c E T
  have hn := B.1
  have hmx := tMx_b (n := s 0 12) (β := btp h) hn
  obtain ⟨g1, e1, f1, t1⟩ := scanC (F := F) B A w (by omega)
  have f1' : FR lcW lcK nD h g1 := f1.mo (by decide) (by decide) (fun _ z => z) nD160
  have f2 : FR lcW lcK nD h (hsI g1 57 0 0) := f1'.sI (Or.inr (Or.inr (Or.inl (by decide))))
  have w2 : 160 ≤ (hsI g1 57 0 0).1 := Nat.le_trans w f2.1
  have B2 : TB (hsI g1 57 0 0) (tTk (s 0 12) (btp h)) (tPl (s 0 12) (btp h)) (tMx (s 0 12) (btp h)) := by
    refine ⟨by omega, tTk_m hn, fun k hk => ?_⟩
    have r59 : hI (hsI g1 57 0 0) 59 = hI g1 59 := hsI_n (by decide)
    have r60 : hI (hsI g1 57 0 0) 60 = hI g1 60 := hsI_n (by decide)
    rw [r59, r60]
    have := (tPl_b (n := s 0 12) (β := btp h) k).1
    exact ⟨(t1 k (by omega)).1, tTk_lt k, (t1 k (by omega)).2, by omega⟩
  obtain ⟨g, e2, c⟩ := cTxt (F := F) B2 w2 (by omega)
  have r57 : hI (hsI g1 57 0 0) 57 0 = 0 := hsI_s _ _ _ _
  have pre : p144 F h (nI d) = Option.bind (p30 F (hsI g1 57 0 0)) fun r7 => if (r7.1) = (0 : Int32) then (Option.bind (some (hnew (r7.2) 1 7 (fun _ => 0))) fun h10 => Option.bind (p24 F (h10) ((r7.2).1) (nI d)) fun r13 => if hT (r13) ((r7.2).1) = 1 then if (hI (r7.2) (32) 3) < (0 : Int32) ∨ 20 ≤ (hI (r7.2) (32) 3).toNatClampNeg then none else Option.bind (some (hsI (hsR (r13) (66) (hI (r7.2) (32) 3).toNatClampNeg (some ((r7.2).1))) (32) 3 ((hI (hsR (r13) (66) (hI (r7.2) (32) 3).toNatClampNeg (some ((r7.2).1))) (32) 3) + (1)))) fun h17 => some (hI (hsR (r13) (66) (hI (r7.2) (32) 3).toNatClampNeg (some ((r7.2).1))) (32) 3, h17) else none) else (some (((-2)) - (r7.1), r7.2)) := by
    unfold p144
    have c1 : p166 h (nI d) (hI h 32 0) 3999 = some 1 := by
      unfold p166
      have b0 := E.cn.b0
      rw [E.cn.c0, if_neg (nI_nlt d1 (by omega)), if_neg (show ¬ (3999 : Int32) < nI d from nI_nlt (a := 3999) d2 (by decide))]
    rw [E.cn.c9, if_pos (show nI (s 0 9) < 20 from nI_lt (b := 20) hl (by decide)), c1, ob, if_neg n10, e1, ob]
  rw [pre, e2, ob]
  rcases c with ⟨e, ea, Ke⟩ | ⟨r, L', ea, K, hrm, hrl, X⟩
  · rw [ea]
    have fg : FR lcW lcK nD h g := f2.tr (Ke.1.mo (by decide) (by decide) (fun _ z => z) nD160)
    have zf := f1.z (by decide)
    have zk := Ke.1.z (by decide)
    have z2 : (hsI g1 57 0 0).1 = g1.1 ∧ (hsI g1 57 0 0).2.1 = g1.2.1 := ⟨rfl, rfl⟩
    refine ⟨g, Or.inl ⟨e, rfl, ?_, fg, ⟨by omega, by omega⟩, ?_, ?_, ?_⟩⟩
    · show (if nI e = 0 then _ else some (-2 - nI e, g)) = _
      rw [if_neg (nI_ne0 Ke.2.2.1 (by have := Ke.2.2.2; omega))]
    · rw [Ke.1.fI w2 57 0 (by decide)]; exact r57
    · rw [Ke.1.fI w2 32 3 (by decide), hsI_n (by decide), f1.fI w 32 3 (by decide)]; exact E.cn.c9
    · rw [Ke.1.fR w2 66 (by decide)]; exact f1.fR w 66 (by decide)
  · rw [ea]
    obtain ⟨k1, k2, k3, k4⟩ := K
    have wg : 160 ≤ g.1 := Nat.le_trans w2 k1.1
    have fg : FR lcW lcK nD h g := f2.tr (k1.mo (by decide) (by decide) (fun _ z => z) nD160)
    have Wg : WF g := E.w.fr fg (by decide)
    have e9 : hI g 32 3 = nI (s 0 9) := by rw [k1.fI w2 32 3 (by decide), hsI_n (by decide), f1.fI w 32 3 (by decide)]; exact E.cn.c9
    have hC : r.2.2.length ≤ 400 := by omega
    obtain ⟨g', e3, N⟩ := p24M (F := F) (a0 := nI d) wg k3 X.1 k2.2.2.2.2.1 hC ⟨(Wg.n 62 (by decide)).trans (by decide), (Wg.n 63 (by decide)).trans (by decide), (Wg.n 64 (by decide)).trans (by decide), (Wg.n 65 (by decide)).trans (by decide)⟩ (C := fun j => r.2.2.getD j 0) (fun j hj => ⟨k2.2.2.2.2.2 j hj, okT_lt (X.2.1 _ (by rw [gd_l hj]; exact List.getElem_mem hj))⟩) (by omega)
    obtain ⟨n1, n2, nz, ⟨n3, n4, n5⟩, n6, n7, n8, n9, n10', n11⟩ := N
    have zf := f1.z (by decide)
    have zk := k1.z (by decide)
    have z2 : (hsI g1 57 0 0).1 = g1.1 ∧ (hsI g1 57 0 0).2.1 = g1.2.1 := ⟨rfl, rfl⟩
    have c12 := X.1
    have wg' : 160 ≤ g'.1 := by omega
    have f3 : FR lcW lcK nD h g' := fg.tr (n1.mo (by decide) (by decide) (fun _ z => z) nD160)
    have f4 : FR lcW lcK nD h (hsI (hsR g' 66 (s 0 9) (some g.1)) 32 3 (nI (s 0 9 + 1))) := (f3.sR (Or.inl (by decide))).sI (Or.inr (Or.inr (Or.inl (by decide))))
    have e9' : hI (hsR g' 66 (s 0 9) (some g.1)) 32 3 = nI (s 0 9) := (n1.fI wg 32 3 (by decide)).trans e9
    have rI : ∀ x, ¬ x = 32 → hI (hsI (hsR g' 66 (s 0 9) (some g.1)) 32 3 (nI (s 0 9 + 1))) x = hI g' x := fun x hx => hsI_n hx
    have rT : ∀ x, hT (hsI (hsR g' 66 (s 0 9) (some g.1)) 32 3 (nI (s 0 9 + 1))) x = hT g' x := fun x => Eq.trans rfl rfl
    have rN : ∀ x, hN (hsI (hsR g' 66 (s 0 9) (some g.1)) 32 3 (nI (s 0 9 + 1))) x = hN g' x := fun x => Eq.trans rfl rfl
    have rR : ∀ x j, ¬ x = 66 → hR (hsI (hsR g' 66 (s 0 9) (some g.1)) 32 3 (nI (s 0 9 + 1))) x j = hR g' x j := fun x j hx => if_neg (fun z => hx z.1)
    have rRl : hR (hsI (hsR g' 66 (s 0 9) (some g.1)) 32 3 (nI (s 0 9 + 1))) 66 (s 0 9) = some g.1 := if_pos ⟨rfl, rfl⟩
    have rRj : ∀ j, ¬ j = s 0 9 → hR (hsI (hsR g' 66 (s 0 9) (some g.1)) 32 3 (nI (s 0 9 + 1))) 66 j = hR g' 66 j := fun j hj => if_neg (fun z => hj z.2)
    have r32 : hI (hsI (hsR g' 66 (s 0 9) (some g.1)) 32 3 (nI (s 0 9 + 1))) 32 3 = nI (s 0 9 + 1) := hsI_s _ _ _ _
    refine ⟨hsI (hsR g' 66 (s 0 9) (some g.1)) 32 3 (nI (s 0 9 + 1)), Or.inr ⟨r, L', rfl, X, hC, ?_, f4, ⟨by show g'.1 ≤ h.1 + 6; omega, by show g'.2.1 ≤ h.2.1 + 700; omega⟩, ?_, r32, g.1, fg.1, ?_, rRl, fun j hj => ?_, ?_⟩⟩
    · show (if (0 : Int32) = 0 then (Option.bind (some (hnew g 1 7 (fun _ => 0))) fun h10 => Option.bind (p24 F h10 g.1 (nI d)) fun r13 => if hT r13 g.1 = 1 then if (hI g 32 3) < (0 : Int32) ∨ 20 ≤ (hI g 32 3).toNatClampNeg then none else Option.bind (some (hsI (hsR r13 66 (hI g 32 3).toNatClampNeg (some g.1)) 32 3 ((hI (hsR r13 66 (hI g 32 3).toNatClampNeg (some g.1)) 32 3) + 1))) fun h17 => some (hI (hsR r13 66 (hI g 32 3).toNatClampNeg (some g.1)) 32 3, h17) else none) else some (-2 - 0, g)) = _
      rw [if_pos rfl, ob, e3, ob, if_pos n3, e9, nI_clamp (by omega), if_neg (nI_in' hl (by decide)), ob, e9', nI_1]
    · rw [rI 57 (by decide), n1.fI wg 57 0 (by decide), k1.fI w2 57 0 (by decide)]; exact r57
    · show g.1 + 6 ≤ g'.1; omega
    · rw [rRj j hj, n1.fR wg 66 (by decide), k1.fR w2 66 (by decide)]; exact congrFun (f1.fR w 66 (by decide)) j
    · refine ⟨⟨(rT _).trans n3, (by rw [rI _ (by omega)]; exact n4), (by rw [rI _ (by omega)]; exact n5)⟩, ?_, ?_, fun c hc => ?_, fun k hk => ?_⟩
      · rw [rR _ _ (by omega), rR _ _ (by omega), rR _ _ (by omega), rR _ _ (by omega), rR _ _ (by omega)]; exact n6
      · rw [rT, rT, rT, rT, rT, rN, rN, rN, rN, rN]; exact n7
      · rw [rI _ (by omega), rI _ (by omega), rI _ (by omega), n8, n9, n10', cpy_l hc, cpy_l hc, cpy_l hc]
        exact k4 c hc
      · rw [rI _ (by omega), n11, cpy_l hk]
        exact k2.2.2.2.2.2 k hk
end LWC1
