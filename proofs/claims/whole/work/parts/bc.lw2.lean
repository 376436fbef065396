/-! law: the model; both sides -/
section LWB2
variable {s : SS} {h : HS} {F : Nat}
def lmW : List Nat := [127, 128, 129, 130, 131, 132, 133, 134, 135]
theorem listS (h : HS) : ∃ S : List Nat, hI h 86 68 = nI S.length ∧ ∀ j, j < S.length → hI h 135 j = nI (S.getD j 0) := by
  obtain ⟨m, hm⟩ := nI_any (hI h 86 68)
  refine ⟨(List.range m).map (fun j => (nI_any (hI h 135 j)).choose), ?_, fun j hj => ?_⟩
  · rw [List.length_map, List.length_range]; exact hm
  · rw [List.length_map, List.length_range] at hj
    rw [List.getD_eq_getElem?_getD, List.getElem?_map, List.getElem?_range hj]
    exact (nI_any (hI h 135 j)).choose_spec
theorem lawM {h1 : HS} {n l now : Nat} {β : Nat → Nat} (A : AM h1 n β l) (hF : 3000 ≤ F) {d : Nat} (e1 : hI h1 86 1 = nI now) (d1 : now ≤ d) (d2 : d ≤ 3999) : ∃ g', (∃ e, aTx (tTk n β) (tPl n β) 401 [] (0, 0, []) = Sum.inl e ∧ p267 F h1 (nI d) = some (-2 - nI e, g') ∧ TMZ h1 g' l l) ∨ (∃ r L', aTx (tTk n β) (tPl n β) 401 [] (0, 0, []) = Sum.inr (r, L') ∧ p267 F h1 (nI d) = some (nI l, g') ∧ TMZ h1 g' l (l + 1) ∧ hI g' 127 l = nI d ∧ TMr g' l L' ∧ TMc g' l r.2.2) := by
  have hl := A.2.2.2.2
  have hn := A.2.1.1
  have e58 := A.2.2.2.1
  have r58 : hI (hsI (hsI (hsI (hsI h1 86 53 0) 86 55 0) 86 57 0) 86 67 0) 86 58 = nI l := by
    rw [hsI_k (by decide), hsI_k (by decide), hsI_k (by decide), hsI_k (by decide)]; exact e58
  have z0 : TMf h1 (hsI (hsI (hsI (hsI (hsI h1 86 53 0) 86 55 0) 86 57 0) 86 67 0) 128 l 0) l := ((((TMf.k (by decide)).tr (TMf.k (by decide))).tr (TMf.k (by decide))).tr (TMf.k (by decide))).tr (TMf.wl (Or.inr rfl))
  have f0 : FR [128] [(86, 53), (86, 55), (86, 57), (86, 67)] nD h1 (hsI (hsI (hsI (hsI (hsI h1 86 53 0) 86 55 0) 86 57 0) 86 67 0) 128 l 0) := (((((FR.rf nD160).sI (Or.inr (Or.inr (Or.inl (by decide))))).sI (Or.inr (Or.inr (Or.inl (by decide))))).sI (Or.inr (Or.inr (Or.inl (by decide))))).sI (Or.inr (Or.inr (Or.inl (by decide))))).sI (Or.inl (by decide))
  have pre : p267 F h1 (nI d) = p267_L57 F (nI d) F (hsI (hsI (hsI (hsI (hsI h1 86 53 0) 86 55 0) 86 57 0) 86 67 0) 128 l 0) 1 := by
    unfold p267
    have c1 : p187 h1 (nI d) (hI h1 86 1) 3999 = some 1 := by
      unfold p187
      rw [e1, if_neg (nI_nlt d1 (by omega)), if_neg (show ¬ (3999 : Int32) < nI d from nI_nlt (a := 3999) d2 (by decide))]
    rw [e58, if_neg (show ¬ nI l = 20 from fun z => by have := (nI_eq (b := 20) (by omega) (by decide)).mp z; omega), c1, ob, if_neg n10, r58, nI_clamp (by omega), if_neg (nI_in' hl (by decide)), ob]
  rw [pre]
  have q86 : hI (hsI (hsI (hsI (hsI (hsI h1 86 53 0) 86 55 0) 86 57 0) 86 67 0) 128 l 0) 86 = hI (hsI (hsI (hsI (hsI h1 86 53 0) 86 55 0) 86 57 0) 86 67 0) 86 := hsI_n (by decide)
  have q53 : hI (hsI (hsI (hsI (hsI (hsI h1 86 53 0) 86 55 0) 86 57 0) 86 67 0) 128 l 0) 86 53 = 0 := by rw [q86, hsI_k (by decide), hsI_k (by decide), hsI_k (by decide)]; exact hsI_s _ _ _ _
  have q55 : hI (hsI (hsI (hsI (hsI (hsI h1 86 53 0) 86 55 0) 86 57 0) 86 67 0) 128 l 0) 86 55 = 0 := by rw [q86, hsI_k (by decide), hsI_k (by decide)]; exact hsI_s _ _ _ _
  have q57 : hI (hsI (hsI (hsI (hsI (hsI h1 86 53 0) 86 55 0) 86 57 0) 86 67 0) 128 l 0) 86 57 = 0 := by rw [q86, hsI_k (by decide)]; exact hsI_s _ _ _ _
  have q67 : hI (hsI (hsI (hsI (hsI (hsI h1 86 53 0) 86 55 0) 86 57 0) 86 67 0) 128 l 0) 86 67 = 0 := by rw [q86]; exact hsI_s _ _ _ _
  have q128 : hI (hsI (hsI (hsI (hsI (hsI h1 86 53 0) 86 55 0) 86 57 0) 86 67 0) 128 l 0) 128 l = 0 := hsI_s _ _ _ _
  have A0 : AM (hsI (hsI (hsI (hsI (hsI h1 86 53 0) 86 55 0) 86 57 0) 86 67 0) 128 l 0) n β l := A.fr f0 (by decide)
  generalize hsI (hsI (hsI (hsI (hsI h1 86 53 0) 86 55 0) 86 57 0) 86 67 0) 128 l 0 = h6 at *
  obtain ⟨S, s1, s2⟩ := listS h6
  obtain ⟨dd, hd⟩ := nI_any (hI h6 86 56)
  have K : TM n β l h6 h6 0 (0, 0, []) [] := by
    refine ⟨TMo.rf, ⟨S, dd, ⟨FR.rf nD160, fun j hj => ⟨rfl, rfl⟩⟩, ⟨Nat.zero_le _, rfl⟩, q53, ⟨q55, by decide⟩, hd, q57, q67, s1, s2, fun j hj => absurd hj (Nat.not_lt_zero j)⟩, q128, fun c hc => absurd hc (Nat.not_lt_zero c)⟩
  have hmx := tMx_b (n := n) (β := β) hn
  obtain ⟨g', c⟩ := txM (a0 := nI d) A0 hF 401 F h6 0 (0, 0, []) [] (by show tMx n β - 0 < 401; omega) (by show tMx n β - 0 + 2 < F; omega) K (Nat.zero_le _) (Nat.le_refl _) (Nat.zero_le _) (by decide) rfl
  refine ⟨g', ?_⟩
  rcases c with ⟨e, c1, c2, ⟨c3, c4, c5⟩, -⟩ | ⟨r, L', c1, c2, ⟨c3, c4, c5⟩, c6, c7, c8⟩
  · exact Or.inl ⟨e, c1, c2, z0.tr c3, c4, c5⟩
  · exact Or.inr ⟨r, L', c1, c2, ⟨z0.tr c3, c4, c5⟩, c6, c7, c8⟩
def lwW : List Nat := [31, 59, 60, 62, 63, 64, 65, 66, 127, 128, 129, 130, 131, 132, 133, 134, 135]
def lwK : List (Nat × Nat) := [(57, 0), (57, 2), (61, 2), (61, 3), (61, 4), (61, 5), (61, 6), (32, 3), (86, 52), (86, 53), (86, 54), (86, 55), (86, 56), (86, 57), (86, 58), (86, 67), (86, 68)]
theorem w_law (E : EV s h) (T : TPc s h) (A : STc h) (L : LWc s h) (hF : 3000 ≤ F) (a : Int32) : (∃ v, p144 F h a = some (v, h) ∧ p267 F h a = some (v, h)) ∨ ∃ v h1 h2, p144 F h a = some (v, h1) ∧ p267 F h1 a = some (v, h2) ∧ FR lwW lwK nD h h2 ∧ (h2.1 ≤ h.1 + 6 ∧ h2.2.1 ≤ h.2.1 + 700) ∧ hI h2 57 0 = 0 ∧ hI h2 86 52 = 0 ∧ ((hI h2 32 3 = nI (s 0 9) ∧ hI h2 86 58 = nI (s 0 9) ∧ LWc s h2) ∨ (s 0 9 < 20 ∧ hI h2 32 3 = nI (s 0 9 + 1) ∧ hI h2 86 58 = nI (s 0 9 + 1) ∧ ∃ o d Ls C, h.1 ≤ o ∧ o + 6 ≤ h2.1 ∧ LWc (st_law s o d Ls C) h2)) := by
  have w := E.w.1
  have b9 := E.cn.b9
  have e1 := E.cn.c0
  have e2 := E.cn.m0
  by_cases hl : s 0 9 < 20
  case neg =>
    have l20 : s 0 9 = 20 := by omega
    left
    refine ⟨-1, ?_, ?_⟩
    · unfold p144
      rw [E.cn.c9, l20, if_neg (show ¬ nI 20 < (20 : Int32) by decide)]
    · unfold p267
      rw [E.cn.m9, l20, if_pos (show nI 20 = (20 : Int32) from rfl)]
  case pos =>
  rcases rngN a (s 0 0) 3999 (by have := E.cn.b0; omega) (by decide) with ⟨h1, h2⟩ | ⟨h1, h2, d, d1, d2, rfl⟩
  · left
    refine ⟨-1, ?_, ?_⟩
    · unfold p144
      rw [E.cn.c9, if_pos (show nI (s 0 9) < 20 from nI_lt (b := 20) hl (by decide)), e1, lz3999, h1, ob, if_pos rfl]
    · unfold p267
      rw [E.cn.m9, if_neg (show ¬ nI (s 0 9) = 20 from fun z => by have := (nI_eq (b := 20) (by omega) (by decide)).mp z; omega), e2, lz3999, h2, ob, if_pos rfl]
  · right
    obtain ⟨hc, cC⟩ := lawC (F := F) E T A hF d1 d2 hl
    obtain ⟨B, b126⟩ := btp_c E T
    have fc : FR lcW lcK nD h hc := by rcases cC with ⟨e, -, -, f, -⟩ | ⟨r, L', -, -, -, -, f, -⟩ <;> exact f
    have gc : hc.1 ≤ h.1 + 6 ∧ hc.2.1 ≤ h.2.1 + 700 := by rcases cC with ⟨e, -, -, -, z, -⟩ | ⟨r, L', -, -, -, -, -, z, -⟩ <;> exact z
    have c57 : hI hc 57 0 = 0 := by rcases cC with ⟨e, -, -, -, -, x, -⟩ | ⟨r, L', -, -, -, -, -, -, x, -⟩ <;> exact x
    have wc : 160 ≤ hc.1 := Nat.le_trans w fc.1
    have AMc : AM hc (s 0 12) (btp h) (s 0 9) := ⟨wc, ⟨B.1, (fc.fI w 86 52 (by decide)).trans E.cn.m12, fun j hj => ⟨(B.2.2 j hj).1, by rw [fc.fA w 126 (by decide)]; exact b126 j hj⟩⟩, A.fr w fc (by decide), (fc.fI w 86 58 (by decide)).trans E.cn.m9, hl⟩
    obtain ⟨g, cM⟩ := lawM (F := F) AMc hF ((fc.fI w 86 1 (by decide)).trans e2) d1 d2
    have fin : ∀ x, TMZ hc g (s 0 9) x → FR lwW lwK nD h g ∧ (g.1 ≤ h.1 + 6 ∧ g.2.1 ≤ h.2.1 + 700) ∧ hI g 57 0 = 0 ∧ hI g 86 52 = 0 ∧ (∀ l, l < s 0 9 → hR hc 66 l = hR h 66 l → lwP s g l) := by
      intro x ⟨⟨m1, m2, m3, m4⟩, m5, _⟩
      have fa : FR lwW lwK nD h hc := fc.mo (by decide) (by decide) (fun _ z => z) nD160
      have fb : FR lwW lwK nD hc g := m1.mo (by decide) (by decide) (fun _ z => z) nD160
      have zm := m1.z (by decide)
      refine ⟨fa.tr fb, ⟨by omega, by omega⟩, by rw [m1.fI wc 57 0 (by decide)]; exact c57, m5, fun l hl' k66 => ?_⟩
      refine lwP.gn (L.1 l hl') w (fa.tr fb) (by decide) ((congrFun (m1.fR wc 66 (by decide)) l).trans k66) ?_ (fun c hc' => ?_) (fun k hk => ?_)
      · rw [(m2 l (by omega)).1, (m2 l (by omega)).2, fc.fA w 127 (by decide), fc.fA w 128 (by decide)]; exact ⟨rfl, rfl⟩
      · obtain ⟨q1, q2, q3, q4⟩ := m3 (12 * l + c) (by omega)
        rw [q1, q2, q3, q4, fc.fA w 129 (by decide), fc.fA w 130 (by decide), fc.fA w 131 (by decide), fc.fA w 132 (by decide)]; exact ⟨rfl, rfl, rfl, rfl⟩
      · obtain ⟨q1, q2⟩ := m4 (400 * l + k) (by omega)
        rw [q1, q2, fc.fA w 133 (by decide), fc.fA w 134 (by decide)]; exact ⟨rfl, rfl⟩
    rcases cC with ⟨e, a1, a2, -, -, -, a3, a4⟩ | ⟨r, L', a1, X, hC, a2, -, -, -, a3, o, o1, o2, o3, o4, N⟩
    · rcases cM with ⟨e', b1, b2', Z⟩ | ⟨r', L'', b1, -⟩
      · rw [a1] at b1
        injection b1 with b1
        subst b1
        obtain ⟨f, xg, x1, x2, x3⟩ := fin _ Z
        refine ⟨_, hc, g, a2, b2', f, xg, x1, x2, Or.inl ⟨?_, Z.2.2, fun l hl' => x3 l hl' (by rw [a4]), L.2⟩⟩
        rw [Z.1.1.fI wc 32 3 (by decide)]; exact a3
      · rw [a1] at b1; cases b1
    · rcases cM with ⟨e', b1, -⟩ | ⟨r', L'', b1, b2', Z, b3, b4, b5⟩
      · rw [a1] at b1; cases b1
      · rw [a1] at b1
        injection b1 with b1
        injection b1 with y1 y2
        subst y1
        subst y2
        obtain ⟨f, xg, x1, x2, x3⟩ := fin _ Z
        have m1 := Z.1.1
        have o2g : o + 6 ≤ g.1 := Nat.le_trans o2 m1.1
        refine ⟨_, hc, g, a2, b2', f, xg, x1, x2, Or.inr ⟨hl, ?_, Z.2.2, o, d, L', r.2.2, o1, o2g, ?_⟩⟩
        · rw [m1.fI wc 32 3 (by decide)]; exact a3
        · have oI : ∀ x, x < 6 → ∀ j, hI g (o + x) j = hI hc (o + x) j := fun x hx j => m1.oI (by decide) (by decide) (by omega) (by omega) (fun z => z) j
          have oR : ∀ j, hR g o j = hR hc o j := fun j => m1.oR (by decide) (by omega) (by omega) (fun z => z) j
          have oT : ∀ x, x < 6 → hT g (o + x) = hT hc (o + x) ∧ hN g (o + x) = hN hc (o + x) := fun x hx => ⟨m1.T (by omega), m1.N (by omega)⟩
          have Ng : NLO g o d L' r.2.2 := by
            obtain ⟨⟨n1, n2, n3⟩, n4, n5, n6, n7⟩ := N
            have T0 := (oT 0 (by decide)).1
            have I0 : ∀ j, hI g o j = hI hc o j := oI 0 (by decide)
            refine ⟨⟨T0.trans n1, (I0 0).trans n2, (I0 1).trans n3⟩, ?_, ?_, fun c hc' => ?_, fun k hk => ?_⟩
            · rw [oR, oR, oR, oR, oR]; exact n4
            · rw [(oT 1 (by decide)).1, (oT 1 (by decide)).2, (oT 2 (by decide)).1, (oT 2 (by decide)).2, (oT 3 (by decide)).1, (oT 3 (by decide)).2, (oT 4 (by decide)).1, (oT 4 (by decide)).2, (oT 5 (by decide)).1, (oT 5 (by decide)).2]; exact n5
            · rw [oI 2 (by decide), oI 3 (by decide), oI 4 (by decide)]; exact n6 c hc'
            · rw [oI 5 (by decide)]; exact n7 k hk
          have pn : lwP (st_law s o d L' r.2.2) g (s 0 9) := lwP.nw X hC d2 ⟨by omega, o2g⟩ (by rw [m1.fR wc 66 (by decide)]; exact o3) Ng b3 b4 b5
          have po : ∀ l, l < s 0 9 → lwP (st_law s o d L' r.2.2) g l := fun l hl' => (x3 l hl' (o4 l (by omega))).st ((stl_34 l).trans (if_neg (by omega))) ((stl_45 l).trans (if_neg (by omega))) ((stl_46 l).trans (if_neg (by omega))) ((stl_47 l).trans (if_neg (by omega))) (stl_r (by omega) (by omega)) (stl_r (by omega) (by omega)) (stl_r (by omega) (by omega)) (stl_r (by omega) (by omega))
          have up : ∀ l, l < s 0 9 → s 34 l + 6 ≤ h.1 := fun l hl' => (L.1 l hl').1.2.2.1.2
          refine ⟨fun l hl' => ?_, fun l m hl' hm' lm => ?_, fun l i hl' hi => ?_⟩
          · rw [stl_09] at hl'
            by_cases z : l = s 0 9
            · rw [z]; exact pn
            · exact po l (by omega)
          · rw [stl_09] at hl' hm'
            rw [stl_34, stl_34]
            by_cases z : l = s 0 9
            · have := up m (by omega)
              rw [if_pos z, if_neg (by omega)]
              right; omega
            · by_cases y : m = s 0 9
              · have := up l (by omega)
                rw [if_neg z, if_pos y]
                left; omega
              · rw [if_neg z, if_neg y]
                exact L.2.1 l m (by omega) (by omega) lm
          · rw [stl_09] at hl'
            rw [stl_0 (by decide) (by decide)] at hi
            rw [stl_34, stl_r (r := 30) (by decide) (by omega)]
            by_cases z : l = s 0 9
            · have := E.sh.hi hi
              rw [if_pos z]
              right; omega
            · rw [if_neg z]
              exact L.2.2 l i (by omega) hi
end LWB2
