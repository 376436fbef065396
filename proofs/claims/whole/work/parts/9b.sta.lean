/-! stands, lose, back -/
def stB (s : SS) (c q g d : Nat) : Bool := decide (d < g) && (cand s c d q && decide (ndV s c d ≤ nR s c d + nB s c d))
section STA
variable {s : SS} {h : HS}
theorem staC (E : EV s h) (L : LWc s h) (R : RWc h) {f c q g d : Nat} (hf : f < 60) (hq : q < s 0 4) (hc : c < s 0 6) (hg : okDy g 3999) (e1 : hI h 149 f = nI q) (e2 : hI h 150 f = nI c) (e3 : hI h 72 f = nI (dC g)) (hd : d ≤ 3999) {F : Nat} (hF : 1000 ≤ F) : ∃ g', FR ruW [] (stk s) h g' ∧ p185 F h (nI f) (nI d) = some (b2 (stB s c q g d), g') := by
  have b4 := E.cn.b4
  have b6' := E.cn.b6
  have b7 := E.cn.b7
  have b8 := E.cn.b8
  have r69 : hI h 69 = hI h 149 := R.2.2.2.2.2.1
  have r70 : hI h 70 = hI h 150 := R.2.2.2.2.2.2.1
  obtain ⟨z1, z2, -, -⟩ := dC_b (Nat.le_refl 3999) hg hd
  have gf : ¬ (nI f < 0 ∨ 60 ≤ f) := nI_in' hf (by decide)
  have m1 : nR s c d ≤ s 0 7 := cnt_le _ _
  have m2 : nB s c d ≤ s 0 8 := cnt_le _ _
  have m3 := ndV_le L c d
  obtain ⟨x, hx, hxb⟩ := candC E (c := c) (d := d) (by omega) hd hF
  unfold p185
  rw [nI_clamp (n := f) (by omega), if_neg gf, if_neg gf, e3, r69, r70, e1, e2, hx, ob, if_neg gf]
  unfold stB
  by_cases h1 : d < g
  · rw [if_pos (nI_lt (z2.mpr h1) (by omega)), decide_eq_true h1, Bool.true_and]
    simp only [b6_tst (w := x) (k := q) (by omega)]
    rw [hxb q (by omega), decide_eq_true hq, Bool.true_and, if_F]
    cases hca : cand s c d q with
    | false => exact ⟨h, FR.rf (stk160 L), rfl⟩
    | true =>
      obtain ⟨g', f', e'⟩ := ndC E L (c := c) (by omega) hd hF
      rw [if_pos rfl, nRC E (by omega) hd hF, ob, nBC E (by omega) hd hF, ob, e', ob, nI_add, Bool.true_and]
      refine ⟨g', f', ?_⟩
      by_cases h2 : ndV s c d ≤ nR s c d + nB s c d
      · rw [if_neg (nI_nlt h2 (by omega)), decide_eq_true h2]; rfl
      · rw [if_pos (nI_lt (by omega) (by omega)), decide_eq_false h2]; rfl
  · rw [if_neg (nI_nlt (by have := z2; omega) (by omega)), decide_eq_false h1]
    exact ⟨h, FR.rf (stk160 L), rfl⟩
theorem staM (E : EV s h) (L : LWc s h) {f c q g d : Nat} (hf : f < 60) (hq : q < s 0 4) (hc : c < s 0 6) (hg : okDy g 3999) (e1 : hI h 149 f = nI q) (e2 : hI h 150 f = nI c) (e3 : hI h 152 f = nI g) (hd : d ≤ 3999) {F : Nat} (hF : 1000 ≤ F) : ∃ g', FR ruW [] (stk s) h g' ∧ p295 F h (nI f) (nI d) = some (b2 (stB s c q g d), g') := by
  have b4 := E.cn.b4
  have b6' := E.cn.b6
  have b7 := E.cn.b7
  have b8 := E.cn.b8
  have z1 : g ≤ 100000 := by unfold okDy at hg; omega
  have gf : ¬ (nI f < 0 ∨ 60 ≤ f) := nI_in' hf (by decide)
  have m1 : nR s c d ≤ s 0 7 := cnt_le _ _
  have m2 : nB s c d ≤ s 0 8 := cnt_le _ _
  have m3 := ndV_le L c d
  have hle : outN s c q d ≤ s 0 7 := fsN_le _ _
  unfold p295
  rw [nI_clamp (n := f) (by omega), if_neg gf, if_neg gf, if_neg gf, e1, e2, e3, outM E (by omega) (by omega) hd hF, ob]
  simp (disch := omega) only [opI_m1]
  unfold stB
  by_cases h1 : d < g
  · rw [if_pos (nI_lt h1 (by omega)), decide_eq_true h1, Bool.true_and]
    by_cases h3 : outN s c q d = s 0 7
    · have hca : cand s c d q = true := decide_eq_true h3
      obtain ⟨g', f', e'⟩ := ndM E L (c := c) (by omega) hd hF
      rw [if_pos h3, hca, nRM E (by omega) hd hF, ob, nBM E (by omega) hd hF, ob, e', ob, nI_add, Bool.true_and]
      refine ⟨g', f', ?_⟩
      by_cases h2 : ndV s c d ≤ nR s c d + nB s c d
      · rw [if_neg (nI_nlt h2 (by omega)), decide_eq_true h2]; rfl
      · rw [if_pos (nI_lt (by omega) (by omega)), decide_eq_false h2]; rfl
    · have hca : cand s c d q = false := decide_eq_false h3
      rw [if_neg h3, hca]
      exact ⟨h, FR.rf (stk160 L), rfl⟩
  · rw [if_neg (nI_nlt (by omega) (by omega)), decide_eq_false h1]
    exact ⟨h, FR.rf (stk160 L), rfl⟩
theorem fnd (E : EV s h) (a : Int32) : (p62 h a = some 0 ∧ ∀ g, hI g 86 85 = nI (s 0 11) → p187 g a 0 (hI g 86 85 - 1) = some 0) ∨ ∃ i, i < s 0 11 ∧ a = nI i ∧ p62 h (nI i) = some 1 ∧ ∀ g, hI g 86 85 = nI (s 0 11) → p187 g (nI i) 0 (hI g 86 85 - 1) = some 1 := by
  have b11 := E.cn.b11
  unfold p62
  rw [E.cn.c11]
  rcases ixc a (s 0 11) (by omega) with ⟨h1, h2, -⟩ | ⟨i, hi, rfl, h1, h2⟩
  · exact Or.inl ⟨by rw [h1]; rfl, fun g hg => by rw [hg]; exact h2 g⟩
  · exact Or.inr ⟨i, hi, rfl, by rw [h1]; rfl, fun g hg => by rw [hg]; exact h2 g⟩
theorem w_stands (E : EV s h) (L : LWc s h) (R : RWc h) (O : OFc s h) {F : Nat} (hF : 1000 ≤ F) (a b : Int32) : ∃ v h1 h2, p156 F h a b = some (v, h1) ∧ p296 F h1 a b = some (v, h2) ∧ FR ruW [] (stk s) h h2 := by
  have w := E.w.1
  have b11 := E.cn.b11
  have no : ∀ v, p156 F h a b = some (v, h) → p296 F h a b = some (v, h) → ∃ v h1 h2, p156 F h a b = some (v, h1) ∧ p296 F h1 a b = some (v, h2) ∧ FR ruW [] (stk s) h h2 := fun v e1 e2 => ⟨v, h, h, e1, e2, FR.rf (stk160 L)⟩
  rcases fnd E a with ⟨h1, h2⟩ | ⟨f, hf, rfl, h1, h2⟩
  · refine no (-1) ?_ ?_
    · unfold p156; rw [h1]; rfl
    · unfold p296; rw [h2 h E.cn.m11]; rfl
  · rcases dayc b with ⟨h3, h4⟩ | ⟨d, hd, rfl, h3, h4⟩
    · refine no (-1) ?_ ?_
      · unfold p156 p167; rw [h1, h3]; rfl
      · unfold p296 p188; rw [h2 h E.cn.m11, h4]; rfl
    · obtain ⟨q, c, t, g, hq, hc, ht, hg, e1, e2, e3, e4, e5, -⟩ := O.1 f hf
      have r71 : hI h 71 = hI h 151 := R.2.2.2.2.2.2.2.1
      have gf : ¬ (nI f < 0 ∨ 60 ≤ f) := nI_in' (by omega) (by decide)
      by_cases h5 : d < t
      · refine no (-1) ?_ ?_
        · unfold p156 p167
          rw [h1, ob, if_neg n10, h3, ob, if_pos (Or.inr rfl), ob, if_neg n10, nI_clamp (n := f) (by omega), if_neg gf, r71, e3, if_pos (nI_lt h5 (by omega))]
        · unfold p296 p188
          rw [h2 h E.cn.m11, ob, if_neg n10, h4, ob, if_pos (Or.inr rfl), ob, if_neg n10, nI_clamp (n := f) (by omega), if_neg gf, e3, if_pos (nI_lt h5 (by omega))]
      · obtain ⟨g1, f1, x1⟩ := staC E L R (f := f) (by omega) hq hc hg e1 e2 e5 hd hF
        have E1 : EV s g1 := E.fr f1 (by decide) (stk_evD E L)
        have L1 : LWc s g1 := L.fr w f1 (by decide) (stk_lw L)
        have k : ∀ a, a ∈ [149, 150, 151, 152] → hI g1 a f = hI h a f := fun a m => by
          have hz : ∀ a, a ∈ [149, 150, 151, 152] → a < 160 ∧ ¬ a ∈ ruW ∧ ¬ a ∈ ([] : List (Nat × Nat)).map (fun p => p.1) := by decide
          exact congrFun (f1.fA w a (hz a m)) f
        obtain ⟨g2, f2, x2⟩ := staM E1 L1 (f := f) (by omega) hq hc hg ((k 149 (by decide)).trans e1) ((k 150 (by decide)).trans e2) ((k 152 (by decide)).trans e4) hd hF
        have bb : ∀ (b : Bool) (h : HS), (if b2 b = 0 then (some ((0 : Int32), h)) else some (1, h)) = some (b2 b, h) := fun b h => by cases b <;> rfl
        refine ⟨b2 (stB s c q g d), g1, g2, ?_, ?_, f1.tr f2⟩
        · unfold p156 p167
          rw [h1, ob, if_neg n10, h3, ob, if_pos (Or.inr rfl), ob, if_neg n10, nI_clamp (n := f) (by omega), if_neg gf, r71, e3, if_neg (nI_nlt (by omega) (by omega)), x1, ob]
          exact bb _ _
        · unfold p296 p188
          rw [h2 g1 E1.cn.m11, ob, if_neg n10, h4, ob, if_pos (Or.inr rfl), ob, if_neg n10, nI_clamp (n := f) (by omega), if_neg gf, k 151 (by decide), e3, if_neg (nI_nlt (by omega) (by omega)), x2, ob]
          exact bb _ _
/-- after lose: the person's row on both sides -/
theorem w_lose (E : EV s h) (L : LWc s h) (R : RWc h) (O : OFc s h) {F : Nat} (hF : 1000 ≤ F) (a : Int32) : ∃ v h1 h2, p159 F h a = some (v, h1) ∧ p298 F h1 a = some (v, h2) ∧ FR (ruW ++ [75, 101]) [] (stk s) h h2 ∧ hI h2 75 = hI h2 101 ∧ ∀ q, q < s 0 4 → hI h2 101 q = -1 ∨ ∃ f, f < s 0 11 ∧ hI h2 101 q = nI f := by
  have w := E.w.1
  have b11 := E.cn.b11
  have b4 := E.cn.b4
  have b0 := E.cn.b0
  have r75 : hI h 75 = hI h 101 := R.2.2.2.1
  have r74 : hI h 74 = hI h 100 := R.2.2.1
  have r69 : hI h 69 = hI h 149 := R.2.2.2.2.2.1
  have up : ∀ {g g' : HS}, FR ruW [] (stk s) g g' → FR (ruW ++ [75, 101]) [] (stk s) g g' := fun f => f.mo (by decide) (fun _ z => absurd z List.not_mem_nil) (fun _ z => z) (stk160 L)
  rcases fnd E a with ⟨h1, h2⟩ | ⟨f, hf, rfl, h1, h2⟩
  · refine ⟨0, h, h, ?_, ?_, FR.rf (stk160 L), r75, O.2⟩
    · unfold p159; rw [h1]; rfl
    · unfold p298; rw [h2 h E.cn.m11]; rfl
  · obtain ⟨q, c, t, g, hq, hc, ht, hg, e1, e2, e3, e4, e5, -⟩ := O.1 f hf
    have gf : ¬ (nI f < 0 ∨ 60 ≤ f) := nI_in' (by omega) (by decide)
    have cf : (nI f).toNatClampNeg = f := nI_clamp (by omega)
    have gq : ¬ (nI q < 0 ∨ 60 ≤ q) := nI_in' (by omega) (by decide)
    have cq : (nI q).toNatClampNeg = q := nI_clamp (by omega)
    have p65v : p65 h (nI q) = some (b2 (decide (¬ hI h 100 q = -1) && decide (hI h 101 q = -1))) := by
      unfold p65
      rw [cq, if_neg gq, if_neg gq, r74, r75]
      by_cases z1 : hI h 100 q = -1
      · have nz : ¬ ¬ hI h 100 q = -1 := fun y => y z1
        rw [if_pos z1, decide_eq_false nz]; rfl
      · rw [if_neg z1, decide_eq_true z1, Bool.true_and]
        by_cases z2 : hI h 101 q = -1
        · rw [if_pos z2, decide_eq_true z2]; rfl
        · rw [if_neg z2, decide_eq_false z2]; rfl
    -- the model from a heap with the same rows
    have mdl : ∀ g1 : HS, FR ruW [] (stk s) h g1 → ∃ g2, FR ruW [] (stk s) h g2 ∧ p298 F g1 (nI f) = (if stB s c q g (s 0 0) = false then some (0, g2) else if hI h 100 q = -1 then some (0, g2) else if hI h 101 q = -1 then some (1, hsI g2 101 q (nI f)) else some (0, g2)) := fun g1 f1 => by
      have E1 : EV s g1 := E.fr f1 (by decide) (stk_evD E L)
      have L1 : LWc s g1 := L.fr w f1 (by decide) (stk_lw L)
      have k : ∀ a, a ∈ [149, 150, 151, 152] → hI g1 a f = hI h a f := fun a m => by
        have hz : ∀ a, a ∈ [149, 150, 151, 152] → a < 160 ∧ ¬ a ∈ ruW ∧ ¬ a ∈ ([] : List (Nat × Nat)).map (fun p => p.1) := by decide
        exact congrFun (f1.fA w a (hz a m)) f
      obtain ⟨g2, f2, x2⟩ := staM E1 L1 (f := f) (by omega) hq hc hg ((k 149 (by decide)).trans e1) ((k 150 (by decide)).trans e2) ((k 152 (by decide)).trans e4) b0 hF
      have f12 := f1.tr f2
      have k149 : hI g2 149 f = nI q := (congrFun (f12.fA w 149 (by decide)) f).trans e1
      have k100 : hI g2 100 q = hI h 100 q := congrFun (f12.fA w 100 (by decide)) q
      have k101 : hI g2 101 q = hI h 101 q := congrFun (f12.fA w 101 (by decide)) q
      refine ⟨g2, f12, ?_⟩
      unfold p298
      rw [h2 g1 E1.cn.m11, ob, if_neg n10, E1.cn.m0, x2, ob]
      simp only [b2_eq0]
      cases hz : stB s c q g (s 0 0) with
      | false => rw [if_pos rfl, if_pos rfl]
      | true =>
        rw [if_neg (show ¬ true = false by decide), if_neg (show ¬ true = false by decide), cf, if_neg gf, k149, cq, if_neg gq, k100, if_neg gq, k101, if_neg gq]
    by_cases hh : ¬ hI h 100 q = -1 ∧ hI h 101 q = -1
    · obtain ⟨g1, f1, x1⟩ := staC E L R (f := f) (by omega) hq hc hg e1 e2 e5 b0 hF
      have k69 : hI g1 69 f = nI q := (congrFun (f1.fA w 69 (by decide)) f).trans (by rw [r69]; exact e1)
      cases hz : stB s c q g (s 0 0) with
      | false =>
        obtain ⟨g2, f2, x2⟩ := mdl g1 f1
        refine ⟨0, g1, g2, ?_, ?_, up f2, ?_, ?_⟩
        · unfold p159
          rw [h1, ob, if_neg n10, cf, if_neg gf, r69, e1, p65v, ob, decide_eq_true hh.1, decide_eq_true hh.2]
          rw [if_neg (show ¬ b2 (true && true) = 0 by decide), E.cn.c0, x1, ob, hz, if_pos (show b2 false = 0 from rfl)]
        · rw [x2, if_pos hz]
        · rw [f2.fA w 75 (by decide), f2.fA w 101 (by decide)]; exact r75
        · intro p hp; rw [f2.fA w 101 (by decide)]; exact O.2 p hp
      | true =>
        -- the class writes its row first: what the model looks at is untouched
        have f1' : FR (ruW ++ [75]) [] (stk s) h (hsI g1 75 q (nI f)) := (f1.mo (by decide) (fun _ z => absurd z List.not_mem_nil) (fun _ z => z) (stk160 L)).sI (Or.inl (by decide))
        have E1 : EV s (hsI g1 75 q (nI f)) := E.fr f1' (by decide) (stk_evD E L)
        have L1 : LWc s (hsI g1 75 q (nI f)) := L.fr w f1' (by decide) (stk_lw L)
        have k : ∀ a, a ∈ [149, 150, 151, 152] → hI (hsI g1 75 q (nI f)) a f = hI h a f := fun a m => by
          have hz : ∀ a, a ∈ [149, 150, 151, 152] → a < 160 ∧ ¬ a ∈ ruW ++ [75] ∧ ¬ a ∈ ([] : List (Nat × Nat)).map (fun p => p.1) := by decide
          exact congrFun (f1'.fA w a (hz a m)) f
        obtain ⟨g2, f2, x2⟩ := staM E1 L1 (f := f) (by omega) hq hc hg ((k 149 (by decide)).trans e1) ((k 150 (by decide)).trans e2) ((k 152 (by decide)).trans e4) b0 hF
        have w1 := E1.w.1
        have k149 : hI g2 149 f = nI q := (congrFun (f2.fA w1 149 (by decide)) f).trans ((k 149 (by decide)).trans e1)
        have k100 : hI g2 100 q = hI h 100 q := (congrFun (f2.fA w1 100 (by decide)) q).trans (congrFun (f1'.fA w 100 (by decide)) q)
        have k101 : hI g2 101 = hI h 101 := (f2.fA w1 101 (by decide)).trans (f1'.fA w 101 (by decide))
        have k75 : hI g2 75 = u1 (hI h 75) q (nI f) := by
          rw [f2.fA w1 75 (by decide)]
          funext j
          show u2 (hI g1) 75 q (nI f) 75 j = _
          rw [u2_u, f1.fA w 75 (by decide)]
        refine ⟨1, hsI g1 75 q (nI f), hsI g2 101 q (nI f), ?_, ?_, ?_, ?_, ?_⟩
        · unfold p159
          rw [h1, ob, if_neg n10, cf, if_neg gf, r69, e1, p65v, ob, decide_eq_true hh.1, decide_eq_true hh.2]
          rw [if_neg (show ¬ b2 (true && true) = 0 by decide), E.cn.c0, x1, ob, hz, if_neg (show ¬ b2 true = 0 by decide), if_neg gf, k69, cq, if_neg gq]
        · unfold p298
          rw [h2 _ E1.cn.m11, ob, if_neg n10, E1.cn.m0, x2, ob, hz, if_neg (show ¬ b2 true = 0 by decide), cf, if_neg gf, k149, cq, if_neg gq, k100, if_neg hh.1, if_neg gq, k101, if_pos hh.2, if_neg gq]
        · exact ((f1'.mo (by decide) (fun _ z => absurd z List.not_mem_nil) (fun _ z => z) (stk160 L)).tr (up f2)).sI (Or.inl (by decide))
        · funext j
          rw [hI_sn (by decide)]
          rw [k75]
          show _ = u2 (hI g2) 101 q (nI f) 101 j
          rw [u2_u, k101, r75]
        · intro p hp
          by_cases z : p = q
          · subst z; rw [hI_s]; exact Or.inr ⟨f, hf, rfl⟩
          · rw [hI_sk z, k101]; exact O.2 p hp
    · obtain ⟨g2, f2, x2⟩ := mdl h (FR.rf (stk160 L))
      refine ⟨0, h, g2, ?_, ?_, up f2, ?_, ?_⟩
      · unfold p159
        rw [h1, ob, if_neg n10, cf, if_neg gf, r69, e1, p65v, ob]
        rw [if_pos]
        by_cases z1 : hI h 100 q = -1
        · have nz : ¬ ¬ hI h 100 q = -1 := fun y => y z1
          rw [decide_eq_false nz]; rfl
        · have z2 : ¬ hI h 101 q = -1 := fun y => hh ⟨z1, y⟩
          rw [decide_eq_false z2, Bool.and_false]; rfl
      · rw [x2]
        by_cases hz : stB s c q g (s 0 0) = false
        · rw [if_pos hz]
        · rw [if_neg hz]
          by_cases z1 : hI h 100 q = -1
          · rw [if_pos z1]
          · rw [if_neg z1, if_neg (fun y => hh ⟨z1, y⟩)]
      · rw [f2.fA w 75 (by decide), f2.fA w 101 (by decide)]; exact r75
      · intro p hp; rw [f2.fA w 101 (by decide)]; exact O.2 p hp
/-- what goes back: who lost an office by a finding that does not stand -/
def bkP (s : SS) (h : HS) (p : Nat) : Prop := ∃ f q c g, f < s 0 11 ∧ q < s 0 4 ∧ c < s 0 6 ∧ okDy g 3999 ∧ hI h 101 p = nI f ∧ hI h 149 f = nI q ∧ hI h 150 f = nI c ∧ hI h 152 f = nI g ∧ hI h 72 f = nI (dC g) ∧ stB s c q g (s 0 0) = false
def bkQ (s : SS) (h : HS) (p : Nat) : Prop := hI h 101 p = -1 ∨ ∃ f q c g, f < s 0 11 ∧ q < s 0 4 ∧ c < s 0 6 ∧ okDy g 3999 ∧ hI h 101 p = nI f ∧ hI h 149 f = nI q ∧ hI h 150 f = nI c ∧ hI h 152 f = nI g ∧ hI h 72 f = nI (dC g) ∧ stB s c q g (s 0 0) = true
theorem bk_or (O : OFc s h) {p : Nat} (hp : p < s 0 4) : bkP s h p ∨ bkQ s h p := by
  rcases O.2 p hp with z | ⟨f, hf, z⟩
  · exact Or.inr (Or.inl z)
  · obtain ⟨q, c, t, g, hq, hc, ht, hg, e1, e2, e3, e4, e5, -⟩ := O.1 f hf
    cases hs : stB s c q g (s 0 0) with
    | false => exact Or.inl ⟨f, q, c, g, hf, hq, hc, hg, z, e1, e2, e4, e5, hs⟩
    | true => exact Or.inr (Or.inr ⟨f, q, c, g, hf, hq, hc, hg, z, e1, e2, e4, e5, hs⟩)
def bkW : List Nat := ruW ++ [75, 76]
def bkV : List Nat := ruW ++ [101, 102]
theorem bkC_L (E : EV s h) (L : LWc s h) (R : RWc h) (O : OFc s h) (dc : ∀ p, Decidable (bkP s h p)) {F : Nat} (hF : 1000 ≤ F) : ∀ (m p n : Nat) (g : HS), p + m = s 0 4 → m < n → FR bkW [] (stk s) h g → (∀ j, hI g 75 j = if j < p ∧ bkP s h j then -1 else hI h 75 j) → (∀ j, hI g 76 j = if j < p ∧ bkP s h j then hI h 76 j + 1 else hI h 76 j) → ∃ g', FR bkW [] (stk s) h g' ∧ (∀ j, hI g' 75 j = if j < s 0 4 ∧ bkP s h j then -1 else hI h 75 j) ∧ (∀ j, hI g' 76 j = if j < s 0 4 ∧ bkP s h j then hI h 76 j + 1 else hI h 76 j) ∧ p160_L4 F n g (nI (cnt (fun j => decide (bkP s h j)) p)) (nI p) = some (nI (cnt (fun j => decide (bkP s h j)) (s 0 4)), g') := by
  have w := E.w.1
  have b4 := E.cn.b4
  have b11 := E.cn.b11
  have b0 := E.cn.b0
  have r75 : hI h 75 = hI h 101 := R.2.2.2.1
  intro m
  induction m with
  | zero =>
    intro p n g hp hn f h5 h6
    obtain ⟨n, rfl⟩ : ∃ n', n = n' + 1 := ⟨n - 1, by omega⟩
    have E1 : EV s g := E.fr f (by decide) (stk_evD E L)
    have e : p = s 0 4 := by omega
    subst e
    rw [p160_L4, E1.cn.c4, if_neg Int32.lt_irrefl]
    exact ⟨g, f, h5, h6, rfl⟩
  | succ m ih =>
    intro p n g hp hn f h5 h6
    obtain ⟨n, rfl⟩ : ∃ n', n = n' + 1 := ⟨n - 1, by omega⟩
    have E1 : EV s g := E.fr f (by decide) (stk_evD E L)
    have L1 : LWc s g := L.fr w f (by decide) (stk_lw L)
    have ih' := fun g2 => ih (p + 1) n g2 (by omega) (by omega)
    have cs := cnt_ss (fun j => decide (bkP s h j)) p
    have g75 : hI g 75 p = hI h 101 p := by rw [h5, if_neg (fun z => absurd z.1 (Nat.lt_irrefl p)), r75]
    have gp : ¬ (nI p < 0 ∨ 60 ≤ p) := nI_in' (by omega) (by decide)
    have cp : (nI p).toNatClampNeg = p := nI_clamp (by omega)
    have kr : ∀ a, a ∈ [69, 70, 72, 149, 150, 152] → ∀ j, hI g a j = hI h a j := fun a m j => by
      have hz : ∀ a, a ∈ [69, 70, 72, 149, 150, 152] → a < 160 ∧ ¬ a ∈ bkW ∧ ¬ a ∈ ([] : List (Nat × Nat)).map (fun p => p.1) := by decide
      exact congrFun (f.fA w a (hz a m)) j
    rw [p160_L4, E1.cn.c4, if_pos (nI_lt (by omega) (by omega)), cp, if_neg gp, g75, E1.cn.c0]
    unfold p160_j59
    rw [nI_1 p]
    -- the row stays
    have stay : ¬ bkP s h p → ∀ g2, FR ruW [] (stk s) g g2 → ∃ g', FR bkW [] (stk s) h g' ∧ (∀ j, hI g' 75 j = if j < s 0 4 ∧ bkP s h j then -1 else hI h 75 j) ∧ (∀ j, hI g' 76 j = if j < s 0 4 ∧ bkP s h j then hI h 76 j + 1 else hI h 76 j) ∧ p160_L4 F n g2 (nI (cnt (fun j => decide (bkP s h j)) p)) (nI (p + 1)) = some (nI (cnt (fun j => decide (bkP s h j)) (s 0 4)), g') := fun z g2 f2 => by
      rw [cs, decide_eq_false z] at ih'
      have lt : ∀ j, (j < p + 1 ∧ bkP s h j) ↔ (j < p ∧ bkP s h j) := fun j => ⟨fun y => ⟨by
        have : ¬ j = p := fun e => z (e ▸ y.2)
        omega, y.2⟩, fun y => ⟨by omega, y.2⟩⟩
      refine ih' g2 (f.tr (f2.mo (by decide) (fun _ z => absurd z List.not_mem_nil) (fun _ z => z) (stk160 L))) (fun j => ?_) (fun j => ?_)
      · rw [f2.fA E1.w.1 75 (by decide), h5]
        simp only [lt]
      · rw [f2.fA E1.w.1 76 (by decide), h6]
        simp only [lt]
    have f62 : ∀ f, f < s 0 11 → p62 g (nI f) = some 1 := fun f hf => by
      rcases fnd E1 (nI f) with ⟨z, -⟩ | ⟨i, hi, e, z, -⟩
      · exfalso
        unfold p62 at z
        rw [E1.cn.c11] at z
        rcases ixc (nI f) (s 0 11) (by omega) with ⟨_, _, y⟩ | ⟨i, hi, e, y, -⟩
        · exact y f hf rfl
        · rw [e, y] at z; cases z
      · rw [e]; exact z
    have stand : ∀ f q c g0, f < s 0 11 → q < s 0 4 → c < s 0 6 → okDy g0 3999 → hI h 149 f = nI q → hI h 150 f = nI c → hI h 72 f = nI (dC g0) → ∃ g', FR ruW [] (stk s) g g' ∧ p185 F g (nI f) (nI (s 0 0)) = some (b2 (stB s c q g0 (s 0 0)), g') := fun f0 q c g0 hf hq hc hg e1 e2 e3 => by
      have R1 : hI g 69 f0 = hI g 149 f0 ∧ hI g 70 f0 = hI g 150 f0 := by
        rw [kr 69 (by decide), kr 70 (by decide), kr 149 (by decide), kr 150 (by decide)]
        exact ⟨congrFun R.2.2.2.2.2.1 f0, congrFun R.2.2.2.2.2.2.1 f0⟩
      obtain ⟨z1, z2, -, -⟩ := dC_b (Nat.le_refl 3999) hg b0
      have gf : ¬ (nI f0 < 0 ∨ 60 ≤ f0) := nI_in' (by omega) (by decide)
      have b6' := E.cn.b6
      have b7 := E.cn.b7
      have b8 := E.cn.b8
      have m1 : nR s c (s 0 0) ≤ s 0 7 := cnt_le _ _
      have m2 : nB s c (s 0 0) ≤ s 0 8 := cnt_le _ _
      have m3 := ndV_le L c (s 0 0)
      obtain ⟨x, hx, hxb⟩ := candC E1 (c := c) (d := s 0 0) (by omega) b0 hF
      unfold p185
      rw [nI_clamp (n := f0) (by omega), if_neg gf, if_neg gf, kr 72 (by decide), e3, R1.1, R1.2, kr 149 (by decide), kr 150 (by decide), e1, e2, hx, ob, if_neg gf]
      unfold stB
      by_cases h1 : s 0 0 < g0
      · rw [if_pos (nI_lt (z2.mpr h1) (by omega)), decide_eq_true h1, Bool.true_and]
        simp only [b6_tst (w := x) (k := q) (by omega)]
        rw [hxb q (by omega), decide_eq_true hq, Bool.true_and, if_F]
        cases hca : cand s c (s 0 0) q with
        | false => exact ⟨g, FR.rf (stk160 L), rfl⟩
        | true =>
          obtain ⟨g', f', e'⟩ := ndC E1 L1 (c := c) (by omega) b0 hF
          rw [if_pos rfl, nRC E1 (by omega) b0 hF, ob, nBC E1 (by omega) b0 hF, ob, e', ob, nI_add, Bool.true_and]
          refine ⟨g', f', ?_⟩
          by_cases h2 : ndV s c (s 0 0) ≤ nR s c (s 0 0) + nB s c (s 0 0)
          · rw [if_neg (nI_nlt h2 (by omega)), decide_eq_true h2]; rfl
          · rw [if_pos (nI_lt (by omega) (by omega)), decide_eq_false h2]; rfl
      · rw [if_neg (nI_nlt (by have := z2; omega) (by omega)), decide_eq_false h1]
        exact ⟨g, FR.rf (stk160 L), rfl⟩
    rcases O.2 p (by omega) with z0 | ⟨f0, hf0, z0⟩
    · have np : ¬ bkP s h p := fun ⟨f, _, _, _, hf, _, _, _, e, _⟩ => by rw [z0] at e; have := m1_nI (n := f) (by omega); rw [e.symm] at this; exact this.mp rfl
      have e62 : p62 g (-1) = some 0 := by
        unfold p62 p166
        rw [if_pos (by decide)]
        rfl
      rw [z0, e62, ob, if_pos rfl]
      exact stay np g (FR.rf (stk160 L))
    · obtain ⟨q, c, t, g0, hq, hc, ht, hg, e1, e2, e3, e4, e5, -⟩ := O.1 f0 hf0
      obtain ⟨g2, f2, x2⟩ := stand f0 q c g0 hf0 hq hc hg e1 e2 e5
      rw [z0, f62 f0 hf0, ob, if_neg n10, x2, ob, b2_if]
      cases hs : stB s c q g0 (s 0 0) with
      | true =>
        have np : ¬ bkP s h p := fun ⟨f, q', c', g', hf, _, _, hg', y0, y1, y2, y3, _, y5⟩ => by
          have ef : f0 = f := (nI_eq (by omega) (by omega)).mp (z0.symm.trans y0)
          subst ef
          have b6' := E.cn.b6
          have eq1 : q = q' := (nI_eq (by omega) (by omega)).mp (e1.symm.trans y1)
          have eq2 : c = c' := (nI_eq (by omega) (by omega)).mp (e2.symm.trans y2)
          have eq3 : g0 = g' := (nI_eq (by unfold okDy at hg; omega) (by unfold okDy at hg'; omega)).mp (e4.symm.trans y3)
          subst eq1 eq2 eq3
          rw [hs] at y5
          cases y5
        rw [if_pos rfl]
        exact stay np g2 f2
      | false =>
        have yp : bkP s h p := ⟨f0, q, c, g0, hf0, hq, hc, hg, z0, e1, e2, e4, e5, hs⟩
        rw [if_neg (by decide)]
        unfold p66
        rw [cp, if_neg gp, if_neg gp, if_neg gp, ob, ob, nI_1]
        rw [cs, decide_eq_true yp, if_pos rfl] at ih'
        have k76 : hI (hsI g2 75 p (-1)) 76 p = hI h 76 p := by
          rw [hI_sn (by decide), f2.fA E1.w.1 76 (by decide), h6, if_neg (fun z => absurd z.1 (Nat.lt_irrefl p))]
        rw [k76]
        refine ih' _ (((f.tr (f2.mo (by decide) (fun _ z => absurd z List.not_mem_nil) (fun _ z => z) (stk160 L))).sI (Or.inl (by decide))).sI (Or.inl (by decide))) (fun j => ?_) (fun j => ?_)
        · rw [hI_sn (by decide)]
          by_cases z : j = p
          · subst z; rw [hI_s, if_pos ⟨by omega, yp⟩]
          · rw [hI_sk z, f2.fA E1.w.1 75 (by decide), h5]
            by_cases y : j < p ∧ bkP s h j
            · rw [if_pos y, if_pos ⟨by omega, y.2⟩]
            · rw [if_neg y, if_neg (fun x => y ⟨by omega, x.2⟩)]
        · by_cases z : j = p
          · subst z; rw [hI_s, if_pos ⟨by omega, yp⟩]
          · rw [hI_sk z, hI_sn (by decide), f2.fA E1.w.1 76 (by decide), h6]
            by_cases y : j < p ∧ bkP s h j
            · rw [if_pos y, if_pos ⟨by omega, y.2⟩]
            · rw [if_neg y, if_neg (fun x => y ⟨by omega, x.2⟩)]
end STA
