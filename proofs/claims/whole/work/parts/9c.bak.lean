/-! back -/
section BAK
variable {s : SS} {h : HS}
theorem bkM_L {h0 : HS} (E0 : EV s h0) (L0 : LWc s h0) (O : OFc s h) (r : ∀ a, a ∈ [101, 102, 149, 150, 152] → hI h0 a = hI h a) (dc : ∀ p, Decidable (bkP s h p)) {F : Nat} (hF : 1000 ≤ F) : ∀ (m p n : Nat) (g : HS), p + m = s 0 4 → m < n → FR bkV [] (stk s) h0 g → (∀ j, hI g 101 j = if j < p ∧ bkP s h j then -1 else hI h 101 j) → (∀ j, hI g 102 j = if j < p ∧ bkP s h j then hI h 102 j + 1 else hI h 102 j) → ∃ g', FR bkV [] (stk s) h0 g' ∧ (∀ j, hI g' 101 j = if j < s 0 4 ∧ bkP s h j then -1 else hI h 101 j) ∧ (∀ j, hI g' 102 j = if j < s 0 4 ∧ bkP s h j then hI h 102 j + 1 else hI h 102 j) ∧ p299_L4 F n g (nI (cnt (fun j => decide (bkP s h j)) p)) (nI p) = some (nI (cnt (fun j => decide (bkP s h j)) (s 0 4)), g') := by
  have w := E0.w.1
  have b4 := E0.cn.b4
  have b11 := E0.cn.b11
  have b0 := E0.cn.b0
  intro m
  induction m with
  | zero =>
    intro p n g hp hn f h5 h6
    obtain ⟨n, rfl⟩ : ∃ n', n = n' + 1 := ⟨n - 1, by omega⟩
    have E1 : EV s g := E0.fr f (by decide) (stk_evD E0 L0)
    have e : p = s 0 4 := by omega
    subst e
    rw [p299_L4, E1.cn.m4, if_neg Int32.lt_irrefl]
    exact ⟨g, f, h5, h6, rfl⟩
  | succ m ih =>
    intro p n g hp hn f h5 h6
    obtain ⟨n, rfl⟩ : ∃ n', n = n' + 1 := ⟨n - 1, by omega⟩
    have E1 : EV s g := E0.fr f (by decide) (stk_evD E0 L0)
    have L1 : LWc s g := L0.fr w f (by decide) (stk_lw L0)
    have ih' := fun g2 => ih (p + 1) n g2 (by omega) (by omega)
    have cs := cnt_ss (fun j => decide (bkP s h j)) p
    have g101 : hI g 101 p = hI h 101 p := by rw [h5, if_neg (fun z => absurd z.1 (Nat.lt_irrefl p))]
    have gp : ¬ (nI p < 0 ∨ 60 ≤ p) := nI_in' (by omega) (by decide)
    have cp : (nI p).toNatClampNeg = p := nI_clamp (by omega)
    have kr : ∀ a, a ∈ [149, 150, 152] → ∀ j, hI g a j = hI h a j := fun a m j => by
      have hz : ∀ a, a ∈ [149, 150, 152] → (a < 160 ∧ ¬ a ∈ bkV ∧ ¬ a ∈ ([] : List (Nat × Nat)).map (fun p => p.1)) ∧ a ∈ [101, 102, 149, 150, 152] := by decide
      rw [f.fA w a (hz a m).1, r a (hz a m).2]
    rw [p299_L4, E1.cn.m4, if_pos (nI_lt (by omega) (by omega)), cp, if_neg gp, g101, if_neg gp, E1.cn.m0]
    unfold p299_j59
    rw [nI_1 p]
    have stay : ¬ bkP s h p → ∀ g2, FR ruW [] (stk s) g g2 → ∃ g', FR bkV [] (stk s) h0 g' ∧ (∀ j, hI g' 101 j = if j < s 0 4 ∧ bkP s h j then -1 else hI h 101 j) ∧ (∀ j, hI g' 102 j = if j < s 0 4 ∧ bkP s h j then hI h 102 j + 1 else hI h 102 j) ∧ p299_L4 F n g2 (nI (cnt (fun j => decide (bkP s h j)) p)) (nI (p + 1)) = some (nI (cnt (fun j => decide (bkP s h j)) (s 0 4)), g') := fun z g2 f2 => by
      rw [cs, decide_eq_false z] at ih'
      have lt : ∀ j, (j < p + 1 ∧ bkP s h j) ↔ (j < p ∧ bkP s h j) := fun j => ⟨fun y => ⟨by
        have : ¬ j = p := fun e => z (e ▸ y.2)
        omega, y.2⟩, fun y => ⟨by omega, y.2⟩⟩
      refine ih' g2 (f.tr (f2.mo (by decide) (fun _ z => absurd z List.not_mem_nil) (fun _ z => z) (stk160 L0))) (fun j => ?_) (fun j => ?_)
      · rw [f2.fA E1.w.1 101 (by decide), h5]
        simp only [lt]
      · rw [f2.fA E1.w.1 102 (by decide), h6]
        simp only [lt]
    rcases O.2 p (by omega) with z0 | ⟨f0, hf0, z0⟩
    · have np : ¬ bkP s h p := fun ⟨f, _, _, _, hf, _, _, _, e, _⟩ => by rw [z0] at e; have := m1_nI (n := f) (by omega); rw [e.symm] at this; exact this.mp rfl
      rw [z0, if_pos rfl]
      exact stay np g (FR.rf (stk160 L0))
    · obtain ⟨q, c, t, g0, hq, hc, ht, hg, e1, e2, e3, e4, e5, -⟩ := O.1 f0 hf0
      obtain ⟨g2, f2, x2⟩ := staM E1 L1 (f := f0) (by omega) hq hc hg ((kr 149 (by decide) f0).trans e1) ((kr 150 (by decide) f0).trans e2) ((kr 152 (by decide) f0).trans e4) b0 hF
      rw [z0, if_neg (fun z => by have := m1_nI (n := f0) (by omega); rw [this] at z; exact z), x2, ob, b2_if]
      cases hs : stB s c q g0 (s 0 0) with
      | true =>
        have np : ¬ bkP s h p := fun ⟨f, q', c', g', hf, _, _, hg', y0, y1, y2, y3, _, y5⟩ => by
          have ef : f0 = f := (nI_eq (by omega) (by omega)).mp (z0.symm.trans y0)
          subst ef
          have b6' := E0.cn.b6
          have eq1 : q = q' := (nI_eq (by omega) (by omega)).mp (e1.symm.trans y1)
          have eq2 : c = c' := (nI_eq (by omega) (by omega)).mp (e2.symm.trans y2)
          have eq3 : g0 = g' := (nI_eq (by unfold okDy at hg; omega) (by unfold okDy at hg'; omega)).mp (e4.symm.trans y3)
          subst eq1 eq2 eq3
          rw [hs] at y5
          cases y5
        rw [if_pos rfl]
        exact stay np g2 f2
      | false =>
        have yp : bkP s h p := ⟨f0, q, c, g0, hf0, hq, hc, hg, z0, e1, e2, e4, e5, hs⟩
        rw [if_neg (by decide), if_neg gp, if_neg gp, if_neg gp, ob, nI_1]
        rw [cs, decide_eq_true yp, if_pos rfl] at ih'
        have k76 : hI (hsI g2 101 p (-1)) 102 p = hI h 102 p := by
          rw [hI_sn (by decide), f2.fA E1.w.1 102 (by decide), h6, if_neg (fun z => absurd z.1 (Nat.lt_irrefl p))]
        rw [k76]
        refine ih' _ (((f.tr (f2.mo (by decide) (fun _ z => absurd z List.not_mem_nil) (fun _ z => z) (stk160 L0))).sI (Or.inl (by decide))).sI (Or.inl (by decide))) (fun j => ?_) (fun j => ?_)
        · rw [hI_sn (by decide)]
          by_cases z : j = p
          · subst z; rw [hI_s, if_pos ⟨by omega, yp⟩]
          · rw [hI_sk z, f2.fA E1.w.1 101 (by decide), h5]
            by_cases y : j < p ∧ bkP s h j
            · rw [if_pos y, if_pos ⟨by omega, y.2⟩]
            · rw [if_neg y, if_neg (fun x => y ⟨by omega, x.2⟩)]
        · by_cases z : j = p
          · subst z; rw [hI_s, if_pos ⟨by omega, yp⟩]
          · rw [hI_sk z, hI_sn (by decide), f2.fA E1.w.1 102 (by decide), h6]
            by_cases y : j < p ∧ bkP s h j
            · rw [if_pos y, if_pos ⟨by omega, y.2⟩]
            · rw [if_neg y, if_neg (fun x => y ⟨by omega, x.2⟩)]
theorem w_back (E : EV s h) (L : LWc s h) (R : RWc h) (O : OFc s h) {F : Nat} (hF : 1000 ≤ F) : ∃ v h1 h2, p160 F h = some (v, h1) ∧ p299 F h1 = some (v, h2) ∧ FR (ruW ++ [75, 76, 101, 102]) [] (stk s) h h2 ∧ hI h2 75 = hI h2 101 ∧ hI h2 76 = hI h2 102 ∧ ∀ q, q < s 0 4 → hI h2 101 q = -1 ∨ ∃ f, f < s 0 11 ∧ hI h2 101 q = nI f := by
  have w := E.w.1
  have b4 := E.cn.b4
  have dc : ∀ p, Decidable (bkP s h p) := fun p => Classical.propDecidable _
  obtain ⟨g1, f1, c5, c6, e1⟩ := bkC_L E L R O dc hF (s 0 4) 0 F h (by omega) (by omega) (FR.rf (stk160 L)) (fun j => (if_neg (fun z => absurd z.1 (Nat.not_lt_zero j))).symm) (fun j => (if_neg (fun z => absurd z.1 (Nat.not_lt_zero j))).symm)
  have E1 : EV s g1 := E.fr f1 (by decide) (stk_evD E L)
  have L1 : LWc s g1 := L.fr w f1 (by decide) (stk_lw L)
  have r : ∀ a, a ∈ [101, 102, 149, 150, 152] → hI g1 a = hI h a := fun a m => by
    have hz : ∀ a, a ∈ [101, 102, 149, 150, 152] → a < 160 ∧ ¬ a ∈ bkW ∧ ¬ a ∈ ([] : List (Nat × Nat)).map (fun p => p.1) := by decide
    exact f1.fA w a (hz a m)
  obtain ⟨g2, f2, d5, d6, e2⟩ := bkM_L (h := h) E1 L1 O r dc hF (s 0 4) 0 F g1 (by omega) (by omega) (FR.rf (stk160 L)) (fun j => by rw [if_neg (fun z => absurd z.1 (Nat.not_lt_zero j)), r 101 (by decide)]) (fun j => by rw [if_neg (fun z => absurd z.1 (Nat.not_lt_zero j)), r 102 (by decide)])
  refine ⟨_, g1, g2, e1, e2, (f1.mo (by decide) (fun _ z => absurd z List.not_mem_nil) (fun _ z => z) (stk160 L)).tr (f2.mo (by decide) (fun _ z => absurd z List.not_mem_nil) (fun _ z => z) (stk160 L)), ?_, ?_, fun q hq => ?_⟩
  · funext j
    rw [f2.fA E1.w.1 75 (by decide), c5, d5, R.2.2.2.1]
  · funext j
    rw [f2.fA E1.w.1 76 (by decide), c6, d6, R.2.2.2.2.1]
  · rw [d5]
    by_cases z : q < s 0 4 ∧ bkP s h q
    · rw [if_pos z]; exact Or.inl rfl
    · rw [if_neg z]; exact O.2 q hq
end BAK
