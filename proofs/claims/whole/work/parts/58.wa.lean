/-! a new scrap; what is read of the scraps -/
section W10
variable {s : SS} {h : HS}
def edgs (f : Nat → Int32) (n : Nat) (x : Int64) : Nat → Nat → Int32
  | 0 => f
  | k + 1 => u1 (edgs f n x k) (4 * n + k) (eg x k)
def scrC (n : Nat) (h : HS) (a b : Int32) (x : Int64) : HS := hsI (hsL (hsI (hsI (hsI h 35 n a) 36 n b) 37 n (-1)) 38 n x) 33 1 (nI (n + 1))
def scrM (n : Nat) (h : HS) (a b : Int32) (x : Int64) : HS := hsI (hsI (haI (hsI (hsI h 88 n a) 89 n b) 90 (edgs (hI h 90) n x 4)) 91 n (-1)) 86 3 (nI (n + 1))
theorem L59_step {F f n k : Nat} {a b : Int32} {x : Int64} {h : HS} (hn : n < 200) (hk : k < 4) (e : hI h 86 3 = nI n) : p192_L59 F a b x (f + 1) h (nI k) = p192_L59 F a b x f (hsI h 90 (4 * n + k) (eg x k)) (nI (k + 1)) := by
  have e0 := eg_ok x hk
  have gx : ¬ (nI (4 * n + k) < 0 ∨ 800 ≤ (nI (4 * n + k)).toNatClampNeg) := nI_in (by omega) (by omega)
  have ex : (4 : Int32) * hI h 86 3 + nI k = nI (4 * n + k) := by rw [e, show (4 : Int32) = nI 4 from rfl, pk_mul, nI_add]
  have hj : ∀ v, p192_j113 F a b x (p192_L59 F a b x f) h (nI k) v (4 * hI h 86 3 + nI k) = p192_L59 F a b x f (hsI h 90 (4 * n + k) v) (nI (k + 1)) := by
    intro v
    unfold p192_j113
    rw [ex, if_neg gx, nI_clamp (by omega), nI_1]
  rw [p192_L59, if_pos (show nI k < 4 from nI_lt (b := 4) hk (by decide))]
  split
  · rename_i h1
    rw [if_pos h1] at e0
    rw [e0]; exact hj _
  · rename_i h1
    rw [if_neg h1] at e0
    rw [e0]; exact hj _
theorem L59_end {F f n : Nat} {a b : Int32} {x : Int64} {h : HS} (hn : n < 200) (e : hI h 86 3 = nI n) : p192_L59 F a b x (f + 1) h (nI 4) = some (nI n, hsI (hsI h 91 n (-1)) 86 3 (nI (n + 1))) := by
  have c9 : (nI n).toNatClampNeg = n := nI_clamp (by omega)
  have g0 : (nI n < 0) = False := neg_nI (by omega)
  have g1 : (200 ≤ n) = False := le_f hn
  rw [p192_L59, if_neg (show ¬ nI 4 < 4 by decide)]
  simp (disch := omega) only [e, c9, g0, g1, nI_1, nI_pred, hsI_ha, hsL_ha, hsR_ha, hI_I, hI_In, hL_L, hL_Ln, hR_R, hR_Rn, hL_I, hR_I, hT_I, hN_I, h1_I, h2_I, hI_L, hR_L, hT_L, hN_L, h1_L, h2_L, hI_R, hL_R, hT_R, hN_R, h1_R, h2_R, hI_W, hI_Wn, hL_W, hL_Wn, hR_W, hR_Wn, hT_W, hT_Wn, hN_W, hN_Wn, h1_W, h2_W, u1_eq, u1_ne, u1_u1, haI_I, ob, one0, eq_self, or_true, true_or, or_false, false_or, if_true, if_false]
theorem scrC_ok {h : HS} {n : Nat} {a b : Int32} {x : Int64} (hn : n < 200) (e : hI h 33 1 = nI n) (h1 : p86 h a = some 1) (h2 : p166 h b 0 15 = some 1) : p85 h a b x = some (nI n, scrC n h a b x) := by
  have c9 : (nI n).toNatClampNeg = n := nI_clamp (by omega)
  have g0 : (nI n < 0) = False := neg_nI (by omega)
  have g1 : (200 ≤ n) = False := le_f hn
  unfold p85 scrC
  rw [if_pos (show hI h 33 1 < 200 by rw [e]; exact nI_lt (b := 200) hn (by decide)), h1, ob, if_neg (show ¬ (1 : Int32) = 0 by decide), h2, ob, if_neg (show ¬ (1 : Int32) = 0 by decide)]
  simp (disch := omega) only [e, c9, g0, g1, nI_1, hsI_ha, hsL_ha, hsR_ha, hI_I, hI_In, hL_L, hL_Ln, hR_R, hR_Rn, hL_I, hR_I, hT_I, hN_I, h1_I, h2_I, hI_L, hR_L, hT_L, hN_L, h1_L, h2_L, hI_R, hL_R, hT_R, hN_R, h1_R, h2_R, hI_W, hI_Wn, hL_W, hL_Wn, hR_W, hR_Wn, hT_W, hT_Wn, hN_W, hN_Wn, h1_W, h2_W, u1_eq, u1_ne, u1_u1, haI_I, ob, one0, eq_self, or_true, true_or, or_false, false_or, if_true, if_false]
theorem scrM_ok {h : HS} {F n : Nat} {a b : Int32} {x : Int64} (hF : 5 ≤ F) (hn : n < 200) (e : hI h 86 3 = nI n) (h1 : p187 h a 0 (hI h 86 2 - 1) = some 1) (h2 : p187 h b 0 15 = some 1) : p192 F h a b x = some (nI n, scrM n h a b x) := by
  obtain ⟨f, rfl⟩ : ∃ f, F = f + 5 := ⟨F - 5, by omega⟩
  have c9 : (nI n).toNatClampNeg = n := nI_clamp (by omega)
  have g0 : (nI n < 0) = False := neg_nI (by omega)
  have g1 : (200 ≤ n) = False := le_f hn
  have g2 : (nI n = nI 200) = False := eq_false (fun z => by have := (nI_eq (by omega) (by omega)).mp z; omega)
  unfold p192
  rw [h1, h2]
  simp (disch := omega) only [e, c9, g0, g1, g2, lz200, hsI_ha, hsL_ha, hsR_ha, hI_I, hI_In, hL_L, hL_Ln, hR_R, hR_Rn, hL_I, hR_I, hT_I, hN_I, h1_I, h2_I, hI_L, hR_L, hT_L, hN_L, h1_L, h2_L, hI_R, hL_R, hT_R, hN_R, h1_R, h2_R, hI_W, hI_Wn, hL_W, hL_Wn, hR_W, hR_Wn, hT_W, hT_Wn, hN_W, hN_Wn, h1_W, h2_W, u1_eq, u1_ne, u1_u1, haI_I, ob, one0, eq_self, or_true, true_or, or_false, false_or, if_true, if_false]
  rw [show (0 : Int32) = nI 0 from rfl]
  rw [L59_step (k := 0) hn (by decide), L59_step (k := 1) hn (by decide), L59_step (k := 2) hn (by decide), L59_step (k := 3) hn (by decide), L59_end hn]
  · unfold scrM
    simp (disch := omega) only [hsI_ha, hsL_ha, hsR_ha, hI_I, hI_In, hL_L, hL_Ln, hR_R, hR_Rn, hL_I, hR_I, hT_I, hN_I, h1_I, h2_I, hI_L, hR_L, hT_L, hN_L, h1_L, h2_L, hI_R, hL_R, hT_R, hN_R, h1_R, h2_R, hI_W, hI_Wn, hL_W, hL_Wn, hR_W, hR_Wn, hT_W, hT_Wn, hN_W, hN_Wn, h1_W, h2_W, u1_eq, u1_ne, u1_u1, haI_I, edgs]
  all_goals simp (disch := omega) only [hsI_ha, hsL_ha, hsR_ha, hI_I, hI_In, hL_L, hL_Ln, hR_R, hR_Rn, hL_I, hR_I, hT_I, hN_I, h1_I, h2_I, hI_L, hR_L, hT_L, hN_L, h1_L, h2_L, hI_R, hL_R, hT_R, hN_R, h1_R, h2_R, hI_W, hI_Wn, hL_W, hL_Wn, hR_W, hR_Wn, hT_W, hT_Wn, hN_W, hN_Wn, h1_W, h2_W, u1_eq, u1_ne, u1_u1, haI_I, e]
theorem w_scrap (E : EV s h) {F : Nat} (hF : 5 ≤ F) (a b : Int32) (x : Int64) : (∃ v, p116 h a b x = some (v, h) ∧ p192 F h a b x = some (v, h)) ∨ ∃ i j v, s 0 2 < 200 ∧ i < s 0 1 ∧ j < 16 ∧ a = nI i ∧ b = nI j ∧ p116 h a b x = some (v, scrC (s 0 2) h a b x) ∧ p192 F (scrC (s 0 2) h a b x) a b x = some (v, scrM (s 0 2) (scrC (s 0 2) h a b x) a b x) := by
  have b1 := E.cn.b1
  have b2 := E.cn.b2
  have c1 := E.cn.c1
  have m1 := E.cn.m1
  have c2 := E.cn.c2
  have m2 := E.cn.m2
  have hw : p116 h a b x = p85 h a b x := by
    unfold p116
    cases p85 h a b x <;> rfl
  rw [hw]
  have one : ∀ v : Int32, v = 0 ∨ v = 1 → ∀ (o : Option Int32), o = some v → (Option.bind o fun r1 => if r1 = 0 ∨ r1 = 1 then some r1 else none) = some v := by
    rintro v hv o rfl
    rw [ob, if_pos hv]
  by_cases hf : s 0 2 = 200
  · left
    refine ⟨-1, ?_, ?_⟩
    · unfold p85; rw [if_neg (show ¬ hI h 33 1 < 200 by rw [c2]; exact nI_nlt (b := 200) (by omega) (by omega))]
    · unfold p192; rw [if_pos (show hI h 86 3 = 200 by rw [m2, hf]; rfl)]
  · have f1 : hI h 33 1 < 200 := by rw [c2]; exact nI_lt (b := 200) (by omega) (by omega)
    have f2 : ¬ hI h 86 3 = 200 := by rw [m2]; exact fun z => hf ((nI_eq (b := 200) (by omega) (by omega)).mp z)
    rcases ixc a (s 0 1) (by omega) with ⟨h1, h2, -⟩ | ⟨i, hi, rfl, h1, h2⟩
    · left
      refine ⟨-1, ?_, ?_⟩
      · unfold p85 p86; rw [if_pos f1, c1, one 0 (Or.inl rfl) _ (h1 h), ob, if_pos rfl]
      · unfold p192; rw [if_neg f2, m1, h2, ob, if_pos rfl]
    · rcases rngc b 0 15 with ⟨h3, h4⟩ | ⟨h3, h4, y1, y2⟩
      · left
        refine ⟨-1, ?_, ?_⟩
        · unfold p85 p86; rw [if_pos f1, c1, one 1 (Or.inr rfl) _ (h1 h), ob, if_neg (show ¬ (1 : Int32) = 0 by decide), h3, ob, if_pos rfl]
        · unfold p192; rw [if_neg f2, m1, h2, ob, if_neg (show ¬ (1 : Int32) = 0 by decide), h4, ob, if_pos rfl]
      · obtain ⟨j, -, hj, rfl⟩ := le_of_nI (m := 0) (n := 15) (by decide) (by decide) y1 y2
        right
        have kx : hI (scrC (s 0 2) h (nI i) (nI j) x) 86 = hI h 86 := by
          unfold scrC
          simp (disch := omega) only [hsI_ha, hsL_ha, hsR_ha, hI_I, hI_In, hL_L, hL_Ln, hR_R, hR_Rn, hL_I, hR_I, hT_I, hN_I, h1_I, h2_I, hI_L, hR_L, hT_L, hN_L, h1_L, h2_L, hI_R, hL_R, hT_R, hN_R, h1_R, h2_R, hI_W, hI_Wn, hL_W, hL_Wn, hR_W, hR_Wn, hT_W, hT_Wn, hN_W, hN_Wn, h1_W, h2_W, u1_eq, u1_ne, u1_u1, haI_I]
        refine ⟨i, j, nI (s 0 2), by omega, hi, by omega, rfl, rfl, scrC_ok (by omega) c2 ?_ (h3 h), scrM_ok hF (by omega) (by rw [kx, m2]) (by rw [kx, m1]; exact h2 _) (h4 _)⟩
        unfold p86
        rw [c1]
        exact one 1 (Or.inr rfl) _ (h1 h)
theorem edgs_o (f : Nat → Int32) (n : Nat) (x : Int64) (k : Nat) (i j : Nat) (hij : ¬ i = n) (hj : j < 4) (hk : k ≤ 4) : edgs f n x k (4 * i + j) = f (4 * i + j) := by
  induction k with
  | zero => rfl
  | succ k ih => rw [edgs, u1_ne (by omega), ih (by omega)]
theorem edgs_n (f : Nat → Int32) (n : Nat) (x : Int64) (k : Nat) (j : Nat) (hj : j < k) : edgs f n x k (4 * n + j) = eg x j := by
  induction k with
  | zero => omega
  | succ k ih =>
    by_cases hjk : j = k
    · subst hjk; rw [edgs, u1_eq]
    · rw [edgs, u1_ne (by omega), ih (by omega)]
theorem q_scraps (E : EV s h) (S : SCc s h) (a b : Int32) : ∃ v, p117 h a b = some v ∧ p194 h a b = some v := by
  have c2 := E.cn.b2
  rcases scrc E a with ⟨h1, h2⟩ | ⟨i, hi, rfl, h1, h2⟩
  · refine ⟨-40000, ?_, ?_⟩
    · unfold p117; rw [h1, ob, if_pos rfl]
    · unfold p194; rw [h2, ob, if_pos rfl]
  · have g : ¬ (nI i < 0 ∨ 200 ≤ (nI i).toNatClampNeg) := nI_in (by omega) (by omega)
    rcases rngc b 0 6 with ⟨h3, h4⟩ | ⟨h3, h4, y1, y2⟩
    · refine ⟨-40000, ?_, ?_⟩
      · unfold p117; rw [h1, ob, if_neg (show ¬ (1 : Int32) = 0 by decide)]
        have n0 : ∀ k, k ≤ 6 → ¬ b = nI k := by
          intro k hk z
          have := h3 h
          rw [z] at this
          unfold p166 at this
          rw [if_neg (show ¬ nI k < 0 by rw [neg_nI (by omega)]; exact id), if_neg (show ¬ (6 : Int32) < nI k from nI_nlt (a := 6) (by omega) (by omega))] at this
          exact absurd this (by decide)
        rw [if_neg (show ¬ b = (0 : Int32) from n0 0 (by decide)), if_neg (show ¬ b = (1 : Int32) from n0 1 (by decide)), if_neg (show ¬ b = (2 : Int32) from n0 2 (by decide)), if_neg (show ¬ b = (3 : Int32) from n0 3 (by decide)), if_neg (show ¬ b = (4 : Int32) from n0 4 (by decide)), if_neg (show ¬ b = (5 : Int32) from n0 5 (by decide)), if_neg (show ¬ b = (6 : Int32) from n0 6 (by decide))]
      · unfold p194; rw [h2, ob, if_neg (show ¬ (1 : Int32) = 0 by decide), h4, ob, if_pos rfl]
    · obtain ⟨k, -, hk, rfl⟩ := le_of_nI (m := 0) (n := 6) (by decide) (by decide) y1 y2
      unfold p194
      rw [h2, ob, if_neg (show ¬ (1 : Int32) = 0 by decide), h4, ob, if_neg (show ¬ (1 : Int32) = 0 by decide)]
      have hm : ∀ k, 2 ≤ k → k < 6 → (if nI k = 0 then (if nI i < 0 ∨ 200 ≤ (nI i).toNatClampNeg then none else some (hI h 88 (nI i).toNatClampNeg)) else (if nI k = 1 then (if nI i < 0 ∨ 200 ≤ (nI i).toNatClampNeg then none else some (hI h 89 (nI i).toNatClampNeg)) else (if nI k = 6 then (if nI i < 0 ∨ 200 ≤ (nI i).toNatClampNeg then none else some (hI h 91 (nI i).toNatClampNeg)) else (if 4 * nI i + nI k - 2 < 0 ∨ 800 ≤ (4 * nI i + nI k - 2).toNatClampNeg then none else some (hI h 90 (4 * nI i + nI k - 2).toNatClampNeg))))) = some (eg (hL h 38 i) (k - 2)) := by
        intro k k1 k2
        have ex : (4 : Int32) * nI i + nI k - 2 = nI (4 * i + (k - 2)) := by
          rw [show (4 : Int32) = nI 4 from rfl, pk_mul, nI_add, show 4 * i + k = (4 * i + (k - 2)) + 2 by omega, ← nI_add, show (nI 2 : Int32) = 2 from rfl, Int32.add_sub_cancel]
        rw [if_neg (fun z => by have := (nI_eq (b := 0) (by omega) (by omega)).mp z; omega), if_neg (fun z => by have := (nI_eq (b := 1) (by omega) (by omega)).mp z; omega), if_neg (fun z => by have := (nI_eq (b := 6) (by omega) (by omega)).mp z; omega), ex, if_neg (nI_in (by omega) (by omega)), nI_clamp (by omega), S.e hi (by omega)]
      unfold p117
      rw [h1, ob, if_neg (show ¬ (1 : Int32) = 0 by decide)]
      rcases (show k = 0 ∨ k = 1 ∨ k = 2 ∨ k = 3 ∨ k = 4 ∨ k = 5 ∨ k = 6 by omega) with rfl | rfl | rfl | rfl | rfl | rfl | rfl
      · refine ⟨hI h 88 i, ?_, ?_⟩
        · rw [if_pos (show nI 0 = (0 : Int32) from rfl), if_neg g, nI_clamp (by omega), S.2.1]
        · rw [if_pos (show nI 0 = (0 : Int32) from rfl), if_neg g, nI_clamp (by omega)]
      · refine ⟨hI h 89 i, ?_, ?_⟩
        · rw [if_neg (show ¬ nI 1 = (0 : Int32) by decide), if_pos (show nI 1 = (1 : Int32) from rfl), if_neg g, nI_clamp (by omega), S.2.2.1]
        · rw [if_neg (show ¬ nI 1 = (0 : Int32) by decide), if_pos (show nI 1 = (1 : Int32) from rfl), if_neg g, nI_clamp (by omega)]
      · refine ⟨_, ?_, hm 2 (by decide) (by decide)⟩
        rw [if_neg (show ¬ nI 2 = (0 : Int32) by decide), if_neg (show ¬ nI 2 = (1 : Int32) by decide), if_pos (show nI 2 = (2 : Int32) from rfl), show p88 h (nI i) 0 = p88 h (nI i) (nI 0) from rfl, p88E E hi, ob]
      · refine ⟨_, ?_, hm 3 (by decide) (by decide)⟩
        rw [if_neg (show ¬ nI 3 = (0 : Int32) by decide), if_neg (show ¬ nI 3 = (1 : Int32) by decide), if_neg (show ¬ nI 3 = (2 : Int32) by decide), if_pos (show nI 3 = (3 : Int32) from rfl), show p88 h (nI i) 1 = p88 h (nI i) (nI 1) from rfl, p88E E hi, ob]
      · refine ⟨_, ?_, hm 4 (by decide) (by decide)⟩
        rw [if_neg (show ¬ nI 4 = (0 : Int32) by decide), if_neg (show ¬ nI 4 = (1 : Int32) by decide), if_neg (show ¬ nI 4 = (2 : Int32) by decide), if_neg (show ¬ nI 4 = (3 : Int32) by decide), if_pos (show nI 4 = (4 : Int32) from rfl), show p88 h (nI i) 2 = p88 h (nI i) (nI 2) from rfl, p88E E hi, ob]
      · refine ⟨_, ?_, hm 5 (by decide) (by decide)⟩
        rw [if_neg (show ¬ nI 5 = (0 : Int32) by decide), if_neg (show ¬ nI 5 = (1 : Int32) by decide), if_neg (show ¬ nI 5 = (2 : Int32) by decide), if_neg (show ¬ nI 5 = (3 : Int32) by decide), if_neg (show ¬ nI 5 = (4 : Int32) by decide), if_pos (show nI 5 = (5 : Int32) from rfl), show p88 h (nI i) 3 = p88 h (nI i) (nI 3) from rfl, p88E E hi, ob]
      · refine ⟨hI h 91 i, ?_, ?_⟩
        · rw [if_neg (show ¬ nI 6 = (0 : Int32) by decide), if_neg (show ¬ nI 6 = (1 : Int32) by decide), if_neg (show ¬ nI 6 = (2 : Int32) by decide), if_neg (show ¬ nI 6 = (3 : Int32) by decide), if_neg (show ¬ nI 6 = (4 : Int32) by decide), if_neg (show ¬ nI 6 = (5 : Int32) by decide), if_pos (show nI 6 = (6 : Int32) from rfl), if_neg g, nI_clamp (by omega), S.2.2.2.1]
        · rw [if_neg (show ¬ nI 6 = (0 : Int32) by decide), if_neg (show ¬ nI 6 = (1 : Int32) by decide), if_pos (show nI 6 = (6 : Int32) from rfl), if_neg g, nI_clamp (by omega)]
end W10
