/-! what a law's code is worth: both sides -/
def isJ (t : Nat) : Bool := decide (t = 10028 ∨ t = 10029 ∨ (10045 ≤ t ∧ t ≤ 10052))
def jo (t : Nat) (a b : Int64) : Int64 := if t = 10028 then a ||| b else if t = 10029 then a &&& b else if t = 10045 then a + b else if t = 10046 then a - b else if t = 10047 then a * b else if t = 10048 then (if lg_cmp a b < 0 then 1 else 0) else if t = 10049 then (if 0 < lg_cmp a b then 0 else 1) else if t = 10050 then (if lg_cmp a b = 0 then 1 else 0) else if t = 10051 then (if lg_cmp a b < 0 then 0 else 1) else (if 0 < lg_cmp a b then 1 else 0)
def okT (t : Nat) : Prop := t < 10000 ∨ (10010 ≤ t ∧ t < 10021) ∨ t = 10030 ∨ isJ t = true
/-- the model's op of a token, and what goes with it -/
def opM (t : Nat) : Nat := if t < 10000 then 0 else if t < 10021 then 1 else if t = 10030 then 14 else if t = 10028 then 13 else if t = 10029 then 12 else if t ≤ 10047 then t - 10042 else t - 10041
def whM (t : Nat) : Nat := if t < 10000 then t else t - 10010
def valT (ws : Nat → Int64) (t : Nat) : Int64 := if t < 10010 then lN t else ws (t - 10010)
def evF (ws : Nat → Int64) (q : (Nat → Int64) × Nat) (t : Nat) : (Nat → Int64) × Nat := if t < 10021 then (u1 q.1 q.2 (valT ws t), q.2 + 1) else if t = 10030 then (u1 q.1 (q.2 - 1) (1 - q.1 (q.2 - 1)), q.2) else (u1 q.1 (q.2 - 2) (jo t (q.1 (q.2 - 2)) (q.1 (q.2 - 1))), q.2 - 1)
def evR (ws : Nat → Int64) (f : Nat → Nat) (b : Nat) : Nat → (Nat → Int64) × Nat
  | 0 => (fun _ => 0, 0)
  | k + 1 => evF ws (evR ws f b k) (f (b + k))
def tyF (q : (Nat → Bool) × Nat) (t : Nat) : Option ((Nat → Bool) × Nat) := if t < 10021 then some (u1 q.1 q.2 false, q.2 + 1) else if t = 10030 then (if 0 < q.2 ∧ q.1 (q.2 - 1) = true then some q else none) else if t = 10028 ∨ t = 10029 then (if 2 ≤ q.2 ∧ q.1 (q.2 - 1) = true ∧ q.1 (q.2 - 2) = true then some (q.1, q.2 - 1) else none) else if 10045 ≤ t ∧ t ≤ 10047 then (if 2 ≤ q.2 ∧ q.1 (q.2 - 1) = false ∧ q.1 (q.2 - 2) = false then some (q.1, q.2 - 1) else none) else if 10048 ≤ t ∧ t ≤ 10052 then (if 2 ≤ q.2 ∧ q.1 (q.2 - 1) = false ∧ q.1 (q.2 - 2) = false then some (u1 q.1 (q.2 - 2) true, q.2 - 1) else none) else none
def tyR (f : Nat → Nat) (b : Nat) : Nat → Option ((Nat → Bool) × Nat)
  | 0 => some (fun _ => false, 0)
  | k + 1 => Option.bind (tyR f b k) fun q => tyF q (f (b + k))
def vals (f : Nat → Nat) (b n : Nat) : Nat := cnt (fun k => decide (f (b + k) < 10021)) n
theorem tyR_le (f : Nat → Nat) (b : Nat) : ∀ {k j : Nat}, j ≤ k → (∃ q, tyR f b k = some q) → ∃ q, tyR f b j = some q := by
  intro k
  induction k with
  | zero => intro j hj h; have : j = 0 := by omega
            subst this; exact h
  | succ k ih =>
    intro j hj h
    by_cases e : j = k + 1
    · subst e; exact h
    · refine ih (by omega) ?_
      obtain ⟨q, hq⟩ := h
      rw [tyR] at hq
      cases hk : tyR f b k with
      | none => rw [hk] at hq; cases hq
      | some p => exact ⟨p, rfl⟩
theorem vals_mono (f : Nat → Nat) (b : Nat) {i j : Nat} (h : i ≤ j) : vals f b i ≤ vals f b j := by
  obtain ⟨d, rfl⟩ : ∃ d, j = i + d := ⟨j - i, by omega⟩
  unfold vals
  rw [cnt_add]
  omega
theorem jo_b {t : Nat} (ht : (t = 10028 ∨ t = 10029) ∨ (10048 ≤ t ∧ t ≤ 10052)) {a b : Int64} (ha : (t = 10028 ∨ t = 10029) → a = 0 ∨ a = 1) (hb : (t = 10028 ∨ t = 10029) → b = 0 ∨ b = 1) : jo t a b = 0 ∨ jo t a b = 1 := by
  unfold jo
  by_cases h1 : t = 10028
  · rw [if_pos h1]
    rcases ha (Or.inl h1) with rfl | rfl <;> rcases hb (Or.inl h1) with rfl | rfl <;> decide
  rw [if_neg h1]
  by_cases h2 : t = 10029
  · rw [if_pos h2]
    rcases ha (Or.inr h2) with rfl | rfl <;> rcases hb (Or.inr h2) with rfl | rfl <;> decide
  rw [if_neg h2, if_neg (by omega), if_neg (by omega), if_neg (by omega)]
  repeat' split
  all_goals first | exact Or.inl rfl | exact Or.inr rfl
/-- types and worths go together -/
theorem ty_ev (ws : Nat → Int64) (f : Nat → Nat) (b : Nat) : ∀ k q, tyR f b k = some q → (evR ws f b k).2 = q.2 ∧ q.2 ≤ vals f b k ∧ ∀ i, i < q.2 → q.1 i = true → (evR ws f b k).1 i = 0 ∨ (evR ws f b k).1 i = 1 := by
  intro k
  induction k with
  | zero =>
    intro q h
    rw [tyR] at h
    cases h
    exact ⟨rfl, Nat.le_refl _, fun i hi => absurd hi (Nat.not_lt_zero i)⟩
  | succ k ih =>
    intro q h
    rw [tyR] at h
    cases hk : tyR f b k with
    | none => rw [hk] at h; cases h
    | some p =>
      rw [hk, ob] at h
      obtain ⟨i1, i2, i3⟩ := ih p hk
      rw [evR]
      have hv : vals f b (k + 1) = vals f b k + (if decide (f (b + k) < 10021) then 1 else 0) := cnt_ss _ _
      generalize evR ws f b k = r at *
      generalize f (b + k) = t at *
      unfold tyF at h
      unfold evF
      by_cases h1 : t < 10021
      · rw [if_pos h1] at h ⊢
        cases h
        rw [decide_eq_true h1] at hv
        refine ⟨by show r.2 + 1 = p.2 + 1; rw [i1], by show p.2 + 1 ≤ _; rw [hv, if_pos rfl]; omega, fun i hi ht => ?_⟩
        have hi : i < p.2 + 1 := hi
        have ht : u1 p.1 p.2 false i = true := ht
        by_cases e : i = p.2
        · subst e; rw [u1_eq] at ht; cases ht
        · rw [u1_ne e] at ht
          show u1 r.1 r.2 _ i = 0 ∨ u1 r.1 r.2 _ i = 1
          rw [i1, u1_ne e]
          exact i3 i (by omega) ht
      · rw [if_neg h1] at h ⊢
        rw [decide_eq_false h1, if_neg (by decide), Nat.add_zero] at hv
        by_cases h2 : t = 10030
        · rw [if_pos h2] at h ⊢
          by_cases h3 : 0 < p.2 ∧ p.1 (p.2 - 1) = true
          · rw [if_pos h3] at h
            have h := Option.some.inj h
            subst h
            refine ⟨i1, by omega, fun i hi ht => ?_⟩
            show u1 r.1 (r.2 - 1) _ i = 0 ∨ u1 r.1 (r.2 - 1) _ i = 1
            by_cases e : i = r.2 - 1
            · subst e
              rw [u1_eq]
              rw [i1]
              rcases i3 (p.2 - 1) (by omega) h3.2 with z | z <;> rw [z] <;> decide
            · rw [u1_ne e]
              exact i3 i hi ht
          · rw [if_neg h3] at h; cases h
        · rw [if_neg h2] at h ⊢
          have bin : ∀ (T : Nat → Bool), 2 ≤ p.2 → (T (p.2 - 2) = true → jo t (r.1 (r.2 - 2)) (r.1 (r.2 - 1)) = 0 ∨ jo t (r.1 (r.2 - 2)) (r.1 (r.2 - 1)) = 1) → (∀ i, i < p.2 - 2 → T i = p.1 i) → r.2 - 1 = p.2 - 1 ∧ p.2 - 1 ≤ vals f b (k + 1) ∧ ∀ i, i < p.2 - 1 → T i = true → u1 r.1 (r.2 - 2) (jo t (r.1 (r.2 - 2)) (r.1 (r.2 - 1))) i = 0 ∨ u1 r.1 (r.2 - 2) (jo t (r.1 (r.2 - 2)) (r.1 (r.2 - 1))) i = 1 := fun T g1 g2 g3 => by
            refine ⟨by rw [i1], by omega, fun i hi ht => ?_⟩
            by_cases e : i = r.2 - 2
            · rw [e, u1_eq]
              exact g2 (by rw [← i1, ← e]; exact ht)
            · rw [u1_ne e]
              exact i3 i (by omega) (by rw [← g3 i (by omega)]; exact ht)
          by_cases h3 : t = 10028 ∨ t = 10029
          · rw [if_pos h3] at h
            by_cases h4 : 2 ≤ p.2 ∧ p.1 (p.2 - 1) = true ∧ p.1 (p.2 - 2) = true
            · rw [if_pos h4] at h
              cases h
              exact bin p.1 h4.1 (fun _ => jo_b (Or.inl h3) (fun _ => by rw [i1]; exact i3 _ (by omega) h4.2.2) (fun _ => by rw [i1]; exact i3 _ (by omega) h4.2.1)) (fun _ _ => rfl)
            · rw [if_neg h4] at h; cases h
          · rw [if_neg h3] at h
            by_cases h5 : 10045 ≤ t ∧ t ≤ 10047
            · rw [if_pos h5] at h
              by_cases h4 : 2 ≤ p.2 ∧ p.1 (p.2 - 1) = false ∧ p.1 (p.2 - 2) = false
              · rw [if_pos h4] at h
                cases h
                exact bin p.1 h4.1 (fun z => by rw [h4.2.2] at z; cases z) (fun _ _ => rfl)
              · rw [if_neg h4] at h; cases h
            · rw [if_neg h5] at h
              by_cases h6 : 10048 ≤ t ∧ t ≤ 10052
              · rw [if_pos h6] at h
                by_cases h4 : 2 ≤ p.2 ∧ p.1 (p.2 - 1) = false ∧ p.1 (p.2 - 2) = false
                · rw [if_pos h4] at h
                  cases h
                  exact bin _ h4.1 (fun _ => jo_b (Or.inr h6) (fun z => absurd z h3) (fun z => absurd z h3)) (fun i hi => u1_ne (by omega))
                · rw [if_neg h4] at h; cases h
              · rw [if_neg h6] at h; cases h
theorem tyF_J {q p : (Nat → Bool) × Nat} {t : Nat} (h : tyF q t = some p) (h1 : ¬ t < 10021) (h2 : ¬ t = 10030) : isJ t = true ∧ 2 ≤ q.2 := by
  unfold tyF at h
  unfold isJ
  rw [if_neg h1, if_neg h2] at h
  by_cases h3 : t = 10028 ∨ t = 10029
  · rw [if_pos h3] at h
    split at h
    · next z => exact ⟨decide_eq_true (by omega), z.1⟩
    · cases h
  · rw [if_neg h3] at h
    by_cases h5 : 10045 ≤ t ∧ t ≤ 10047
    · rw [if_pos h5] at h
      split at h
      · next z => exact ⟨decide_eq_true (by omega), z.1⟩
      · cases h
    · rw [if_neg h5] at h
      by_cases h6 : 10048 ≤ t ∧ t ≤ 10052
      · rw [if_pos h6] at h
        split at h
        · next z => exact ⟨decide_eq_true (by omega), z.1⟩
        · cases h
      · rw [if_neg h6] at h; cases h
theorem tyF_N {q p : (Nat → Bool) × Nat} (h : tyF q 10030 = some p) : 0 < q.2 := by
  unfold tyF at h
  rw [if_neg (by decide), if_pos rfl] at h
  split at h
  · next z => exact z.1
  · cases h
/-- the words of which the code says nothing -/
theorem evR_congr {ws ws' : Nat → Int64} {f : Nat → Nat} {b : Nat} : ∀ k, (∀ i, i < k → 10010 ≤ f (b + i) → f (b + i) < 10021 → ws (f (b + i) - 10010) = ws' (f (b + i) - 10010)) → evR ws f b k = evR ws' f b k := by
  intro k
  induction k with
  | zero => intro _; rfl
  | succ k ih =>
    intro h
    rw [evR, evR, ih (fun i hi => h i (by omega))]
    unfold evF valT
    by_cases h1 : f (b + k) < 10021
    · rw [if_pos h1, if_pos h1]
      by_cases h2 : f (b + k) < 10010
      · rw [if_pos h2, if_pos h2]
      · rw [if_neg h2, if_neg h2, h k (by omega) (by omega) h1]
    · rw [if_neg h1, if_neg h1]
theorem jC {t : Nat} (ht : isJ t = true) (h : HS) (a b : Int64) : p28 h (nI t) a b = some (jo t a b) := by
  have z := of_decide_eq_true ht
  have : t = 10028 ∨ t = 10029 ∨ t = 10045 ∨ t = 10046 ∨ t = 10047 ∨ t = 10048 ∨ t = 10049 ∨ t = 10050 ∨ t = 10051 ∨ t = 10052 := by omega
  have sp : ∀ (c : Prop) [Decidable c] (x y : Int64), (if c then some x else some y) = some (if c then x else y) := fun c _ x y => by split <;> rfl
  rcases this with rfl | rfl | rfl | rfl | rfl | rfl | rfl | rfl | rfl | rfl
  · rfl
  · rfl
  · rfl
  · rfl
  · rfl
  · exact sp _ _ _
  · exact sp _ _ _
  · exact sp _ _ _
  · exact sp _ _ _
  · exact sp _ _ _
theorem jM {t : Nat} (ht : isJ t = true) (h : HS) (a b : Int64) : p273 h (nI (opM t)) a b = some (jo t a b) := by
  have z := of_decide_eq_true ht
  have : t = 10028 ∨ t = 10029 ∨ t = 10045 ∨ t = 10046 ∨ t = 10047 ∨ t = 10048 ∨ t = 10049 ∨ t = 10050 ∨ t = 10051 ∨ t = 10052 := by omega
  have sp : ∀ (c : Prop) [Decidable c] (x y : Int64), (if c then some x else some y) = some (if c then x else y) := fun c _ x y => by split <;> rfl
  rcases this with rfl | rfl | rfl | rfl | rfl | rfl | rfl | rfl | rfl | rfl
  · rfl
  · rfl
  · rfl
  · rfl
  · rfl
  · exact sp _ _ _
  · exact sp _ _ _
  · exact sp _ _ _
  · exact sp _ _ _
  · exact sp _ _ _
section LEV
variable {h : HS}
/-- the class's worth of a clause -/
theorem evC_L {o c e b sz nc : Nat} {tk : Nat → Nat} {ws : Nat → Int64} (lo : 160 ≤ o) (up : o + 6 ≤ h.1) (hc : c < nc) (hnc : nc ≤ 12) (hbe : b ≤ e) (hes : e ≤ sz) (hsz : sz ≤ 400) (r4 : hR h o 4 = some (o + 4)) (t4 : hT h (o + 4) = 20 ∧ hN h (o + 4) = nc) (v4 : hI h (o + 4) c = nI e) (r5 : hR h o 5 = some (o + 5)) (t5 : hT h (o + 5) = 20 ∧ hN h (o + 5) = sz) (v5 : ∀ k, k < sz → hI h (o + 5) k = nI (tk k) ∧ okT (tk k)) (r6 : hR h o 6 = some (o + 1)) (t6 : hT h (o + 1) = 23 ∧ hN h (o + 1) = 80) (tw : hT h 85 = 23 ∧ hN h 85 = 11) (vw : ∀ j, j < 11 → hL h 85 j = ws j) (hty : ∃ T, tyR tk b (e - b) = some (T, 1)) (hvl : vals tk b (e - b) ≤ 80) (F : Nat) : ∀ (m k n : Nat) (g : HS), b + k + m = e → m < n → FR [] [] (fun x => x = o + 1) h g → (∀ j, j < (evR ws tk b k).2 → hL g (o + 1) j = (evR ws tk b k).1 j) → ∃ g', FR [] [] (fun x => x = o + 1) h g' ∧ p27_L20 F o (nI c) (some 85) n g (nI (evR ws tk b k).2) (nI (b + k)) = some ((evR ws tk b (e - b)).1 0, g') := by
  have ow : wl [] [] := by decide
  intro m
  induction m with
  | zero =>
    intro k n g hk hn f hg
    obtain ⟨n, rfl⟩ : ∃ n', n = n' + 1 := ⟨n - 1, by omega⟩
    obtain ⟨T, hT1⟩ := hty
    have ek : e - b = k := by omega
    rw [ek] at hT1 ⊢
    have ev2 := (ty_ev ws tk b k _ hT1).1
    have g4 : hR g o 4 = some (o + 4) := (f.oR ow.1 lo (by omega) (by omega) 4).trans r4
    have g6 : hR g o 6 = some (o + 1) := (f.oR ow.1 lo (by omega) (by omega) 6).trans r6
    have gt4 : hT g (o + 4) = 20 := (f.T (by omega)).trans t4.1
    have gn4 : hN g (o + 4) = nc := (f.N (by omega)).trans t4.2
    have gv4 : hI g (o + 4) c = nI e := (f.oI ow.1 ow.2 (by omega) (by omega) (by omega) c).trans v4
    have gt6 : hT g (o + 1) = 23 := (f.T (by omega)).trans t6.1
    have gn6 : hN g (o + 1) = 80 := (f.N (by omega)).trans t6.2
    have hbk : b + k = e := by omega
    rw [p27_L20, g4, ob, if_pos gt4, gn4, if_neg (nI_in hc (by omega)), nI_clamp (by omega), gv4, hbk, if_neg Int32.lt_irrefl, g6, ob, if_pos gt6, gn6, if_neg (show ¬ ((0 : Int32) < 0 ∨ 80 ≤ (0 : Int32).toNatClampNeg) from nI_in (c := 0) (by decide) (by decide))]
    refine ⟨g, f, ?_⟩
    rw [show (0 : Int32).toNatClampNeg = 0 from rfl, hg 0 (by rw [ev2]; exact Nat.zero_lt_one)]
  | succ m ih =>
    intro k n g hk hn f hg
    obtain ⟨n, rfl⟩ : ∃ n', n = n' + 1 := ⟨n - 1, by omega⟩
    have ih' := fun g' => ih (k + 1) n g' (by omega) (by omega)
    have hb1 : b + k < sz := by omega
    obtain ⟨u5, ok⟩ := v5 (b + k) hb1
    obtain ⟨q, hq⟩ := tyR_le tk b (k := e - b) (j := k + 1) (by omega) (hty.elim fun T hT => ⟨_, hT⟩)
    rw [tyR] at hq
    obtain ⟨p, hp⟩ := tyR_le tk b (k := e - b) (j := k) (by omega) (hty.elim fun T hT => ⟨_, hT⟩)
    rw [hp, ob] at hq
    obtain ⟨i1, i2, -⟩ := ty_ev ws tk b k p hp
    have lv := vals_mono tk b (i := k + 1) (j := e - b) (by omega)
    have lv0 := vals_mono tk b (i := k) (j := e - b) (by omega)
    have hv : vals tk b (k + 1) = vals tk b k + (if decide (tk (b + k) < 10021) then 1 else 0) := cnt_ss _ _
    have g4 : hR g o 4 = some (o + 4) := (f.oR ow.1 lo (by omega) (by omega) 4).trans r4
    have g5 : hR g o 5 = some (o + 5) := (f.oR ow.1 lo (by omega) (by omega) 5).trans r5
    have g6 : hR g o 6 = some (o + 1) := (f.oR ow.1 lo (by omega) (by omega) 6).trans r6
    have gt4 : hT g (o + 4) = 20 := (f.T (by omega)).trans t4.1
    have gn4 : hN g (o + 4) = nc := (f.N (by omega)).trans t4.2
    have gv4 : hI g (o + 4) c = nI e := (f.oI ow.1 ow.2 (by omega) (by omega) (by omega) c).trans v4
    have gt5 : hT g (o + 5) = 20 := (f.T (by omega)).trans t5.1
    have gn5 : hN g (o + 5) = sz := (f.N (by omega)).trans t5.2
    have gv5 : hI g (o + 5) (b + k) = nI (tk (b + k)) := (f.oI ow.1 ow.2 (by omega) (by omega) (by omega) _).trans u5
    have gt6 : hT g (o + 1) = 23 := (f.T (by omega)).trans t6.1
    have gn6 : hN g (o + 1) = 80 := (f.N (by omega)).trans t6.2
    have gtw : hT g 85 = 23 := (f.T (by omega)).trans tw.1
    have gnw : hN g 85 = 11 := (f.N (by omega)).trans tw.2
    have gvw : ∀ j, j < 11 → hL g 85 j = ws j := fun j hj => (congrFun (f.fL (by omega) 85 (by decide)) j).trans (vw j hj)
    rw [evR] at ih'
    generalize hE : evR ws tk b k = E at *
    have tlt : tk (b + k) < 10060 := by
      rcases ok with z | z | z | z
      · omega
      · omega
      · omega
      · have := of_decide_eq_true z; omega
    generalize ht : tk (b + k) = t at *
    rw [p27_L20, g4, ob, if_pos gt4, gn4, if_neg (nI_in hc (by omega)), nI_clamp (by omega), gv4, if_pos (nI_lt (by omega) (by omega)), g5, ob, if_pos gt5, gn5, if_neg (nI_in hb1 (by omega)), nI_clamp (by omega), gv5, g6]
    simp only [ob, gt6, gn6, if_true, gtw, gnw, show Int32.ofNat 80 = nI 80 from rfl]
    unfold p27_j84 p27_j159
    unfold evF at ih'
    by_cases h1 : t < 10021
    · rw [if_pos (show nI t < (10021 : Int32) from nI_lt (b := 10021) h1 (by decide))]
      rw [if_pos h1] at ih'
      rw [decide_eq_true h1, if_pos rfl] at hv
      rw [if_pos (nI_lt (a := E.2) (b := 80) (by omega) (by decide))]
      have fin : ∀ v, valT ws t = v → ∃ g', FR [] [] (fun x => x = o + 1) h g' ∧ (Option.bind (some (o + 1)) fun o51 => if hT g o51 = 23 then if nI E.2 < (0 : Int32) ∨ hN g o51 ≤ (nI E.2).toNatClampNeg then none else p27_L20 F o (nI c) (some 85) n (hsL g o51 (nI E.2).toNatClampNeg v) (nI E.2 + 1) (nI (b + k) + 1) else none) = some ((evR ws tk b (e - b)).1 0, g') := fun v hv2 => by
        rw [ob, if_pos gt6, gn6, if_neg (nI_in (c := E.2) (N := 80) (by omega) (by decide)), nI_clamp (by omega), nI_1, nI_1]
        refine ih' _ (f.sL (Or.inr (Or.inl rfl))) (fun j hj => ?_)
        have hj : j < E.2 + 1 := hj
        show _ = u1 E.1 E.2 (valT ws t) j
        by_cases z : j = E.2
        · subst z
          rw [u1_eq, hv2]
          exact if_pos ⟨rfl, rfl⟩
        · rw [u1_ne z]
          exact (if_neg (fun y => z y.2)).trans (hg j (by omega))
      by_cases h2 : t < 10010
      · rw [if_pos (show nI t < (10010 : Int32) from nI_lt (b := 10010) h2 (by decide))]
        exact fin _ (by unfold valT; rw [if_pos h2, nI_l (by omega)])
      · have es : nI t - 10010 = nI (t - 10010) := by
          obtain ⟨d, rfl⟩ : ∃ d, t = 10010 + d := ⟨t - 10010, by omega⟩
          rw [Nat.add_sub_cancel_left]
          have hz : ∀ d, d < 11 → nI (10010 + d) - 10010 = nI d := by decide +kernel
          exact hz d (by omega)
        rw [if_neg (show ¬ nI t < (10010 : Int32) from nI_nlt (a := t) (b := 10010) (by omega) (by omega)), es, if_neg (nI_in (c := t - 10010) (N := 11) (by omega) (by decide)), nI_clamp (n := t - 10010) (by omega), gvw _ (by omega)]
        exact fin _ (by unfold valT; rw [if_neg h2])
    · rw [if_neg (show ¬ nI t < (10021 : Int32) from nI_nlt (a := t) (b := 10021) (by omega) (by omega))]
      rw [if_neg h1] at ih'
      rw [decide_eq_false h1, if_neg (by decide), Nat.add_zero] at hv
      by_cases h2 : t = 10030
      · subst h2
        rw [if_pos (show nI 10030 = (10030 : Int32) from rfl)]
        rw [if_pos rfl] at ih'
        have hp0 := tyF_N hq
        rw [← i1] at hp0
        have es : nI E.2 - 1 = nI (E.2 - 1) := by
          obtain ⟨d, hd⟩ : ∃ d, E.2 = d + 1 := ⟨E.2 - 1, by omega⟩
          rw [hd, nI_pred, Nat.add_sub_cancel]
        rw [if_pos (show (0 : Int32) < nI E.2 from nI_lt (a := 0) hp0 (by omega)), es, if_neg (nI_in (c := E.2 - 1) (N := 80) (by omega) (by decide)), if_neg (nI_in (c := E.2 - 1) (N := 80) (by omega) (by decide)), nI_clamp (by omega), nI_1, hg (E.2 - 1) (by omega)]
        refine ih' _ (f.sL (Or.inr (Or.inl rfl))) (fun j hj => ?_)
        have hj : j < E.2 := hj
        show _ = u1 E.1 (E.2 - 1) (1 - E.1 (E.2 - 1)) j
        by_cases z : j = E.2 - 1
        · subst z
          rw [u1_eq]
          exact if_pos ⟨rfl, rfl⟩
        · rw [u1_ne z]
          exact (if_neg (fun y => z y.2)).trans (hg j hj)
      · rw [if_neg (show ¬ nI t = (10030 : Int32) from fun z => h2 ((nI_eq (b := 10030) (by omega) (by decide)).mp z))]
        rw [if_neg h2] at ih'
        obtain ⟨hj, hp2⟩ := tyF_J hq h1 h2
        rw [← i1] at hp2
        have e1 : nI E.2 + -1 = nI (E.2 - 1) := by
          obtain ⟨d, hd⟩ : ∃ d, E.2 = d + 1 := ⟨E.2 - 1, by omega⟩
          rw [hd, ← Int32.sub_eq_add_neg, nI_pred, Nat.add_sub_cancel]
        have e2 : nI (E.2 - 1) - 1 = nI (E.2 - 2) := by
          obtain ⟨d, hd⟩ : ∃ d, E.2 = d + 2 := ⟨E.2 - 2, by omega⟩
          rw [hd, show d + 2 - 1 = d + 1 by omega, nI_pred, Nat.add_sub_cancel]
        rw [if_pos (show (1 : Int32) < nI E.2 from nI_lt (a := 1) (by omega) (by omega)), e1, e2, if_neg (nI_in (c := E.2 - 2) (N := 80) (by omega) (by decide)), if_neg (nI_in (c := E.2 - 1) (N := 80) (by omega) (by decide)), nI_clamp (by omega), nI_clamp (by omega), jC hj, ob, hg _ (by omega), hg _ (by omega), if_neg (nI_in' (c := E.2 - 2) (N := 80) (by omega) (by decide)), nI_1]
        refine ih' _ (f.sL (Or.inr (Or.inl rfl))) (fun j hj => ?_)
        have hj : j < E.2 - 1 := hj
        show _ = u1 E.1 (E.2 - 2) _ j
        by_cases z : j = E.2 - 2
        · subst z
          rw [u1_eq]
          exact if_pos ⟨rfl, rfl⟩
        · rw [u1_ne z]
          exact (if_neg (fun y => z y.2)).trans (hg j (by omega))
end LEV
