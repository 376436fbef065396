/-! laying: the loose scraps of a sack -/
theorem cnt_mono (P : Nat → Bool) {i j : Nat} (h : i ≤ j) : cnt P i ≤ cnt P j := by
  obtain ⟨d, rfl⟩ : ∃ d, j = i + d := ⟨j - i, by omega⟩
  rw [cnt_add]
  omega
theorem cnt_lt {P : Nat → Bool} {i j : Nat} (hp : P i = true) (h : i < j) : cnt P i < cnt P j := by
  have a := cnt_mono P (show i + 1 ≤ j from h)
  rw [cnt_ss, hp, if_pos rfl] at a
  omega
theorem cnt_ex {P : Nat → Bool} : ∀ (N k : Nat), k < cnt P N → ∃ j, j < N ∧ P j = true ∧ cnt P j = k
  | 0, k, h => absurd h (Nat.not_lt_zero k)
  | N + 1, k, h => by
    rw [cnt_ss] at h
    by_cases z : k < cnt P N
    · obtain ⟨j, h1, h2, h3⟩ := cnt_ex N k z
      exact ⟨j, by omega, h2, h3⟩
    · cases hp : P N
      · rw [hp, if_neg (by decide)] at h; omega
      · rw [hp, if_pos rfl] at h
        exact ⟨N, by omega, hp, by omega⟩
/-- the one that has k ahead of it -/
def mth (P : Nat → Bool) (N k : Nat) : Nat := fsN (fun j => P j && decide (cnt P j = k)) N
theorem mth_s {P : Nat → Bool} {N k : Nat} (h : k < cnt P N) : mth P N k < N ∧ P (mth P N k) = true ∧ cnt P (mth P N k) = k := by
  obtain ⟨j, h1, h2, h3⟩ := cnt_ex N k h
  have lt : mth P N k < N := by
    rcases Nat.lt_or_eq_of_le (fsN_le (fun j => P j && decide (cnt P j = k)) N) with z | z
    · exact z
    · have := fsN_none_iff.mp z j h1
      simp only [h2, h3, decide_true, Bool.and_self] at this
      cases this
  have e := (fsN_spec (P := fun j => P j && decide (cnt P j = k)) (n := N)).1 lt
  rw [Bool.and_eq_true] at e
  exact ⟨lt, e.1, of_decide_eq_true e.2⟩
theorem mth_mo {P : Nat → Bool} {N : Nat} (a b : Nat) (h : a < b) (hb : b < cnt P N) : mth P N a < mth P N b := by
  obtain ⟨-, -, h3⟩ := mth_s (show a < cnt P N by omega)
  obtain ⟨-, -, k3⟩ := mth_s hb
  rcases Nat.lt_or_ge (mth P N a) (mth P N b) with z | z
  · exact z
  · have := cnt_mono P z
    omega
def lsP (h : HS) (a : Int32) (j : Nat) : Bool := decide (hI h 88 j = a) && decide (hI h 91 j = -1)
/-- written as they are counted -/
def gthd (P : Nat → Bool) (g : HS) (a i : Nat) : Prop := ∀ j, j < i → P j = true → cnt P j < 8 → hI g a (cnt P j) = nI j
theorem gthd_s {P : Nat → Bool} {g : HS} {a i : Nat} (H : gthd P g a i) (hp : P i = true) : gthd P (hsI g a (cnt P i) (nI i)) a (i + 1) := by
  intro j hj hpj hc
  by_cases z : j = i
  · subst z; exact hsI_s _ _ _ _
  · have := cnt_lt hpj (show j < i by omega)
    exact (if_neg (fun y => by omega)).trans (H j (by omega) hpj hc)
theorem gthd_n {P : Nat → Bool} {g : HS} {a i : Nat} (H : gthd P g a i) (hp : P i = false ∨ 8 ≤ cnt P i) : gthd P g a (i + 1) := by
  intro j hj hpj hc
  by_cases z : j = i
  · subst z
    rcases hp with y | y
    · rw [y] at hpj; cases hpj
    · omega
  · exact H j (by omega) hpj hc
theorem gthd_r {P : Nat → Bool} {g : HS} {a N n : Nat} (H : gthd P g a N) (hn : n = cnt P N) (h8 : n ≤ 8) : ∀ k, k < n → hI g a k = nI (mth P N k) := by
  intro k hk
  obtain ⟨h1, h2, h3⟩ := mth_s (P := P) (N := N) (k := k) (by omega)
  have := H _ h1 h2 (by omega)
  rw [h3] at this
  exact this
section LA4
variable {s : SS} {h : HS} {F : Nat}
theorem m_gat (E : EV s h) (a0 a1 a2 : Int32) : ∀ (f i : Nat) (g : HS), i ≤ s 0 2 → s 0 2 - i < f → FR [92] [] nD h g → gthd (lsP h a0) g 92 i → ∃ g', FR [92] [] nD h g' ∧ gthd (lsP h a0) g' 92 (s 0 2) ∧ p201_L30 F a0 a1 a2 f g (nI (cnt (lsP h a0) i)) (nI i) = if nI (cnt (lsP h a0) (s 0 2)) = a1 * a2 then p201_L102 F a0 a1 a2 F g' (nI (cnt (lsP h a0) (s 0 2))) (-1) 1 else some (-1, g') := by
  have b2 := E.cn.b2
  have w := E.w.1
  intro f
  induction f with
  | zero => intro i g _ z; omega
  | succ f ih =>
    intro i g hi hf fg hg
    have em : hI g 86 3 = nI (s 0 2) := (fg.fI w 86 3 (by decide)).trans E.cn.m2
    have cl := cnt_le (lsP h a0) i
    by_cases hlt : i < s 0 2
    · have e88 : hI g 88 = hI h 88 := fg.fA w 88 (by decide)
      have e91 : hI g 91 = hI h 91 := fg.fA w 91 (by decide)
      by_cases c1 : hI h 88 i = a0
      · by_cases c2 : hI h 91 i = -1
        · have hp : lsP h a0 i = true := by unfold lsP; rw [decide_eq_true c1, decide_eq_true c2]; rfl
          have cs : cnt (lsP h a0) (i + 1) = cnt (lsP h a0) i + 1 := by rw [cnt_ss, hp, if_pos rfl]
          by_cases c3 : cnt (lsP h a0) i < 8
          · obtain ⟨g', f', r', e'⟩ := ih (i + 1) (hsI g 92 (cnt (lsP h a0) i) (nI i)) (by omega) (by omega) (fg.sI (Or.inl (by decide))) (gthd_s hg hp)
            refine ⟨g', f', r', ?_⟩
            rw [← e', p201_L30, em, if_pos (nI_lt hlt (by omega)), nI_clamp (n := i) (by omega), nI_clamp (by omega), if_neg (nI_in' (by omega) (by decide)), if_neg (nI_in' (by omega) (by decide)), if_neg (nI_in' c3 (by decide)), e88, e91, if_pos c1, if_pos c2, if_pos (show nI (cnt (lsP h a0) i) < 8 from nI_lt (b := 8) c3 (by decide))]
            unfold p201_j77 p201_j80
            rw [nI_1, nI_1, cs]
          · obtain ⟨g', f', r', e'⟩ := ih (i + 1) g (by omega) (by omega) fg (gthd_n hg (Or.inr (by omega)))
            refine ⟨g', f', r', ?_⟩
            rw [← e', p201_L30, em, if_pos (nI_lt hlt (by omega)), nI_clamp (n := i) (by omega), if_neg (nI_in' (by omega) (by decide)), if_neg (nI_in' (by omega) (by decide)), e88, e91, if_pos c1, if_pos c2, if_neg (show ¬ nI (cnt (lsP h a0) i) < 8 from nI_nlt (a := cnt (lsP h a0) i) (b := 8) (by omega) (by omega))]
            unfold p201_j77 p201_j80
            rw [nI_1, nI_1, cs]
        · have hp : lsP h a0 i = false := by unfold lsP; rw [decide_eq_false c2, Bool.and_false]
          have cs : cnt (lsP h a0) (i + 1) = cnt (lsP h a0) i := by rw [cnt_ss, hp]; rfl
          obtain ⟨g', f', r', e'⟩ := ih (i + 1) g (by omega) (by omega) fg (gthd_n hg (Or.inl hp))
          refine ⟨g', f', r', ?_⟩
          rw [← e', p201_L30, em, if_pos (nI_lt hlt (by omega)), nI_clamp (n := i) (by omega), if_neg (nI_in' (by omega) (by decide)), if_neg (nI_in' (by omega) (by decide)), e88, e91, if_pos c1, if_neg c2]
          unfold p201_j80
          rw [nI_1, cs]
      · have hp : lsP h a0 i = false := by unfold lsP; rw [decide_eq_false c1, Bool.false_and]
        have cs : cnt (lsP h a0) (i + 1) = cnt (lsP h a0) i := by rw [cnt_ss, hp]; rfl
        obtain ⟨g', f', r', e'⟩ := ih (i + 1) g (by omega) (by omega) fg (gthd_n hg (Or.inl hp))
        refine ⟨g', f', r', ?_⟩
        rw [← e', p201_L30, em, if_pos (nI_lt hlt (by omega)), nI_clamp (n := i) (by omega), if_neg (nI_in' (by omega) (by decide)), e88, if_neg c1]
        unfold p201_j80
        rw [nI_1, cs]
    · have : i = s 0 2 := by omega
      subst this
      refine ⟨g, fg, hg, ?_⟩
      rw [p201_L30, em, if_neg Int32.lt_irrefl]
theorem c_cntL (E : EV s h) (S : SCc s h) (a0 : Int32) : ∀ (f i : Nat), i ≤ s 0 2 → s 0 2 - i < f → p45_L4 F a0 f h (nI (cnt (lsP h a0) i)) (nI i) = some (nI (cnt (lsP h a0) (s 0 2))) := by
  have b2 := E.cn.b2
  intro f
  induction f with
  | zero => intro i _ z; omega
  | succ f ih =>
    intro i hi hf
    rw [p45_L4, E.cn.c2]
    by_cases hlt : i < s 0 2
    · have ih' := ih (i + 1) (by omega) (by omega)
      rw [cnt_ss] at ih'
      rw [if_pos (nI_lt hlt (by omega)), nI_clamp (n := i) (by omega), if_neg (nI_in' (by omega) (by decide)), S.2.1, S.2.2.2.1]
      unfold p45_j44
      rw [nI_1, nI_1]
      by_cases c1 : hI h 88 i = a0
      · rw [if_pos c1, if_neg (nI_in' (by omega) (by decide))]
        by_cases c2 : hI h 91 i = -1
        · have hp : lsP h a0 i = true := by unfold lsP; rw [decide_eq_true c1, decide_eq_true c2]; rfl
          rw [hp, if_pos rfl] at ih'
          rw [if_pos c2]
          exact ih'
        · have hp : lsP h a0 i = false := by unfold lsP; rw [decide_eq_false c2, Bool.and_false]
          rw [hp] at ih'
          rw [if_neg c2]
          exact ih'
      · have hp : lsP h a0 i = false := by unfold lsP; rw [decide_eq_false c1, Bool.false_and]
        rw [hp] at ih'
        rw [if_neg c1]
        exact ih'
    · have : i = s 0 2 := by omega
      subst this
      rw [if_neg Int32.lt_irrefl]
theorem c_gat (E : EV s h) (S : SCc s h) (a0 : Int32) {n : Nat} (hn : n ≤ 8) (en : n = cnt (lsP h a0) (s 0 2)) (e1 : hI h 39 1 = nI n) : ∀ (f i : Nat) (g : HS), i ≤ s 0 2 → s 0 2 - i < f → FR [40] [] nD h g → gthd (lsP h a0) g 40 i → ∃ g', FR [40] [] nD h g' ∧ gthd (lsP h a0) g' 40 (s 0 2) ∧ p46_L4 F a0 f g (nI (cnt (lsP h a0) i)) (nI i) = some g' := by
  have b2 := E.cn.b2
  have w := E.w.1
  intro f
  induction f with
  | zero => intro i g _ z; omega
  | succ f ih =>
    intro i g hi hf fg hg
    have em : hI g 33 1 = nI (s 0 2) := (fg.fI w 33 1 (by decide)).trans E.cn.c2
    have en1 : hI g 39 1 = nI n := (fg.fI w 39 1 (by decide)).trans e1
    have cl := cnt_le (lsP h a0) i
    by_cases hlt : i < s 0 2
    · have e35 : hI g 35 = hI h 88 := (fg.fA w 35 (by decide)).trans S.2.1
      have e37 : hI g 37 = hI h 91 := (fg.fA w 37 (by decide)).trans S.2.2.2.1
      rw [p46_L4, em, en1, if_pos (nI_lt hlt (by omega)), nI_clamp (n := i) (by omega), e35, e37]
      by_cases cm : cnt (lsP h a0) i < n
      · rw [if_pos (nI_lt cm (by omega)), if_neg (nI_in' (by omega) (by decide)), nI_clamp (by omega)]
        unfold p46_j59
        rw [nI_1, nI_1]
        by_cases c1 : hI h 88 i = a0
        · rw [if_pos c1, if_neg (nI_in' (by omega) (by decide))]
          by_cases c2 : hI h 91 i = -1
          · have hp : lsP h a0 i = true := by unfold lsP; rw [decide_eq_true c1, decide_eq_true c2]; rfl
            have cs : cnt (lsP h a0) (i + 1) = cnt (lsP h a0) i + 1 := by rw [cnt_ss, hp, if_pos rfl]
            rw [if_pos c2, if_neg (nI_in' (by omega) (by decide)), ← cs]
            exact ih (i + 1) _ (by omega) (by omega) (fg.sI (Or.inl (by decide))) (gthd_s hg hp)
          · have hp : lsP h a0 i = false := by unfold lsP; rw [decide_eq_false c2, Bool.and_false]
            have cs : cnt (lsP h a0) (i + 1) = cnt (lsP h a0) i := by rw [cnt_ss, hp]; rfl
            rw [if_neg c2, ← cs]
            exact ih (i + 1) _ (by omega) (by omega) fg (gthd_n hg (Or.inl hp))
        · have hp : lsP h a0 i = false := by unfold lsP; rw [decide_eq_false c1, Bool.false_and]
          have cs : cnt (lsP h a0) (i + 1) = cnt (lsP h a0) i := by rw [cnt_ss, hp]; rfl
          rw [if_neg c1, ← cs]
          exact ih (i + 1) _ (by omega) (by omega) fg (gthd_n hg (Or.inl hp))
      · rw [if_neg (nI_nlt (by omega) (by omega))]
        refine ⟨g, fg, fun j hj hp hc => ?_, rfl⟩
        by_cases z : j < i
        · exact hg j z hp hc
        · have := cnt_lt hp hj
          have := cnt_mono (lsP h a0) (show i ≤ j by omega)
          omega
    · have : i = s 0 2 := by omega
      subst this
      refine ⟨g, fg, hg, ?_⟩
      rw [p46_L4, em, if_neg Int32.lt_irrefl]
end LA4
