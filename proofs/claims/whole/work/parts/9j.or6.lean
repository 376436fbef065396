/-! order: the model sorts, then chooses -/
def srt (l P : Nat → Nat) (k : Nat) : Prop := (∀ j, j < k → P j < k) ∧ (∀ i j, i < j → j < k → l (P i) < l (P j)) ∧ ∀ x, x < k → ∃ j, j < k ∧ P j = x
section OR6
variable {s : SS} {h : HS}
theorem insM {l : Nat → Nat} {n k : Nat} (hn9 : n ≤ 9) (hk : k < n) (hl : ∀ j, j < n → hI h 156 j = nI (l j) ∧ l j < 1000) (hd : ∀ i j, i < n → j < n → l i = l j → i = j) {P : Nat → Nat} (hP : srt l P k) {F : Nat} {x : Int64} {a0 : Int32} {K : HS → Int32 → Option (Int64 × HS)} : ∀ (i f : Nat) (g : HS), i ≤ k → i < f → FR [157] [] nD h g → 160 ≤ h.1 → (∀ j, j < i → hI g 157 j = nI (P j)) → (∀ j, i < j → j ≤ k → hI g 157 j = nI (P (j - 1))) → (∀ j, i ≤ j → j < k → l k < l (P j)) → ∃ g' P', FR [157] [] nD h g' ∧ srt l P' (k + 1) ∧ (∀ j, j < k + 1 → hI g' 157 j = nI (P' j)) ∧ p303_L149 F a0 x K f g (nI k) (nI i) = K g' (nI (k + 1)) := by
  obtain ⟨P1, P2, P3⟩ := hP
  -- the sack finds its place
  have put : ∀ (i : Nat) (g : HS), i ≤ k → FR [157] [] nD h g → (∀ j, j < i → hI g 157 j = nI (P j)) → (∀ j, i < j → j ≤ k → hI g 157 j = nI (P (j - 1))) → (∀ j, i ≤ j → j < k → l k < l (P j)) → (∀ j, j < i → l (P j) < l k) → ∃ g' P', FR [157] [] nD h g' ∧ srt l P' (k + 1) ∧ (∀ j, j < k + 1 → hI g' 157 j = nI (P' j)) ∧ p303_j200 F a0 x K g (nI k) (nI i) = K g' (nI (k + 1)) := by
    intro i g hi fg h1 h2 h3 h4
    unfold p303_j200
    rw [if_neg (nI_in (by omega) (by decide)), nI_clamp (by omega), nI_1]
    refine ⟨_, fun j => if j < i then P j else if j = i then k else P (j - 1), fg.sI (Or.inl (by decide)), ⟨fun j hj => ?_, fun a b hab hb => ?_, fun y hy => ?_⟩, fun j hj => ?_, rfl⟩
    · show (if _ then _ else _) < _
      by_cases c : j < i
      · rw [if_pos c]; have := P1 j (by omega); omega
      · rw [if_neg c]
        by_cases c2 : j = i
        · rw [if_pos c2]; omega
        · rw [if_neg c2]; have := P1 (j - 1) (by omega); omega
    · show l (if _ then _ else _) < l (if _ then _ else _)
      by_cases a1 : a < i
      · rw [if_pos a1]
        by_cases b1 : b < i
        · rw [if_pos b1]; exact P2 a b hab (by omega)
        · rw [if_neg b1]
          by_cases b2 : b = i
          · rw [if_pos b2]; exact h4 a a1
          · rw [if_neg b2]
            exact P2 a (b - 1) (by omega) (by omega)
      · rw [if_neg a1, if_neg (show ¬ b < i by omega), if_neg (show ¬ b = i by omega)]
        by_cases a2 : a = i
        · rw [if_pos a2]; exact h3 (b - 1) (by omega) (by omega)
        · rw [if_neg a2]; exact P2 (a - 1) (b - 1) (by omega) (by omega)
    · by_cases y1 : y = k
      · refine ⟨i, by omega, ?_⟩
        show (if _ then _ else _) = _
        rw [if_neg (Nat.lt_irrefl i), if_pos rfl, y1]
      · obtain ⟨j, hj, e⟩ := P3 y (by omega)
        by_cases c : j < i
        · exact ⟨j, by omega, by show (if _ then _ else _) = _; rw [if_pos c]; exact e⟩
        · refine ⟨j + 1, by omega, ?_⟩
          show (if _ then _ else _) = _
          rw [if_neg (by omega), if_neg (by omega), Nat.add_sub_cancel]
          exact e
    · show _ = nI (if _ then _ else _)
      by_cases c : j < i
      · rw [if_pos c, hI_sk (by omega)]; exact h1 j c
      · rw [if_neg c]
        by_cases c2 : j = i
        · subst c2; rw [if_pos rfl, hI_s]
        · rw [if_neg c2, hI_sk c2]; exact h2 j (by omega) (by omega)
  intro i
  induction i with
  | zero =>
    intro f g hi hf fg w h1 h2 h3
    obtain ⟨f, rfl⟩ : ∃ n', f = n' + 1 := ⟨f - 1, by omega⟩
    rw [p303_L149, if_neg (show ¬ (0 : Int32) < nI 0 by decide)]
    exact put 0 g hi fg h1 h2 h3 (fun j hj => absurd hj (Nat.not_lt_zero j))
  | succ i ih =>
    intro f g hi hf fg w h1 h2 h3
    obtain ⟨f, rfl⟩ : ∃ n', f = n' + 1 := ⟨f - 1, by omega⟩
    have gi : ¬ (nI i < 0 ∨ 9 ≤ i) := nI_in' (by omega) (by decide)
    have e156 : ∀ j, j < n → hI g 156 j = nI (l j) := fun j hj => (congrFun (fg.fA w 156 (by decide)) j).trans (hl j hj).1
    have pi := P1 i (by omega)
    have em : nI (i + 1) + -1 = nI i := by rw [← Int32.sub_eq_add_neg, nI_pred]
    rw [p303_L149, if_pos (show (0 : Int32) < nI (i + 1) from nI_lt (a := 0) (by omega) (by omega)), nI_pred, nI_clamp (n := i) (by omega), if_neg gi, h1 i (by omega), if_neg (nI_in (c := P i) (by omega) (by decide)), nI_clamp (n := P i) (by omega), if_neg (nI_in (c := k) (by omega) (by decide)), nI_clamp (n := k) (by omega), e156 k hk, e156 (P i) (by omega), if_neg gi, em]
    by_cases z : l k < l (P i)
    · have lb := (hl (P i) (by omega)).2
      rw [if_pos (nI_lt z (by omega)), if_neg (nI_in (c := i + 1) (by omega) (by decide)), nI_clamp (n := i + 1) (by omega)]
      refine ih f _ (by omega) (by omega) (fg.sI (Or.inl (by decide))) w (fun j hj => ?_) (fun j hj hjk => ?_) (fun j hj hjk => ?_)
      · rw [hI_sk (by omega)]; exact h1 j (by omega)
      · by_cases c : j = i + 1
        · subst c; rw [hI_s, Nat.add_sub_cancel]
        · rw [hI_sk c]; exact h2 j (by omega) hjk
      · by_cases c : j = i
        · subst c; exact z
        · exact h3 j (by omega) hjk
    · have lb := (hl k hk).2
      rw [if_neg (nI_nlt (by omega) (by omega))]
      refine put (i + 1) g hi fg h1 h2 h3 (fun j hj => ?_)
      have ne : ¬ l (P i) = l k := fun y => by have := hd (P i) k (by omega) hk y; omega
      by_cases c : j = i
      · subst c; omega
      · have := P2 j i (by omega) (by omega); omega
theorem srtM (w : 160 ≤ h.1) {l : Nat → Nat} {n : Nat} (hn9 : n ≤ 9) (hl : ∀ j, j < n → hI h 156 j = nI (l j) ∧ l j < 1000) (hd : ∀ i j, i < n → j < n → l i = l j → i = j) {F : Nat} (hF : 1000 ≤ F) {x : Int64} : ∀ (m k f : Nat) (g : HS) (P : Nat → Nat), k + m = n → m < f → FR [157] [] nD h g → srt l P k → (∀ j, j < k → hI g 157 j = nI (P j)) → ∃ g' P', FR [157] [] nD h g' ∧ srt l P' n ∧ (∀ j, j < n → hI g' 157 j = nI (P' j)) ∧ p303_L139 F (nI n) x f g (nI k) = p303_L236 F (nI n) x F (hsL g' 159 (2 ^ n - 1) 0) (vJ n 1) := by
  obtain ⟨p1, p2, p3⟩ := b9_pw n (by omega)
  intro m
  induction m with
  | zero =>
    intro k f g P hk hf fg hP hr
    obtain ⟨f, rfl⟩ : ∃ n', f = n' + 1 := ⟨f - 1, by omega⟩
    have e : k = n := by omega
    subst e
    have e1 : nI (2 ^ k) - 1 = nI (2 ^ k - 1) := by
      obtain ⟨d, hd⟩ : ∃ d, 2 ^ k = d + 1 := ⟨2 ^ k - 1, by omega⟩
      rw [hd, nI_pred, Nat.add_sub_cancel]
    have e2 : nI (2 ^ k - 1) - 1 = vJ k 1 := by
      have := vJ_s (n := k) (j := 0) p3
      rw [Nat.sub_zero, ← Int32.sub_eq_add_neg] at this
      exact this
    rw [p303_L139, if_neg Int32.lt_irrefl, p1, e1, if_neg (nI_in (by omega) (by decide)), nI_clamp (n := 2 ^ k - 1) (by omega), e2]
    exact ⟨g, P, fg, hP, hr, rfl⟩
  | succ m ih =>
    intro k f g P hk hf fg hP hr
    obtain ⟨f, rfl⟩ : ∃ n', f = n' + 1 := ⟨f - 1, by omega⟩
    obtain ⟨g2, P2, f2, hP2, hr2, e2⟩ := insM (h := g) (l := l) (n := n) (k := k) hn9 (by omega) (fun j hj => ⟨(congrFun (fg.fA w 156 (by decide)) j).trans (hl j hj).1, (hl j hj).2⟩) hd hP (F := F) (x := x) (a0 := nI n) (K := p303_L139 F (nI n) x f) k F g (Nat.le_refl _) (by omega) (FR.rf nD160) (Nat.le_trans w fg.1) hr (fun j h1 h2 => by omega) (fun j h1 h2 => by omega)
    rw [p303_L139, if_pos (nI_lt (by omega) (by omega)), e2]
    exact ih (k + 1) f g2 P2 (by omega) (by omega) (fg.tr f2) hP2 hr2
/-- the model's choice of one sack -/
theorem chM (E : EM s h) (S : SCc s h) (O : ORa s h) {l : Nat → Nat} {n t i : Nat} (hn9 : n ≤ 9) (hl : ∀ k, k < n → l k < s 0 1 ∧ hI h 156 k = nI (l k)) (hd : ∀ i j, i < n → j < n → l i = l j → i = j) {P : Nat → Nat} (hP : srt l P n) (h157 : ∀ j, j < n → hI h 157 j = nI (P j)) (ht : t < 2 ^ n) (hf : ¬ t = 2 ^ n - 1) (hi : i < n) (h159 : ∀ u, u < 2 ^ n → hL h 159 u = lN (TT (hof h l) (ndf h) (wtf h) n (s 0 13) u)) {F : Nat} (hF : 1000 ≤ F) {x : Int64} {a0 : Int32} {K : HS → Int32 → Int32 → Option (Int64 × HS)} : ∀ (m k f : Nat), k + m = n → m < f → (∀ j, j < k → ¬ gdP (hof h l) (ndf h) (wtf h) n (s 0 13) t (P j)) → p303_L357 F a0 x K f h (nI t) (nI i) (nI k) = K (hsI h 158 i (nI (l (chB l (hof h l) (ndf h) (wtf h) n (s 0 13) t)))) (nI (t ||| 2 ^ chB l (hof h l) (ndf h) (wtf h) n (s 0 13) t)) (nI (i + 1)) := by
  have b13 := E.b13
  have b1 := E.b1
  have p2 := (b9_pw n (by omega)).2.1
  obtain ⟨P1, P2, P3⟩ := hP
  have hH : ∀ i, i < n → hof h l i ≤ 999 := fun i hi => (ho_v S (hl i hi).1).2
  have hwt : ∀ a, a < s 0 13 → wtf h a ≤ 99 := fun a ha => (nd_v O ha).2.2.2
  have tle := TT_le S O b13 hn9 (fun k hk => (hl k hk).1)
  obtain ⟨s1, s2, s3, s4⟩ := chB_sp (l := l) (H := hof h l) (nd := ndf h) (wt := wtf h) (A := s 0 13) hn9 ht hf
  intro m
  induction m with
  | zero =>
    intro k f hk _ hb
    exfalso
    obtain ⟨j, hj, e⟩ := P3 _ s2
    exact hb j (by omega) (by rw [e]; exact s3)
  | succ m ih =>
    intro k f hk hf2 hb
    obtain ⟨f, rfl⟩ : ∃ n', f = n' + 1 := ⟨f - 1, by omega⟩
    have hkl : k < n := by omega
    have pk := P1 k hkl
    have gk : ¬ (nI k < 0 ∨ 9 ≤ k) := nI_in' (by omega) (by decide)
    have gt : ¬ (nI t < 0 ∨ 512 ≤ t) := nI_in' (by omega) (by decide)
    have go : ¬ gdP (hof h l) (ndf h) (wtf h) n (s 0 13) t (P k) → p303_L357 F a0 x K f h (nI t) (nI i) (nI (k + 1)) = K (hsI h 158 i (nI (l (chB l (hof h l) (ndf h) (wtf h) n (s 0 13) t)))) (nI (t ||| 2 ^ chB l (hof h l) (ndf h) (wtf h) n (s 0 13) t)) (nI (i + 1)) := fun z =>
      ih (k + 1) f (by omega) (by omega) (fun j hj => by
        by_cases c : j = k
        · subst c; exact z
        · exact hb j (by omega))
    obtain ⟨o1, o2, o3⟩ := b9_or t (by omega) (P k) (by omega)
    have o4 := b9_in n (by omega) t ht (P k) pk
    have ec := csM E S O (l := l) (n := n) (t := t ||| 2 ^ P k) (k := P k) hn9 hl o4 (by omega) hF
    rw [p303_L357, nI_clamp (n := k) (by omega), if_neg gk, h157 k hkl, (b9_bt t (by omega) (P k) (by omega)).2.2, o1, ec, if_neg gk, if_neg gk]
    unfold p303_j425
    rw [nI_1]
    cases hbt : t.testBit (P k) with
    | true =>
      rw [show (if (true = true) then (1 : Int32) else 0) = 1 from rfl, if_pos rfl]
      exact go (fun z => by have := z.1; rw [hbt] at this; cases this)
    | false =>
      rw [show (if (false = true) then (1 : Int32) else 0) = 0 from rfl, if_neg (show ¬ (0 : Int32) = 1 by decide), ob, if_neg gk, nI_clamp (n := t ||| 2 ^ P k) (by omega), if_neg (nI_in' o2 (by decide)), nI_clamp (n := t) (by omega), if_neg gt, h159 _ o4, h159 t ht, lN_add]
      simp only [lg_sub0]
      have bc : cst (hof h l) (ndf h) (wtf h) n (s 0 13) (t ||| 2 ^ P k) (P k) + TT (hof h l) (ndf h) (wtf h) n (s 0 13) (t ||| 2 ^ P k) < 2 ^ 62 := by
        have c1 := (cst_le (nd := ndf h) (t := t ||| 2 ^ P k) (k := P k) hn9 b13 hH hwt).1
        have c2 := Rt_le (nd := ndf h) hn9 b13 hH hwt (2 ^ n) (Nat.le_refl _) (t ||| 2 ^ P k) (by have := o3 hbt; omega) o4
        have c3 : BIG * (2 ^ n - (t ||| 2 ^ P k)) ≤ BIG * 512 := Nat.mul_le_mul_left _ (by omega)
        unfold TT
        unfold BIG at *
        omega
      simp only [lL_eq bc (tle t ht)]
      by_cases hg : cst (hof h l) (ndf h) (wtf h) n (s 0 13) (t ||| 2 ^ P k) (P k) + TT (hof h l) (ndf h) (wtf h) n (s 0 13) (t ||| 2 ^ P k) = TT (hof h l) (ndf h) (wtf h) n (s 0 13) t
      · -- it is the class's choice
        have ech : chB l (hof h l) (ndf h) (wtf h) n (s 0 13) t = P k := by
          obtain ⟨j, hj, e⟩ := P3 _ s2
          have jk : ¬ j < k := fun z => hb j z (by rw [e]; exact s3)
          have le := s4 (P k) pk ⟨hbt, hg⟩
          by_cases c : j = k
          · rw [← e, c]
          · have := P2 k j (by omega) hj
            rw [e] at this
            omega
        have k157 : ∀ v, hI (hsI h 158 i v) 157 k = nI (P k) := fun v => (hI_sn (by decide) _).trans (h157 k hkl)
        rw [if_pos hg, if_neg gk, if_neg (nI_in (c := P k) (by omega) (by decide)), if_neg (nI_in (c := i) (by omega) (by decide)), nI_clamp (n := i) (by omega), nI_clamp (n := P k) (by omega), (hl (P k) pk).2, ob, if_neg gk, k157, o1, nI_1, ech]
      · rw [if_neg hg]
        exact go (fun z => hg z.2)
end OR6
