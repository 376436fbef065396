/-! order: both sides choose -/
section OR5
variable {s : SS} {h : HS}
theorem TT_le (S : SCc s h) (O : ORa s h) (b13 : s 0 13 ≤ 12) {l : Nat → Nat} {n : Nat} (hn9 : n ≤ 9) (hl : ∀ k, k < n → l k < s 0 1) : ∀ u, u < 2 ^ n → TT (hof h l) (ndf h) (wtf h) n (s 0 13) u < 2 ^ 62 := fun u hu => by
  have hwt : ∀ a, a < s 0 13 → wtf h a ≤ 99 := fun a ha => (nd_v O ha).2.2.2
  have hH : ∀ i, i < n → hof h l i ≤ 999 := fun i hi => (ho_v S (hl i hi)).2
  by_cases z : u = 0
  · subst z
    have e := TT_stp (H := hof h l) (nd := ndf h) (wt := wtf h) (A := s 0 13) (t := 0) hn9 hu
    unfold stpo at e
    cases hm : mnO (hof h l) (ndf h) (wtf h) n (s 0 13) (TT (hof h l) (ndf h) (wtf h) n (s 0 13)) 0 n with
    | none => rw [hm] at e; rw [e]; exact (by decide : (0 : Nat) < 2 ^ 62)
    | some m =>
      rw [hm] at e
      have := mnO_le hn9 b13 hH hwt hu (fun u h1 h2 => Rt_le hn9 b13 hH hwt (2 ^ n) (Nat.le_refl _) u (by omega) h2) n (Nat.le_refl _) m hm
      have b := b62 (n := n) (t := 0) hn9 (by omega)
      rw [e]
      exact Nat.lt_of_le_of_lt this b
  · have := Rt_le (nd := ndf h) hn9 b13 hH hwt (2 ^ n) (Nat.le_refl _) u (by omega) hu
    exact Nat.lt_of_le_of_lt this (b62 hn9 (by omega))
/-- the class's choice of one sack -/
theorem chC (E : EV s h) (S : SCc s h) (O : ORa s h) {l : Nat → Nat} {n t k : Nat} (hn9 : n ≤ 9) (hl : ∀ k, k < n → l k < s 0 1 ∧ hI h 81 k = nI (l k)) (ht : t < 2 ^ n) (hf : ¬ t = 2 ^ n - 1) (hk : k < n) (h82 : ∀ u, u < 2 ^ n → hI h 82 u = nI (hrs (hof h l) n u) ∧ hI h 83 u = nI (srv (ndf h) (wtf h) (s 0 13) u)) (h84 : ∀ u, u < 2 ^ n → hL h 84 u = lN (TT (hof h l) (ndf h) (wtf h) n (s 0 13) u)) {F : Nat} {K : HS → Int32 → Int32 → Option HS} : ∀ (m i f : Nat), i + m = n → m < f → p82_L15 F (nI n) K f h (nI t) (nI k) (oI (chN l (hof h l) (ndf h) (wtf h) n (s 0 13) t i)) (nI i) = K (hsI h 80 k (nI (l (chB l (hof h l) (ndf h) (wtf h) n (s 0 13) t)))) (nI (t ||| 2 ^ chB l (hof h l) (ndf h) (wtf h) n (s 0 13) t)) (nI (k + 1)) := by
  have b13 := E.cn.b13
  have b1 := E.cn.b1
  have p2 := (b9_pw n (by omega)).2.1
  have hH : ∀ i, i < n → hof h l i ≤ 999 := fun i hi => (ho_v S (hl i hi).1).2
  have hwt : ∀ a, a < s 0 13 → wtf h a ≤ 99 := fun a ha => (nd_v O ha).2.2.2
  have tle := TT_le S O b13 hn9 (fun k hk => (hl k hk).1)
  obtain ⟨s1, s2, s3, s4⟩ := chB_sp (l := l) (H := hof h l) (nd := ndf h) (wt := wtf h) (A := s 0 13) hn9 ht hf
  intro m
  induction m with
  | zero =>
    intro i f hi hf2
    obtain ⟨f, rfl⟩ : ∃ n', f = n' + 1 := ⟨f - 1, by omega⟩
    have e : i = n := by omega
    subst e
    rw [p82_L15, if_neg Int32.lt_irrefl, s1]
    unfold p82_j106
    rw [show oI (some (chB l (hof h l) (ndf h) (wtf h) i (s 0 13) t)) = nI (chB l (hof h l) (ndf h) (wtf h) i (s 0 13) t) from rfl, if_neg (fun z => by have := m1_nI (n := chB l (hof h l) (ndf h) (wtf h) i (s 0 13) t) (by omega); rw [this] at z; exact z), if_neg (nI_in (by omega) (by decide)), if_neg (nI_in (by omega) (by decide)), nI_clamp (n := k) (by omega), nI_clamp (by omega), (hl _ s2).2, (b9_or t (by omega) _ (by omega)).1, nI_1]
  | succ m ih =>
    intro i f hi hf2
    obtain ⟨f, rfl⟩ : ∃ n', f = n' + 1 := ⟨f - 1, by omega⟩
    have ih' := ih (i + 1) f (by omega) (by omega)
    rw [chN] at ih'
    have hil : i < n := by omega
    have gt : ¬ (nI t < 0 ∨ 512 ≤ t) := nI_in' (by omega) (by decide)
    have skip : ¬ gdP (hof h l) (ndf h) (wtf h) n (s 0 13) t i → p82_L15 F (nI n) K f h (nI t) (nI k) (oI (chN l (hof h l) (ndf h) (wtf h) n (s 0 13) t i)) (nI (i + 1)) = K (hsI h 80 k (nI (l (chB l (hof h l) (ndf h) (wtf h) n (s 0 13) t)))) (nI (t ||| 2 ^ chB l (hof h l) (ndf h) (wtf h) n (s 0 13) t)) (nI (k + 1)) := fun z => by
      rw [if_neg (fun y => z y.1)] at ih'
      exact ih'
    rw [p82_L15, if_pos (nI_lt hil (by omega)), (b9_bt t (by omega) i (by omega)).2.1]
    unfold p82_j70 p82_j74
    rw [nI_1]
    cases hb : t.testBit i with
    | true =>
      rw [show (if (true = true) then (1 : Int32) else 0) = 1 from rfl, if_neg n10]
      exact skip (fun z => by have := z.1; rw [hb] at this; cases this)
    | false =>
      obtain ⟨o1, o2, o3⟩ := b9_or t (by omega) i (by omega)
      have o4 := b9_in n (by omega) t ht i hil
      rw [show (if (false = true) then (1 : Int32) else 0) = 0 from rfl, if_pos rfl, cwC E O (R := TT (hof h l) (ndf h) (wtf h) n (s 0 13)) hn9 ht hil hb hH h82 (h84 _ o4), ob, nI_clamp (n := t) (by omega), if_neg gt, h84 t ht]
      simp only [lg_sub0]
      have bc : cst (hof h l) (ndf h) (wtf h) n (s 0 13) (t ||| 2 ^ i) i + TT (hof h l) (ndf h) (wtf h) n (s 0 13) (t ||| 2 ^ i) < 2 ^ 62 := by
        have c1 := (cst_le (nd := ndf h) (t := t ||| 2 ^ i) (k := i) hn9 b13 hH hwt).1
        have c2 := Rt_le (nd := ndf h) hn9 b13 hH hwt (2 ^ n) (Nat.le_refl _) (t ||| 2 ^ i) (by have := o3 hb; omega) o4
        have c3 : BIG * (2 ^ n - (t ||| 2 ^ i)) ≤ BIG * 512 := Nat.mul_le_mul_left _ (by omega)
        unfold TT
        unfold BIG at *
        omega
      simp only [lL_eq bc (tle t ht)]
      by_cases hg : cst (hof h l) (ndf h) (wtf h) n (s 0 13) (t ||| 2 ^ i) i + TT (hof h l) (ndf h) (wtf h) n (s 0 13) (t ||| 2 ^ i) = TT (hof h l) (ndf h) (wtf h) n (s 0 13) t
      · rw [if_pos hg]
        cases hq : chN l (hof h l) (ndf h) (wtf h) n (s 0 13) t i with
        | none =>
          rw [hq, if_pos ⟨⟨hb, hg⟩, fun b hb => by cases hb⟩] at ih'
          rw [show oI none = -1 from rfl, if_pos rfl]
          exact ih'
        | some b =>
          have hbi := ((chN_sp (l := l) i).1 b hq).1
          rw [hq] at ih'
          rw [show oI (some b) = nI b from rfl, if_neg (fun z => by have := m1_nI (n := b) (by omega); rw [this] at z; exact z), if_neg (nI_in (c := i) (by omega) (by decide)), if_neg (nI_in (c := b) (by omega) (by decide)), nI_clamp (n := i) (by omega), nI_clamp (n := b) (by omega), (hl i hil).2, (hl b (by omega)).2]
          by_cases z : l i < l b
          · rw [if_pos (nI_lt z (by have := (hl b (by omega)).1; omega))]
            rw [if_pos ⟨⟨hb, hg⟩, fun b' hb' => by cases hb'; exact z⟩] at ih'
            exact ih'
          · rw [if_neg (nI_nlt (by omega) (by have := (hl i hil).1; omega))]
            rw [if_neg (fun y => z (y.2 b rfl))] at ih'
            exact ih'
      · rw [if_neg hg]
        exact skip (fun z => hg z.2)
theorem chsC (E : EV s h) (S : SCc s h) (O : ORa s h) {l : Nat → Nat} {n : Nat} (hn9 : n ≤ 9) (hl : ∀ k, k < n → l k < s 0 1 ∧ hI h 81 k = nI (l k)) (h82 : ∀ u, u < 2 ^ n → hI h 82 u = nI (hrs (hof h l) n u) ∧ hI h 83 u = nI (srv (ndf h) (wtf h) (s 0 13) u)) (h84 : ∀ u, u < 2 ^ n → hL h 84 u = lN (TT (hof h l) (ndf h) (wtf h) n (s 0 13) u)) {F : Nat} (hF : 1000 ≤ F) : ∀ (m k f : Nat) (g : HS), k + m = n → m < f → FR [80] [] nD h g → (∀ j, j < k → hI g 80 j = nI (l (chB l (hof h l) (ndf h) (wtf h) n (s 0 13) (oT l (hof h l) (ndf h) (wtf h) n (s 0 13) j)))) → ∃ g', FR [80] [] nD h g' ∧ (∀ j, j < n → hI g' 80 j = nI (l (chB l (hof h l) (ndf h) (wtf h) n (s 0 13) (oT l (hof h l) (ndf h) (wtf h) n (s 0 13) j)))) ∧ p82_L4 F (nI n) f g (nI (oT l (hof h l) (ndf h) (wtf h) n (s 0 13) k)) (nI k) = some g' := by
  have w := E.w.1
  intro m
  induction m with
  | zero =>
    intro k f g hk hf fg hb
    obtain ⟨f, rfl⟩ : ∃ n', f = n' + 1 := ⟨f - 1, by omega⟩
    have e : k = n := by omega
    subst e
    rw [p82_L4, if_neg Int32.lt_irrefl]
    exact ⟨g, fg, hb, rfl⟩
  | succ m ih =>
    intro k f g hk hf fg hb
    obtain ⟨f, rfl⟩ : ∃ n', f = n' + 1 := ⟨f - 1, by omega⟩
    have E1 : EV s g := E.fr fg (by decide) evD_n
    have S1 : SCc s g := S.fr w fg (by decide) (by decide)
    have ho : ∀ l, hof g l = hof h l := fun l => by funext k; unfold hof; rw [fg.fA w 87 (by decide)]
    have nd : ndf g = ndf h := by funext a; unfold ndf; rw [fg.fA w 154 (by decide)]
    have wt : wtf g = wtf h := by funext a; unfold wtf; rw [fg.fA w 155 (by decide)]
    have O1 : ORa s g := fun a ha => by
      rw [fg.fA w 154 (by decide), fg.fA w 155 (by decide)]; exact O a ha
    obtain ⟨t1, -⟩ := oT_sp (l := l) (H := hof h l) (nd := ndf h) (wt := wtf h) (A := s 0 13) hn9 k (by omega)
    have tn := oT_nf (l := l) (H := hof h l) (nd := ndf h) (wt := wtf h) (A := s 0 13) hn9 (j := k) (by omega)
    have e1 := chC E1 S1 O1 (l := l) (n := n) (t := oT l (hof h l) (ndf h) (wtf h) n (s 0 13) k) (k := k) hn9 (fun j hj => by rw [fg.fA w 81 (by decide)]; exact hl j hj) t1 tn (by omega) (by rw [ho, nd, wt, fg.fA w 82 (by decide), fg.fA w 83 (by decide)]; exact h82) (by rw [ho, nd, wt, fg.fL w 84 (by decide)]; exact h84) (F := F) (K := p82_L4 F (nI n) f) n 0 F (by omega) (by omega)
    rw [ho, nd, wt] at e1
    rw [p82_L4, if_pos (nI_lt (by omega) (by omega)), show p82_L15 F (nI n) (p82_L4 F (nI n) f) F g (nI (oT l (hof h l) (ndf h) (wtf h) n (s 0 13) k)) (nI k) (-1) 0 = _ from e1]
    exact ih (k + 1) f _ (by omega) (by omega) (fg.sI (Or.inl (by decide))) (fun j hj => by
      by_cases z : j = k
      · subst z; exact hI_s _ _ _ _
      · rw [hI_sk z]; exact hb j (by omega))
end OR5
