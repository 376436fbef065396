/-! laying, the model: the next row -/
def rowIs (h : HS) (a : Nat) (m : Nat → Nat) (q : List Nat) : Prop := ∀ k, k < q.length → hI h a k = nI (rw0 m q k)
theorem gdA (p t : List Nat) (k : Nat) : (p ++ t).getD k 0 = if k < p.length then p.getD k 0 else t.getD (k - p.length) 0 := by
  rw [List.getD_eq_getElem?_getD, List.getD_eq_getElem?_getD, List.getD_eq_getElem?_getD, List.getElem?_append]
  split <;> rfl
theorem gdC (x : Nat) (t : List Nat) (k : Nat) : (x :: t).getD k 0 = if k = 0 then x else t.getD (k - 1) 0 := by
  cases k with
  | zero => rfl
  | succ k => rw [if_neg (Nat.succ_ne_zero k)]; rfl
theorem gdR {t : List Nat} {k : Nat} (hk : k < t.length) : t.reverse.getD k 0 = t.getD (t.length - 1 - k) 0 := by
  rw [List.getD_eq_getElem?_getD, List.getD_eq_getElem?_getD, List.getElem?_reverse hk]
def swp (h : HS) (i j : Nat) : HS := hsI (hsI h 92 i (hI h 92 j)) 92 j (hI h 92 i)
theorem p199E {h : HS} {i j : Nat} (hi : i < 8) (hj : j < 8) : p199 h (nI i) (nI j) = some (swp h i j) := by
  unfold p199
  rw [nI_clamp (by omega), nI_clamp (by omega), if_neg (nI_in' hi (by decide)), if_neg (nI_in' hj (by decide)), if_neg (nI_in' hi (by decide)), if_neg (nI_in' hj (by decide)), ob]
  rfl
theorem swp_r (h : HS) (i j k : Nat) : hI (swp h i j) 92 k = if k = j then hI h 92 i else if k = i then hI h 92 j else hI h 92 k := by
  show u2 (hI (hsI h 92 i (hI h 92 j))) 92 j (hI h 92 i) 92 k = _
  by_cases z : k = j
  · rw [if_pos z]; exact if_pos ⟨rfl, z⟩
  · rw [if_neg z]
    refine (if_neg (fun y => z y.2)).trans ?_
    by_cases z2 : k = i
    · rw [if_pos z2]; exact if_pos ⟨rfl, z2⟩
    · rw [if_neg z2]; exact if_neg (fun y => z2 y.2)
theorem swp_f {h : HS} {i j : Nat} : FR [92] [] nD h (swp h i j) := ((FR.rf nD160).sI (Or.inl (by decide))).sI (Or.inl (by decide))
theorem rvL {F : Nat} {a0 : Int32} : ∀ (m a b : Nat) (h : HS), a ≤ b + 1 → b < 8 → b - a < m → ∃ h', p198_L78 F a0 m h (nI a) (nI b) = some (1, h') ∧ FR [92] [] nD h h' ∧ ∀ k, hI h' 92 k = if a ≤ k ∧ k ≤ b then hI h 92 (a + b - k) else hI h 92 k := by
  intro m
  induction m with
  | zero => intro a b h _ _ z; omega
  | succ m ih =>
    intro a b h hab hb hm
    rw [p198_L78]
    by_cases hlt : a < b
    · obtain ⟨c, rfl⟩ : ∃ c, b = c + 1 := ⟨b - 1, by omega⟩
      rw [if_pos (nI_lt hlt (by omega)), p199E (by omega) hb, ob, nI_1, pk_m1]
      obtain ⟨h', e, f, r⟩ := ih (a + 1) c (swp h a (c + 1)) (by omega) (by omega) (by omega)
      refine ⟨h', e, swp_f.tr f, fun k => ?_⟩
      rw [r k, swp_r, swp_r]
      by_cases z1 : k = a
      · rw [if_neg (by omega), if_neg (by omega), if_pos z1, if_pos (by omega)]
        congr 1; omega
      · by_cases z2 : k = c + 1
        · rw [if_neg (by omega), if_pos z2, if_pos (by omega)]
          congr 1; omega
        · by_cases z3 : a + 1 ≤ k ∧ k ≤ c
          · rw [if_pos z3, if_neg (by omega), if_neg (by omega), if_pos (by omega)]
            congr 1; omega
          · rw [if_neg z3, if_neg z2, if_neg z1, if_neg (by omega)]
    · rw [if_neg (nI_nlt (by omega) (by omega))]
      refine ⟨h, rfl, FR.rf nD160, fun k => ?_⟩
      by_cases z : a ≤ k ∧ k ≤ b
      · rw [if_pos z]; congr 1; omega
      · rw [if_neg z]
theorem q1_q (pre A C : List Nat) (x y k : Nat) : (pre ++ y :: (A ++ x :: C)).getD k 0 = if k = pre.length then y else if k = pre.length + 1 + A.length then x else (pre ++ x :: (A ++ y :: C)).getD k 0 := by
  simp only [gdA, gdC]
  repeat' split
  all_goals first | rfl | (exfalso; omega)
section LA2
variable {h : HS} {m : Nat → Nat} {n F : Nat}
/-- the model's search for the place where the row goes on -/
theorem goI {i : Nat} (hn : n ≤ 8) (hi : i + 1 < n) (hd : ∀ k, i < k → k + 1 < n → hI h 92 (k + 1) < hI h 92 k) (hs : ¬ hI h 92 (i + 1) < hI h 92 i) : ∀ (f j : Nat), i ≤ j → j + 1 < n → j - i < f → p198_L4 F (nI n) f h (nI j) = p198_L41 F (nI n) F h (nI i) (nI n - 1) := by
  intro f
  induction f with
  | zero => intro j _ _ z; omega
  | succ f ih =>
    intro j hij hj hf
    rw [p198_L4, if_neg (nI_pos (by omega)), nI_1, if_neg (nI_in (by omega) (by decide)), if_neg (nI_in (by omega) (by decide)), nI_clamp (by omega), nI_clamp (by omega)]
    by_cases z : j = i
    · subst z
      rw [if_neg hs]
      unfold p198_j31
      rw [if_neg (nI_pos (by omega))]
    · obtain ⟨c, rfl⟩ : ∃ c, j = c + 1 := ⟨j - 1, by omega⟩
      rw [if_pos (hd (c + 1) (by omega) hj), pk_m1]
      exact ih c (by omega) (by omega) (by omega)
theorem goN (hn : n ≤ 8) (hd : ∀ k, k + 1 < n → hI h 92 (k + 1) < hI h 92 k) : ∀ (f j : Nat), j < n → j < f → p198_L4 F (nI n) f h (nI j - 1) = some (0, h) := by
  intro f
  induction f with
  | zero => intro j _ z; omega
  | succ f ih =>
    intro j hj hf
    rw [p198_L4]
    cases j with
    | zero =>
      rw [if_pos (show nI 0 - 1 < 0 by decide)]
      unfold p198_j31
      rw [if_pos (show nI 0 - 1 < 0 by decide)]
    | succ c =>
      rw [nI_pred, if_neg (nI_pos (by omega)), nI_1, if_neg (nI_in (by omega) (by decide)), if_neg (nI_in (by omega) (by decide)), nI_clamp (by omega), nI_clamp (by omega), if_pos (hd c hj)]
      have e : nI c + (-1) = nI c - 1 := by rw [Int32.sub_eq_add_neg]
      rw [e]
      exact ih c (by omega) (by omega)
theorem goJ {i j0 : Nat} (hn : n ≤ 8) (hi : i < n) (hj0 : j0 < n) (hd : ∀ k, j0 < k → k < n → hI h 92 k < hI h 92 i) (hs : ¬ hI h 92 j0 < hI h 92 i) : ∀ (f j : Nat), j0 ≤ j → j < n → j - j0 < f → p198_L41 F (nI n) f h (nI i) (nI j) = p198_L78 F (nI n) F (swp h i j0) (nI (i + 1)) (nI n - 1) := by
  intro f
  induction f with
  | zero => intro j _ _ z; omega
  | succ f ih =>
    intro j hij hj hf
    rw [p198_L41, if_neg (nI_in (by omega) (by decide)), if_neg (nI_in (by omega) (by decide)), nI_clamp (by omega), nI_clamp (by omega)]
    by_cases z : j = j0
    · subst z
      rw [if_neg hs, p199E (by omega) (by omega), ob, nI_1]
    · obtain ⟨c, rfl⟩ : ∃ c, j = c + 1 := ⟨j - 1, by omega⟩
      rw [if_pos (hd (c + 1) (by omega) hj), pk_m1]
      exact ih c (by omega) (by omega) (by omega)
theorem go_cmp (mo : ∀ a b, a < b → b < n → m a < m b) (mb : ∀ a, a < n → m a < 200) {a b : Nat} (ha : a < n) (hb : b < n) : nI (m a) < nI (m b) ↔ a < b := by
  rw [nI_ltI (by have := mb a ha; omega) (by have := mb b hb; omega)]
  constructor
  · intro z
    rcases Nat.lt_or_ge a b with y | y
    · exact y
    · rcases Nat.lt_or_eq_of_le y with y | y
      · have := mo b a y ha; omega
      · subst y; omega
  · exact fun z => mo a b z hb
theorem pw_d {D : List Nat} (hd : D.Pairwise (fun a b => b < a)) {t : Nat} (ht : t + 1 < D.length) : D.getD (t + 1) 0 < D.getD t 0 := by
  rw [gd_l ht, gd_l (show t < D.length by omega)]
  exact List.pairwise_iff_getElem.mp hd t (t + 1) (by omega) ht (by omega)
/-- the next row -/
theorem gon (mo : ∀ a b, a < b → b < n → m a < m b) (mb : ∀ a, a < n → m a < 200) (hn : n ≤ 8) (hF : 10 ≤ F) {pre A C : List Nat} {x y : Nat} (hl : (pre ++ x :: (A ++ y :: C)).length = n) (hb : ∀ k, k < n → (pre ++ x :: (A ++ y :: C)).getD k 0 < n) (hr : rowIs h 92 m (pre ++ x :: (A ++ y :: C))) (hd : (A ++ y :: C).Pairwise (fun a b => b < a)) (hxy : x < y) (hC : ∀ z, z ∈ C → z < x) : ∃ h', p198 F h (nI n) = some (1, h') ∧ FR [92] [] nD h h' ∧ rowIs h' 92 m (pre ++ y :: (A ++ x :: C).reverse) := by
  have ln : pre.length + (A.length + C.length + 1) + 1 = n := by
    rw [← hl]
    simp
    omega
  have ev : ∀ k, k < n → hI h 92 k = nI (m ((pre ++ x :: (A ++ y :: C)).getD k 0)) := fun k hk => hr k (by omega)
  have cm : ∀ a b, a < n → b < n → (hI h 92 a < hI h 92 b ↔ (pre ++ x :: (A ++ y :: C)).getD a 0 < (pre ++ x :: (A ++ y :: C)).getD b 0) := fun a b ha hb' => by
    rw [ev a ha, ev b hb']
    exact go_cmp mo mb (hb a ha) (hb b hb')
  have gx : (pre ++ x :: (A ++ y :: C)).getD pre.length 0 = x := by rw [gdA, if_neg (Nat.lt_irrefl _), Nat.sub_self]; rfl
  have gt : ∀ t, (pre ++ x :: (A ++ y :: C)).getD (pre.length + 1 + t) 0 = (A ++ y :: C).getD t 0 := fun t => by
    rw [gdA, if_neg (by omega), gdC, if_neg (by omega)]
    congr 1
    omega
  have gy : (A ++ y :: C).getD A.length 0 = y := by rw [gdA, if_neg (Nat.lt_irrefl _), Nat.sub_self]; rfl
  have lD : (A ++ y :: C).length = A.length + C.length + 1 := by simp; omega
  have d0 : ¬ (A ++ y :: C).getD 0 0 < x := by
    have : y ≤ (A ++ y :: C).getD 0 0 := by
      cases A with
      | nil => exact Nat.le_refl _
      | cons a A =>
        have := List.pairwise_iff_getElem.mp hd 0 (A.length + 1) (by simp) (by simp) (by omega)
        rw [← gd_l, ← gd_l] at this
        have g2 : (a :: A ++ y :: C).getD (A.length + 1) 0 = y := gy
        omega
    omega
  have e1 : p198_L4 F (nI n) F h (nI (n - 2)) = p198_L41 F (nI n) F h (nI pre.length) (nI n - 1) := goI hn (by omega) (fun k h1 h2 => by
    rw [cm _ _ h2 (by omega)]
    obtain ⟨t, rfl⟩ : ∃ t, k = pre.length + 1 + t := ⟨k - (pre.length + 1), by omega⟩
    rw [Nat.add_assoc (pre.length + 1), gt, gt]
    exact pw_d hd (by omega)) (by
    rw [cm _ _ (by omega) (by omega), gx]
    have := gt 0
    rw [Nat.add_zero] at this
    rw [this]
    exact d0) F (n - 2) (by omega) (by omega) (by omega)
  have e2 : p198_L41 F (nI n) F h (nI pre.length) (nI (n - 1)) = p198_L78 F (nI n) F (swp h pre.length (pre.length + 1 + A.length)) (nI (pre.length + 1)) (nI n - 1) := goJ hn (by omega) (by omega) (fun k h1 h2 => by
    rw [cm _ _ h2 (by omega), gx]
    obtain ⟨t, rfl⟩ : ∃ t, k = pre.length + 1 + (A.length + 1 + t) := ⟨k - (pre.length + 1 + (A.length + 1)), by omega⟩
    rw [gt, gdA, if_neg (by omega), gdC, if_neg (by omega), show A.length + 1 + t - A.length - 1 = t by omega]
    have ht : t < C.length := by omega
    rw [gd_l ht]
    exact hC _ (List.getElem_mem _)) (by
    rw [cm _ _ (by omega) (by omega), gx, gt, gy]
    omega) F (n - 1) (by omega) (by omega) (by omega)
  have n2 : nI n - 2 = nI (n - 2) := pk_sub (a := n) (b := 2) (by omega)
  have n1 : nI n - 1 = nI (n - 1) := pk_sub (a := n) (b := 1) (by omega)
  obtain ⟨h', e3, f3, r3⟩ := rvL (F := F) (a0 := nI n) F (pre.length + 1) (n - 1) (swp h pre.length (pre.length + 1 + A.length)) (by omega) (by omega) (by omega)
  refine ⟨h', ?_, swp_f.tr f3, fun k hk => ?_⟩
  · unfold p198
    rw [n2, e1, n1, e2, n1, e3]
  · have hk : k < n := by simp at hk; omega
    have s1 : ∀ j, j < n → hI (swp h pre.length (pre.length + 1 + A.length)) 92 j = nI (m ((pre ++ y :: (A ++ x :: C)).getD j 0)) := fun j hj => by
      rw [swp_r, q1_q]
      by_cases z1 : j = pre.length + 1 + A.length
      · rw [if_pos z1, if_neg (by omega), if_pos z1, ev _ (by omega), gx]
      · rw [if_neg z1]
        by_cases z2 : j = pre.length
        · rw [if_pos z2, if_pos z2, ev _ (by omega), gt, gy]
        · rw [if_neg z2, if_neg z2, if_neg z1, ev j hj]
    unfold rw0
    rw [r3 k]
    have lR : (A ++ x :: C).length = A.length + C.length + 1 := by simp; omega
    by_cases z : pre.length + 1 ≤ k ∧ k ≤ n - 1
    · rw [if_pos z, s1 _ (by omega)]
      congr 2
      rw [gdA pre _ k, if_neg (by omega), gdC, if_neg (by omega), gdR (by omega), gdA pre, if_neg (by omega), gdC, if_neg (by omega)]
      congr 1
      omega
    · rw [if_neg z, s1 k hk]
      congr 2
      rw [gdA pre _ k, gdA pre _ k]
      by_cases z3 : k < pre.length
      · rw [if_pos z3, if_pos z3]
      · rw [if_neg z3, if_neg z3, gdC, gdC, if_pos (by omega), if_pos (by omega)]
/-- the last row: none is next -/
theorem gonN (mo : ∀ a b, a < b → b < n → m a < m b) (mb : ∀ a, a < n → m a < 200) (hn0 : 0 < n) (hn : n ≤ 8) (hF : 10 ≤ F) {q : List Nat} (hl : q.length = n) (hb : ∀ k, k < n → q.getD k 0 < n) (hr : rowIs h 92 m q) (hd : q.Pairwise (fun a b => b < a)) : p198 F h (nI n) = some (0, h) := by
  have n2 : nI n - 2 = nI (n - 1) - 1 := by
    obtain ⟨c, rfl⟩ : ∃ c, n = c + 1 := ⟨n - 1, by omega⟩
    rw [show (2 : Int32) = 1 + 1 from rfl, ← Int32.sub_sub, nI_pred, Nat.add_sub_cancel]
  unfold p198
  rw [n2]
  exact goN hn (fun k hk => by
    rw [hr _ (by omega), hr _ (by omega)]
    exact (go_cmp mo mb (hb _ hk) (hb _ (by omega))).mpr (pw_d hd (by omega))) F (n - 1) (by omega) (by omega)
end LA2
