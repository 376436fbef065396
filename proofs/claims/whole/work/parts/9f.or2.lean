/-! order: the least rests on both sides -/
def oLo (o : Option Nat) : Int64 := match o with
  | none => -1
  | some m => lN m
section OR2
variable {s : SS} {h : HS}
theorem b62 {n t : Nat} (hn : n ≤ 9) (ht : t ≤ 2 ^ n) : BIG * (2 ^ n - t) < 2 ^ 62 := by
  have p2 := (b9_pw n (by omega)).2.1
  have : BIG * (2 ^ n - t) ≤ BIG * 512 := Nat.mul_le_mul_left _ (by omega)
  unfold BIG at *
  omega
theorem lrC (E : EV s h) (O : ORa s h) {H : Nat → Nat} {n t : Nat} {R : Nat → Nat} (hn9 : n ≤ 9) (ht : t < 2 ^ n) (hH : ∀ i, i < n → H i ≤ 999) (h82 : ∀ u, u < 2 ^ n → hI h 82 u = nI (hrs H n u) ∧ hI h 83 u = nI (srv (ndf h) (wtf h) (s 0 13) u)) (h84 : ∀ u, t < u → u < 2 ^ n → hL h 84 u = lN (R u)) (hR : ∀ u, t < u → u < 2 ^ n → R u ≤ BIG * (2 ^ n - u)) (F : Nat) : ∀ (m k f : Nat), k + m = n → m < f → p81_L7 F (nI n) (nI t) f h (oLo (mnO H (ndf h) (wtf h) n (s 0 13) R t k)) (nI k) = some (lN (stpo H (ndf h) (wtf h) n (s 0 13) R t)) := by
  have b13 := E.cn.b13
  have p2 := (b9_pw n (by omega)).2.1
  have hwt : ∀ a, a < s 0 13 → wtf h a ≤ 99 := fun a ha => (nd_v O ha).2.2.2
  intro m
  induction m with
  | zero =>
    intro k f hk hf
    obtain ⟨f, rfl⟩ : ∃ n', f = n' + 1 := ⟨f - 1, by omega⟩
    have e : k = n := by omega
    subst e
    rw [p81_L7, if_neg Int32.lt_irrefl]
    simp only [lg_sub0]
    unfold stpo
    cases hm : mnO H (ndf h) (wtf h) k (s 0 13) R t k with
    | none => exact if_pos rfl
    | some m' =>
      have := mnO_le hn9 b13 hH hwt ht hR k (Nat.le_refl _) m' hm
      exact if_neg (lL_m1 (Nat.lt_of_le_of_lt this (b62 hn9 (by omega))))
  | succ m ih =>
    intro k f hk hf
    obtain ⟨f, rfl⟩ : ∃ n', f = n' + 1 := ⟨f - 1, by omega⟩
    have ih' := ih (k + 1) f (by omega) (by omega)
    rw [mnO] at ih'
    rw [p81_L7, if_pos (nI_lt (by omega) (by omega)), (b9_bt t (by omega) k (by omega)).2.1]
    unfold p81_j50 p81_j51
    rw [nI_1]
    cases hb : t.testBit k with
    | true =>
      rw [hb, if_pos rfl] at ih'
      rw [if_pos rfl, if_neg n10]
      exact ih'
    | false =>
      rw [hb, if_neg (by decide)] at ih'
      obtain ⟨o1, o2, o3⟩ := b9_or t (by omega) k (by omega)
      have o4 := b9_in n (by omega) t ht k (by omega)
      rw [show (if (false = true) then (1 : Int32) else 0) = 0 from rfl, if_pos rfl, cwC E O hn9 ht (by omega) hb hH h82 (h84 _ (o3 hb) o4), ob]
      simp only [lg_sub0]
      have bc : cst H (ndf h) (wtf h) n (s 0 13) (t ||| 2 ^ k) k + R (t ||| 2 ^ k) ≤ BIG * (2 ^ n - t) := by
        have b1 := (cst_le (nd := ndf h) (t := t ||| 2 ^ k) (k := k) hn9 b13 hH hwt).1
        have b2 := hR (t ||| 2 ^ k) (o3 hb) o4
        have e : 2 ^ n - (t ||| 2 ^ k) + 1 ≤ 2 ^ n - t := by have := o3 hb; omega
        have : BIG * (2 ^ n - (t ||| 2 ^ k) + 1) ≤ BIG * (2 ^ n - t) := Nat.mul_le_mul_left _ e
        rw [Nat.mul_add, Nat.mul_one] at this
        omega
      have b6' := b62 (n := n) (t := t) hn9 (by omega)
      cases hm : mnO H (ndf h) (wtf h) n (s 0 13) R t k with
      | none =>
        rw [hm] at ih'
        rw [show oLo none = -1 from rfl, if_pos rfl]
        exact ih'
      | some m' =>
        rw [hm] at ih'
        have bm := mnO_le hn9 b13 hH hwt ht hR k (by omega) m' hm
        rw [show oLo (some m') = lN m' from rfl, if_neg (lL_m1 (by omega))]
        simp only [lL_lt (a := cst H (ndf h) (wtf h) n (s 0 13) (t ||| 2 ^ k) k + R (t ||| 2 ^ k)) (b := m') (by omega) (by omega)]
        by_cases z : cst H (ndf h) (wtf h) n (s 0 13) (t ||| 2 ^ k) k + R (t ||| 2 ^ k) < m'
        · rw [if_pos z]
          rw [show oLo (some (min m' (cst H (ndf h) (wtf h) n (s 0 13) (t ||| 2 ^ k) k + R (t ||| 2 ^ k)))) = lN (cst H (ndf h) (wtf h) n (s 0 13) (t ||| 2 ^ k) k + R (t ||| 2 ^ k)) by rw [Nat.min_eq_right (by omega)]; rfl] at ih'
          exact ih'
        · rw [if_neg z]
          rw [show oLo (some (min m' (cst H (ndf h) (wtf h) n (s 0 13) (t ||| 2 ^ k) k + R (t ||| 2 ^ k)))) = lN m' by rw [Nat.min_eq_left (by omega)]; rfl] at ih'
          exact ih'
def vJ (n j : Nat) : Int32 := if j = 2 ^ n then -1 else nI (2 ^ n - 1 - j)
theorem vJ_s {n j : Nat} (hj : j < 2 ^ n) : nI (2 ^ n - 1 - j) + -1 = vJ n (j + 1) := by
  unfold vJ
  by_cases z : j + 1 = 2 ^ n
  · rw [if_pos z, show 2 ^ n - 1 - j = 0 by omega]; rfl
  · rw [if_neg z]
    obtain ⟨d, hd⟩ : ∃ d, 2 ^ n - 1 - j = d + 1 := ⟨2 ^ n - 1 - j - 1, by omega⟩
    rw [hd, ← Int32.sub_eq_add_neg, nI_pred]
    congr 1
    omega
def enC (F n : Nat) (g : HS) : Option (Int64 × HS) := Option.bind (p82 F g (nI n)) fun r13 => if (0) < (0 : Int32) ∨ 512 ≤ (0 : Int32).toNatClampNeg then none else some (hL (hsI (hsI r13 77 4 (nI n)) 77 1 0) 84 (0 : Int32).toNatClampNeg, hsI (hsI r13 77 4 (nI n)) 77 1 0)
theorem dpC (E : EV s h) (S : SCc s h) (O : ORa s h) (R : RWc h) {H : Nat → Nat} {n : Nat} (hn9 : n ≤ 9) (hH : ∀ i, i < n → H i ≤ 999) (h82 : ∀ u, u < 2 ^ n → hI h 82 u = nI (hrs H n u) ∧ hI h 83 u = nI (srv (ndf h) (wtf h) (s 0 13) u)) {F : Nat} (hF : 1000 ≤ F) {x : Int64} : ∀ (m j f : Nat) (g : HS), j + m = 2 ^ n → m < f → FR [82, 83, 84] [] nD h g → (hI g 82 = hI h 82 ∧ hI g 83 = hI h 83) → (∀ u, u < 2 ^ n → 2 ^ n ≤ u + j → hL g 84 u = lN (Rt H (ndf h) (wtf h) n (s 0 13) j u)) → ∃ g', FR [82, 83, 84] [] nD h g' ∧ (hI g' 82 = hI h 82 ∧ hI g' 83 = hI h 83) ∧ (∀ u, u < 2 ^ n → hL g' 84 u = lN (Rt H (ndf h) (wtf h) n (s 0 13) (2 ^ n) u)) ∧ p76_L43 F (nI n) x f g (vJ n j) = enC F n g' := by
  have b13 := E.cn.b13
  obtain ⟨p1, p2, p3⟩ := b9_pw n (by omega)
  have hwt : ∀ a, a < s 0 13 → wtf h a ≤ 99 := fun a ha => (nd_v O ha).2.2.2
  intro m
  induction m with
  | zero =>
    intro j f g hj hf fg hg hk
    obtain ⟨f, rfl⟩ : ∃ n', f = n' + 1 := ⟨f - 1, by omega⟩
    have e : j = 2 ^ n := by omega
    have ev : vJ n j = -1 := if_pos e
    rw [p76_L43, ev, if_pos (show (-1 : Int32) < 0 by decide)]
    exact ⟨g, fg, hg, fun u hu => by rw [hk u hu (by omega), e], rfl⟩
  | succ m ih =>
    intro j f g hj hf fg hg hk
    obtain ⟨f, rfl⟩ : ∃ n', f = n' + 1 := ⟨f - 1, by omega⟩
    obtain ⟨E1, S1, O1, R1, ho, nd, wt, k81⟩ := or_fr E S O R fg
    have ev : vJ n j = nI (2 ^ n - 1 - j) := if_neg (by omega)
    have tl : 2 ^ n - 1 - j < 2 ^ n := by omega
    have hRb : ∀ u, 2 ^ n - 1 - j < u → u < 2 ^ n → Rt H (ndf h) (wtf h) n (s 0 13) j u ≤ BIG * (2 ^ n - u) := fun u h1 h2 => Rt_le hn9 b13 hH hwt j (by omega) u h1 h2
    have e1 := lrC E1 O1 (H := H) (n := n) (t := 2 ^ n - 1 - j) (R := Rt H (ndf h) (wtf h) n (s 0 13) j) hn9 tl hH (by rw [nd, wt, hg.1, hg.2]; exact h82) (fun u h1 h2 => hk u h2 (by omega)) hRb F n 0 F (by omega) (by omega)
    have e1 : p81 F g (nI n) (nI (2 ^ n - 1 - j)) = some (lN (stpo H (ndf h) (wtf h) n (s 0 13) (Rt H (ndf h) (wtf h) n (s 0 13) j) (2 ^ n - 1 - j))) := by rw [nd, wt] at e1; exact e1
    rw [p76_L43, ev, if_neg (nI_pos (by omega)), e1, ob, if_neg (nI_in (by omega) (by decide)), nI_clamp (by omega), vJ_s (by omega)]
    refine ih (j + 1) f _ (by omega) (by omega) (fg.sL (Or.inl (by decide))) ⟨hg.1, hg.2⟩ (fun u hu hu2 => ?_)
    rw [hL_s, Rt]
    by_cases z : u = 2 ^ n - 1 - j
    · subst z
      rw [u1_eq, u1_eq]
    · rw [u1_ne z, u1_ne z]
      exact hk u hu (by omega)
/-- the model's costs -/
theorem csM (E : EM s h) (S : SCc s h) (O : ORa s h) {l : Nat → Nat} {n t k : Nat} (hn9 : n ≤ 9) (hl : ∀ k, k < n → l k < s 0 1 ∧ hI h 156 k = nI (l k)) (ht : t < 2 ^ n) (hk : k < 9) {F : Nat} (hF : 1000 ≤ F) : p302 F h (nI t) (nI k) = some (lN (cst (hof h l) (ndf h) (wtf h) n (s 0 13) t k)) := by
  have b1 := E.b1
  have b13 := E.b13
  have p2 := (b9_pw n (by omega)).2.1
  have one : ∀ b : Bool, ((if b then (1 : Int32) else 0) = 1) = (b = true) := fun b => by cases b <;> exact propext ⟨fun z => by first | rfl | exact absurd z (by decide), fun z => by first | rfl | cases z⟩
  have k2 : ∀ (m i f : Nat), i + m = s 0 13 → m < f → p302_L54 F (nI t) (nI k) f h (lN (hrs (hof h l) n t)) (lN (sumN (fun a => if subB (ndf h a) t && (ndf h a).testBit k then wtf h a * hrs (hof h l) n t else 0) i)) (nI i) = some (lN (cst (hof h l) (ndf h) (wtf h) n (s 0 13) t k)) := by
    intro m
    induction m with
    | zero =>
      intro i f hi hf
      obtain ⟨f, rfl⟩ : ∃ n', f = n' + 1 := ⟨f - 1, by omega⟩
      have e : i = s 0 13 := by omega
      subst e
      rw [p302_L54, E.m13, if_neg Int32.lt_irrefl]
      rfl
    | succ m ih =>
      intro i f hi hf
      obtain ⟨f, rfl⟩ : ∃ n', f = n' + 1 := ⟨f - 1, by omega⟩
      obtain ⟨e1, x1, e2, x2⟩ := nd_v O (a := i) (by omega)
      have ih' := ih (i + 1) f (by omega) (by omega)
      rw [sumN] at ih'
      have gi : ¬ (nI i < 0 ∨ 12 ≤ i) := nI_in' (by omega) (by decide)
      rw [p302_L54, E.m13, if_pos (nI_lt (by omega) (by omega)), nI_clamp (n := i) (by omega), if_neg gi, e1, e2, if_neg gi, if_neg gi, (b9_bt (ndf h i) (by omega) k hk).2.2]
      unfold p302_j107 p302_j108
      rw [nI_1]
      simp only [one]
      by_cases z : (nI (ndf h i) &&& (nI t ^^^ (-1 : Int32))) = 0
      · rw [if_pos z]
        rw [show subB (ndf h i) t = true from decide_eq_true z, Bool.true_and] at ih'
        cases hb : (ndf h i).testBit k with
        | true =>
          rw [hb, if_pos rfl] at ih'
          rw [if_pos rfl, nI_l (by omega), lN_mul, lN_add]
          exact ih'
        | false =>
          rw [hb, if_neg (by decide)] at ih'
          rw [if_neg (by decide), show (0 : Int64) = lN 0 from rfl, lN_add]
          exact ih'
      · rw [if_neg z]
        rw [show subB (ndf h i) t = false from decide_eq_false z, Bool.false_and, if_neg (by decide)] at ih'
        rw [show (0 : Int64) = lN 0 from rfl, lN_add]
        exact ih'
  have k1 : ∀ (m i f : Nat), i + m = 9 → m < f → p302_L5 F (nI t) (nI k) f h (lN (sumN (fun i => if t.testBit i then hof h l i else 0) i)) (nI i) = p302_L54 F (nI t) (nI k) F h (lN (sumN (fun i => if t.testBit i then hof h l i else 0) 9)) 0 0 := by
    intro m
    induction m with
    | zero =>
      intro i f hi hf
      obtain ⟨f, rfl⟩ : ∃ n', f = n' + 1 := ⟨f - 1, by omega⟩
      have e : i = 9 := by omega
      subst e
      rw [p302_L5, if_neg (by decide)]
    | succ m ih =>
      intro i f hi hf
      obtain ⟨f, rfl⟩ : ∃ n', f = n' + 1 := ⟨f - 1, by omega⟩
      have ih' := ih (i + 1) f (by omega) (by omega)
      rw [sumN] at ih'
      rw [p302_L5, if_pos (show nI i < (9 : Int32) from nI_lt (b := 9) (by omega) (by decide)), (b9_bt t (by omega) i (by omega)).2.2]
      unfold p302_j40
      rw [nI_1]
      simp only [one]
      cases hb : t.testBit i with
      | true =>
        have hin : i < n := by
          rcases Nat.lt_or_ge i n with z | z
          · exact z
          · have := b9_hi n (by omega) t ht i (by omega) z
            rw [hb] at this
            cases this
        obtain ⟨l1, l2⟩ := hl i hin
        obtain ⟨e1, x1⟩ := ho_v S l1
        rw [hb, if_pos rfl] at ih'
        rw [if_pos rfl, if_neg (nI_in (by omega) (by decide)), nI_clamp (n := i) (by omega), l2, if_neg (nI_in (c := l i) (by omega) (by decide)), nI_clamp (n := l i) (by omega), e1, nI_l (by omega), lN_add]
        exact ih'
      | false =>
        rw [hb, if_neg (by decide)] at ih'
        rw [if_neg (by decide), show (0 : Int64) = lN 0 from rfl, lN_add]
        exact ih'
  have e9 : sumN (fun i => if t.testBit i then hof h l i else 0) 9 = hrs (hof h l) n t := by
    have : ∀ d, n + d ≤ 9 → sumN (fun i => if t.testBit i then hof h l i else 0) (n + d) = hrs (hof h l) n t := by
      intro d
      induction d with
      | zero => intro _; rfl
      | succ d ih =>
        intro hd
        have z := b9_hi n (by omega) t ht (n + d) (by omega) (by omega)
        rw [← Nat.add_assoc, sumN, ih (by omega), z, if_neg (by decide), Nat.add_zero]
    have := this (9 - n) (by omega)
    rw [show n + (9 - n) = 9 by omega] at this
    exact this
  have a1 := k1 9 0 F (by omega) (by omega)
  have a2 := k2 (s 0 13) 0 F (by omega) (by omega)
  unfold p302
  rw [show p302_L5 F (nI t) (nI k) F h 0 0 = _ from a1, e9]
  exact a2
end OR2
