/-! order: the model's table -/
def mLo (o : Option Nat) : Int64 := match o with
  | none => 9223372036854775807
  | some m => lN m
section OR3
variable {s : SS} {h : HS}
theorem mL_lt {a : Nat} (ha : a < 2 ^ 62) : lN a < 9223372036854775807 := by
  rw [Int64.lt_iff_toInt_lt, lL_toInt ha, show (9223372036854775807 : Int64).toInt = 9223372036854775807 by decide]
  omega
theorem lg_lt (a b : Int64) : (lg_cmp a b < 0) = (a < b) := by
  unfold lg_cmp
  apply propext
  by_cases h1 : a > b
  · rw [if_pos h1]
    exact ⟨fun z => absurd z (by decide), fun z => absurd (Int64.lt_trans h1 z) (Int64.lt_irrefl)⟩
  · rw [if_neg h1]
    by_cases h2 : a = b
    · rw [if_pos h2]
      exact ⟨fun z => absurd z (by decide), fun z => by rw [h2] at z; exact absurd z Int64.lt_irrefl⟩
    · rw [if_neg h2]
      exact ⟨fun _ => by
        rcases Int64.lt_or_lt_of_ne h2 with z | z
        · exact z
        · exact absurd z h1, fun _ => by decide⟩
theorem or_frM {g : HS} (E : EM s h) (S : SCc s h) (O : ORa s h) (f : FR [157, 159] [] nD h g) : EM s g ∧ SCc s g ∧ ORa s g ∧ (∀ l, hof g l = hof h l) ∧ ndf g = ndf h ∧ wtf g = wtf h ∧ hI g 156 = hI h 156 := by
  have w := E.w
  have k1 := f.fA w 87 (by decide)
  have k2 := f.fA w 154 (by decide)
  have k3 := f.fA w 155 (by decide)
  exact ⟨E.fr f (by decide), S.fr w f (by decide) (by decide), fun a ha => by rw [k2, k3]; exact O a ha, fun l => by funext k; unfold hof; rw [k1], by funext a; unfold ndf; rw [k2], by funext a; unfold wtf; rw [k3], f.fA w 156 (by decide)⟩
theorem lrM (E : EM s h) (S : SCc s h) (O : ORa s h) {l : Nat → Nat} {n t : Nat} {R : Nat → Nat} (hn9 : n ≤ 9) (hl : ∀ k, k < n → l k < s 0 1 ∧ hI h 156 k = nI (l k)) (ht : t < 2 ^ n) (hne : t < 2 ^ n - 1) (hR : ∀ u, t < u → u < 2 ^ n → R u ≤ BIG * (2 ^ n - u)) {F : Nat} (hF : 1000 ≤ F) {x : Int64} {K : HS → Int32 → Option (Int64 × HS)} : ∀ (m k f : Nat) (g : HS), k + m = n → m < f → FR [157, 159] [] nD h g → hI g 157 = hI h 157 → (∀ u, t < u → u < 2 ^ n → hL g 159 u = lN (R u)) → hL g 159 t = mLo (mnO (hof h l) (ndf h) (wtf h) n (s 0 13) R t k) → ∃ g', FR [157, 159] [] nD h g' ∧ hI g' 157 = hI h 157 ∧ (∀ u, t < u → u < 2 ^ n → hL g' 159 u = lN (R u)) ∧ hL g' 159 t = lN (stpo (hof h l) (ndf h) (wtf h) n (s 0 13) R t) ∧ p303_L254 F (nI n) x K f g (nI t) (nI k) = K g' (nI t + -1) := by
  have b13 := E.b13
  have p2 := (b9_pw n (by omega)).2.1
  have hwt : ∀ a, a < s 0 13 → wtf h a ≤ 99 := fun a ha => (nd_v O ha).2.2.2
  have hH : ∀ i, i < n → hof h l i ≤ 999 := fun i hi => (ho_v S (hl i hi).1).2
  intro m
  induction m with
  | zero =>
    intro k f g hk hf fg h157 hu hm
    obtain ⟨f, rfl⟩ : ∃ n', f = n' + 1 := ⟨f - 1, by omega⟩
    have e : k = n := by omega
    subst e
    rw [p303_L254, if_neg Int32.lt_irrefl]
    refine ⟨g, fg, h157, hu, ?_, rfl⟩
    rw [hm]
    unfold stpo
    cases hq : mnO (hof h l) (ndf h) (wtf h) k (s 0 13) R t k with
    | some m' => rfl
    | none =>
      exfalso
      -- no sack is missing: the set is full
      have all : ∀ j, j ≤ k → mnO (hof h l) (ndf h) (wtf h) k (s 0 13) R t j = none → ∀ i, i < j → t.testBit i = true := by
        intro j
        induction j with
        | zero => intro _ _ i hi; omega
        | succ j ih =>
          intro hj hn i hi
          rw [mnO] at hn
          cases hb : t.testBit j with
          | false => rw [hb, if_neg (by decide)] at hn; cases hn
          | true =>
            rw [hb, if_pos rfl] at hn
            by_cases z : i = j
            · subst z; exact hb
            · exact ih (by omega) hn i (by omega)
      have := b9_full k (by omega) t ht (all k (Nat.le_refl _) hq)
      omega
  | succ m ih =>
    intro k f g hk hf fg h157 hu hm
    obtain ⟨f, rfl⟩ : ∃ n', f = n' + 1 := ⟨f - 1, by omega⟩
    have ih' := fun g2 => ih (k + 1) f g2 (by omega) (by omega)
    rw [mnO] at ih'
    have gt : ¬ (nI t < 0 ∨ 512 ≤ t) := nI_in' (by omega) (by decide)
    have ct : (nI t).toNatClampNeg = t := nI_clamp (by omega)
    rw [p303_L254, if_pos (nI_lt (by omega) (by omega)), (b9_bt t (by omega) k (by omega)).2.2]
    unfold p303_j329 p303_j330
    rw [nI_1]
    cases hb : t.testBit k with
    | true =>
      rw [hb, if_pos rfl] at ih'
      rw [show (if (true = true) then (1 : Int32) else 0) = 1 from rfl, if_neg n10]
      exact ih' g fg h157 hu hm
    | false =>
      rw [hb, if_neg (by decide)] at ih'
      obtain ⟨o1, o2, o3⟩ := b9_or t (by omega) k (by omega)
      have o4 := b9_in n (by omega) t ht k (by omega)
      obtain ⟨E1, S1, O1, ho, nd, wt, k156⟩ := or_frM E S O fg
      have ec := csM E1 S1 O1 (l := l) (n := n) (t := t ||| 2 ^ k) (k := k) hn9 (fun j hj => by rw [k156]; exact hl j hj) o4 (by omega) hF
      rw [ho, nd, wt] at ec
      rw [show (if (false = true) then (1 : Int32) else 0) = 0 from rfl, if_pos rfl, o1, ec, ob, nI_clamp (n := t ||| 2 ^ k) (by omega), if_neg (nI_in' o2 (by decide)), ct, if_neg gt, if_neg gt, hu _ (o3 hb) o4, lN_add, hm, if_neg gt]
      simp only [lg_lt]
      have bc : cst (hof h l) (ndf h) (wtf h) n (s 0 13) (t ||| 2 ^ k) k + R (t ||| 2 ^ k) ≤ BIG * (2 ^ n - t) := by
        have b1 := (cst_le (nd := ndf h) (t := t ||| 2 ^ k) (k := k) hn9 b13 hH hwt).1
        have b2 := hR (t ||| 2 ^ k) (o3 hb) o4
        have e : 2 ^ n - (t ||| 2 ^ k) + 1 ≤ 2 ^ n - t := by have := o3 hb; omega
        have : BIG * (2 ^ n - (t ||| 2 ^ k) + 1) ≤ BIG * (2 ^ n - t) := Nat.mul_le_mul_left _ e
        rw [Nat.mul_add, Nat.mul_one] at this
        omega
      have b6' := b62 (n := n) (t := t) hn9 (by omega)
      have fin : ∀ v : Int64, v = mLo (some (match mnO (hof h l) (ndf h) (wtf h) n (s 0 13) R t k with | none => cst (hof h l) (ndf h) (wtf h) n (s 0 13) (t ||| 2 ^ k) k + R (t ||| 2 ^ k) | some m => min m (cst (hof h l) (ndf h) (wtf h) n (s 0 13) (t ||| 2 ^ k) k + R (t ||| 2 ^ k)))) → ∃ g', FR [157, 159] [] nD h g' ∧ hI g' 157 = hI h 157 ∧ (∀ u, t < u → u < 2 ^ n → hL g' 159 u = lN (R u)) ∧ hL g' 159 t = lN (stpo (hof h l) (ndf h) (wtf h) n (s 0 13) R t) ∧ p303_L254 F (nI n) x K f (hsL g 159 t v) (nI t) (nI (k + 1)) = K g' (nI t + -1) := fun v hv => by
        refine ih' _ (fg.sL (Or.inl (by decide))) h157 (fun u h1 h2 => ?_) ?_
        · rw [hL_s, u1_ne (by omega)]
          exact hu u h1 h2
        · rw [hL_s, u1_eq, hv]
          cases mnO (hof h l) (ndf h) (wtf h) n (s 0 13) R t k <;> rfl
      cases hq : mnO (hof h l) (ndf h) (wtf h) n (s 0 13) R t k with
      | none =>
        rw [hq] at fin
        rw [show mLo none = 9223372036854775807 from rfl, if_pos (mL_lt (by omega))]
        exact fin _ rfl
      | some m' =>
        rw [hq] at fin
        have bm := mnO_le hn9 b13 hH hwt ht hR k (by omega) m' hq
        rw [show mLo (some m') = lN m' from rfl]
        by_cases z : cst (hof h l) (ndf h) (wtf h) n (s 0 13) (t ||| 2 ^ k) k + R (t ||| 2 ^ k) < m'
        · rw [if_pos (by rw [lL_lt (by omega) (by omega)]; exact z)]
          exact fin _ (by show _ = lN (min _ _); rw [Nat.min_eq_right (by omega)])
        · rw [if_neg (by rw [lL_lt (by omega) (by omega)]; exact z), if_neg gt]
          exact fin _ (by show _ = lN (min _ _); rw [Nat.min_eq_left (by omega)])
theorem Rt_full {H nd wt : Nat → Nat} {n A : Nat} (hn : n ≤ 9) : Rt H nd wt n A 1 (2 ^ n - 1) = 0 := by
  rw [Rt, Nat.sub_zero, u1_eq]
  unfold stpo
  have full : ∀ n, n < 10 → ∀ i, i < n → (2 ^ n - 1).testBit i = true := by decide +kernel
  have : ∀ j, j ≤ n → mnO H nd wt n A (Rt H nd wt n A 0) (2 ^ n - 1) j = none := by
    intro j
    induction j with
    | zero => intro _; rfl
    | succ j ih => intro hj; rw [mnO, full n (by omega) j (by omega), if_pos rfl]; exact ih (by omega)
  rw [this n (Nat.le_refl _)]
  rfl
theorem dpM (E : EM s h) (S : SCc s h) (O : ORa s h) {l : Nat → Nat} {n : Nat} (hn9 : n ≤ 9) (hl : ∀ k, k < n → l k < s 0 1 ∧ hI h 156 k = nI (l k)) {F : Nat} (hF : 1000 ≤ F) {x : Int64} : ∀ (m j f : Nat) (g : HS), j + m = 2 ^ n → 1 ≤ j → m < f → FR [157, 159] [] nD h g → hI g 157 = hI h 157 → (∀ u, u < 2 ^ n → 2 ^ n ≤ u + j → hL g 159 u = lN (Rt (hof h l) (ndf h) (wtf h) n (s 0 13) j u)) → ∃ g', FR [157, 159] [] nD h g' ∧ hI g' 157 = hI h 157 ∧ (∀ u, u < 2 ^ n → hL g' 159 u = lN (Rt (hof h l) (ndf h) (wtf h) n (s 0 13) (2 ^ n) u)) ∧ p303_L236 F (nI n) x f g (vJ n j) = p303_L348 F (nI n) x F g' 0 0 := by
  have b13 := E.b13
  obtain ⟨p1, p2, p3⟩ := b9_pw n (by omega)
  have hwt : ∀ a, a < s 0 13 → wtf h a ≤ 99 := fun a ha => (nd_v O ha).2.2.2
  have hH : ∀ i, i < n → hof h l i ≤ 999 := fun i hi => (ho_v S (hl i hi).1).2
  intro m
  induction m with
  | zero =>
    intro j f g hj j1 hf fg h157 hk
    obtain ⟨f, rfl⟩ : ∃ n', f = n' + 1 := ⟨f - 1, by omega⟩
    have e : j = 2 ^ n := by omega
    have ev : vJ n j = -1 := if_pos e
    rw [p303_L236, ev, if_pos (show (-1 : Int32) < 0 by decide)]
    exact ⟨g, fg, h157, fun u hu => by rw [hk u hu (by omega), e], rfl⟩
  | succ m ih =>
    intro j f g hj j1 hf fg h157 hk
    obtain ⟨f, rfl⟩ : ∃ n', f = n' + 1 := ⟨f - 1, by omega⟩
    have ev : vJ n j = nI (2 ^ n - 1 - j) := if_neg (by omega)
    have tl : 2 ^ n - 1 - j < 2 ^ n := by omega
    have hRb : ∀ u, 2 ^ n - 1 - j < u → u < 2 ^ n → Rt (hof h l) (ndf h) (wtf h) n (s 0 13) j u ≤ BIG * (2 ^ n - u) := fun u h1 h2 => Rt_le hn9 b13 hH hwt j (by omega) u h1 h2
    obtain ⟨g2, f2, h2, hu2, ht2, e2⟩ := lrM E S O (l := l) (n := n) (t := 2 ^ n - 1 - j) (R := Rt (hof h l) (ndf h) (wtf h) n (s 0 13) j) hn9 hl tl (by omega) hRb hF (x := x) (K := p303_L236 F (nI n) x f) n 0 F (hsL g 159 (2 ^ n - 1 - j) 9223372036854775807) (by omega) (by omega) (fg.sL (Or.inl (by decide))) h157 (fun u h1 h3 => by rw [hL_s, u1_ne (by omega)]; exact hk u h3 (by omega)) (by rw [hL_s, u1_eq]; rfl)
    rw [p303_L236, ev, if_neg (nI_pos (by omega)), if_neg (nI_in (by omega) (by decide)), nI_clamp (by omega), show p303_L254 F (nI n) x (p303_L236 F (nI n) x f) F (hsL g 159 (2 ^ n - 1 - j) 9223372036854775807) (nI (2 ^ n - 1 - j)) 0 = _ from e2, vJ_s (by omega)]
    refine ih (j + 1) f g2 (by omega) (by omega) (by omega) f2 h2 (fun u hu hu3 => ?_)
    rw [Rt]
    by_cases z : u = 2 ^ n - 1 - j
    · subst z
      rw [u1_eq]
      exact ht2
    · rw [u1_ne z]
      exact hu2 u (by omega) hu
end OR3
