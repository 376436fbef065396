/-! order: the class's table -/
def hof (h : HS) (l : Nat → Nat) (k : Nat) : Nat := (hI h 87 (l k)).toNatClampNeg
def ndf (h : HS) (a : Nat) : Nat := (hI h 154 a).toNatClampNeg
def wtf (h : HS) (a : Nat) : Nat := (hI h 155 a).toNatClampNeg
def ORa (s : SS) (h : HS) : Prop := ∀ a, a < s 0 13 → (∃ x, x ≤ 511 ∧ hI h 154 a = nI x) ∧ ∃ x, x ≤ 99 ∧ hI h 155 a = nI x
def ORc (s : SS) (h : HS) : Prop := ORa s h ∧ ∃ n, n ≤ 9 ∧ hI h 77 4 = nI n ∧ hI h 86 92 = nI n ∧ ∀ k, k < n → hI h 80 k = hI h 158 k
/-- what the model alone needs to know -/
def EM (s : SS) (h : HS) : Prop := hI h 86 91 = nI (s 0 13) ∧ hI h 86 2 = nI (s 0 1) ∧ s 0 13 ≤ 12 ∧ s 0 1 ≤ 20 ∧ 160 ≤ h.1
theorem EM.m13 {s : SS} {h : HS} (E : EM s h) : hI h 86 91 = nI (s 0 13) := E.1
theorem EM.m1 {s : SS} {h : HS} (E : EM s h) : hI h 86 2 = nI (s 0 1) := E.2.1
theorem EM.b13 {s : SS} {h : HS} (E : EM s h) : s 0 13 ≤ 12 := E.2.2.1
theorem EM.b1 {s : SS} {h : HS} (E : EM s h) : s 0 1 ≤ 20 := E.2.2.2.1
theorem EM.w {s : SS} {h : HS} (E : EM s h) : 160 ≤ h.1 := E.2.2.2.2
theorem EM.fr {s : SS} {h g : HS} {W : List Nat} {K : List (Nat × Nat)} {D : Nat → Prop} (E : EM s h) (f : FR W K D h g) (ok : ¬ 86 ∈ W ∧ ¬ (86, 91) ∈ K ∧ ¬ (86, 2) ∈ K) : EM s g := ⟨(f.fI E.w 86 91 ⟨by decide, ok.1, ok.2.1⟩).trans E.1, (f.fI E.w 86 2 ⟨by decide, ok.1, ok.2.2⟩).trans E.2.1, E.2.2.1, E.2.2.2.1, Nat.le_trans E.w f.1⟩
section ORD
variable {s : SS} {h : HS}
theorem nd_v (O : ORa s h) {a : Nat} (ha : a < s 0 13) : hI h 154 a = nI (ndf h a) ∧ ndf h a ≤ 511 ∧ hI h 155 a = nI (wtf h a) ∧ wtf h a ≤ 99 := by
  obtain ⟨⟨x, hx, ex⟩, y, hy, ey⟩ := O a ha
  unfold ndf wtf
  rw [ex, ey, nI_clamp (by omega), nI_clamp (by omega)]
  exact ⟨rfl, hx, rfl, hy⟩
theorem ho_v (S : SCc s h) {l : Nat → Nat} {k : Nat} (hk : l k < s 0 1) : hI h 87 (l k) = nI (hof h l k) ∧ hof h l k ≤ 999 := by
  obtain ⟨x, h1, hx, ex⟩ := S.2.2.2.2.1 (l k) hk
  unfold hof
  rw [ex, nI_clamp (by omega)]
  exact ⟨rfl, hx⟩
/-- served -/
theorem msW (E : EV s h) (O : ORa s h) (R : RWc h) {F : Nat} {a0 : Int32} {K : HS → Int32 → Option HS} {t : Nat} (ht : t < 512) {v3 : Int32} : ∀ (m i n : Nat), i + m = s 0 13 → m < n → p79_L57 F a0 K n h (nI t) v3 (nI (sumN (fun a => if subB (ndf h a) t then wtf h a else 0) i)) (nI i) = K (hsI (hsI h 82 t v3) 83 t (nI (srv (ndf h) (wtf h) (s 0 13) t))) (nI (t + 1)) := by
  have b13 := E.cn.b13
  have r78 : hI h 78 = hI h 154 := R.2.2.2.2.2.2.2.2.2.1
  have r79 : hI h 79 = hI h 155 := R.2.2.2.2.2.2.2.2.2.2
  have gt : ¬ (nI t < 0 ∨ 512 ≤ t) := nI_in' ht (by decide)
  intro m
  induction m with
  | zero =>
    intro i n hi hn
    obtain ⟨n, rfl⟩ : ∃ n', n = n' + 1 := ⟨n - 1, by omega⟩
    have e : i = s 0 13 := by omega
    subst e
    rw [p79_L57, E.cn.c13, if_neg Int32.lt_irrefl, nI_clamp (n := t) (by omega), if_neg gt, if_neg gt, nI_1]
    rfl
  | succ m ih =>
    intro i n hi hn
    obtain ⟨n, rfl⟩ : ∃ n', n = n' + 1 := ⟨n - 1, by omega⟩
    obtain ⟨e1, b1, e2, b2⟩ := nd_v O (a := i) (by omega)
    have ih' := ih (i + 1) n (by omega) (by omega)
    rw [sumN] at ih'
    rw [p79_L57, E.cn.c13, if_pos (nI_lt (by omega) (by omega)), if_neg (nI_in (by omega) (by decide)), nI_clamp (n := i) (by omega), r78, r79, e1, e2, if_neg (nI_in' (by omega) (by decide))]
    unfold p79_j93
    rw [nI_1]
    by_cases z : (nI (ndf h i) &&& (nI t ^^^ (-1 : Int32))) = 0
    · rw [if_pos z, nI_add]
      rw [show subB (ndf h i) t = true from decide_eq_true z, if_pos rfl] at ih'
      exact ih'
    · rw [if_neg z, show (0 : Int32) = nI 0 from rfl, nI_add]
      rw [show subB (ndf h i) t = false from decide_eq_false z, if_neg (by decide)] at ih'
      exact ih'
/-- hours -/
theorem msH (E : EV s h) (S : SCc s h) {l : Nat → Nat} {n : Nat} (hn9 : n ≤ 9) (hl : ∀ k, k < n → l k < s 0 1 ∧ hI h 81 k = nI (l k)) {F : Nat} {K : HS → Int32 → Option HS} {t : Nat} (ht : t < 512) : ∀ (m i f : Nat), i + m = n → m < f → p79_L14 F (nI n) K f h (nI t) (nI (sumN (fun i => if t.testBit i then hof h l i else 0) i)) (nI i) = p79_L57 F (nI n) K F h (nI t) (nI (hrs (hof h l) n t)) 0 0 := by
  have b1 := E.cn.b1
  have r34 : hI h 34 = hI h 87 := S.1
  intro m
  induction m with
  | zero =>
    intro i f hi hf
    obtain ⟨f, rfl⟩ : ∃ n', f = n' + 1 := ⟨f - 1, by omega⟩
    have e : i = n := by omega
    subst e
    rw [p79_L14, if_neg Int32.lt_irrefl]
    rfl
  | succ m ih =>
    intro i f hi hf
    obtain ⟨f, rfl⟩ : ∃ n', f = n' + 1 := ⟨f - 1, by omega⟩
    obtain ⟨l1, l2⟩ := hl i (by omega)
    obtain ⟨e1, b2⟩ := ho_v S l1
    have ih' := ih (i + 1) f (by omega) (by omega)
    rw [sumN] at ih'
    rw [p79_L14, if_pos (nI_lt (by omega) (by omega)), if_neg (nI_in (by omega) (by decide)), nI_clamp (n := i) (by omega), l2, if_neg (nI_in (c := l i) (by omega) (by decide)), nI_clamp (n := l i) (by omega), r34, e1, (b9_bt t ht i (by omega)).2.1, nI_1]
    cases hb : t.testBit i with
    | true =>
      rw [hb, if_pos rfl] at ih'
      rw [if_pos rfl, show (1 : Int32) = nI 1 from rfl, nI_mul, nI_add, Nat.one_mul]
      exact ih'
    | false =>
      rw [hb, if_neg (by decide)] at ih'
      rw [if_neg (by decide), show (0 : Int32) = nI 0 from rfl, nI_mul, nI_add, Nat.zero_mul]
      exact ih'
def orW : List Nat := [80, 81, 82, 83, 84]
theorem or_fr {g : HS} (E : EV s h) (S : SCc s h) (O : ORa s h) (R : RWc h) (f : FR [82, 83, 84] [] nD h g) : EV s g ∧ SCc s g ∧ ORa s g ∧ RWc g ∧ (∀ l, hof g l = hof h l) ∧ ndf g = ndf h ∧ wtf g = wtf h ∧ hI g 81 = hI h 81 := by
  have w := E.w.1
  have k1 := f.fA w 87 (by decide)
  have k2 := f.fA w 154 (by decide)
  have k3 := f.fA w 155 (by decide)
  exact ⟨E.fr f (by decide) evD_n, S.fr w f (by decide) (by decide), fun a ha => by rw [k2, k3]; exact O a ha, R.fr w f (by decide), fun l => by funext k; unfold hof; rw [k1], by funext a; unfold ndf; rw [k2], by funext a; unfold wtf; rw [k3], f.fA w 81 (by decide)⟩
theorem msC (E : EV s h) (S : SCc s h) (O : ORa s h) (R : RWc h) {l : Nat → Nat} {n : Nat} (hn9 : n ≤ 9) (hl : ∀ k, k < n → l k < s 0 1 ∧ hI h 81 k = nI (l k)) {F : Nat} (hF : 1000 ≤ F) : ∀ (m t f : Nat) (g : HS), t + m = 2 ^ n → m < f → FR [82, 83, 84] [] nD h g → (∀ u, u < t → hI g 82 u = nI (hrs (hof h l) n u) ∧ hI g 83 u = nI (srv (ndf h) (wtf h) (s 0 13) u)) → ∃ g', FR [82, 83, 84] [] nD h g' ∧ (∀ u, u < 2 ^ n → hI g' 82 u = nI (hrs (hof h l) n u) ∧ hI g' 83 u = nI (srv (ndf h) (wtf h) (s 0 13) u)) ∧ p79_L2 F (nI n) f g (nI t) = some g' := by
  obtain ⟨p1, p2, p3⟩ := b9_pw n (by omega)
  have b13 := E.cn.b13
  intro m
  induction m with
  | zero =>
    intro t f g ht hf fg hk
    obtain ⟨f, rfl⟩ : ∃ n', f = n' + 1 := ⟨f - 1, by omega⟩
    have e : t = 2 ^ n := by omega
    rw [p79_L2, p1, e, if_neg Int32.lt_irrefl]
    exact ⟨g, fg, fun u hu => hk u (by omega), rfl⟩
  | succ m ih =>
    intro t f g ht hf fg hk
    obtain ⟨f, rfl⟩ : ∃ n', f = n' + 1 := ⟨f - 1, by omega⟩
    obtain ⟨E1, S1, O1, R1, ho, nd, wt, k81⟩ := or_fr E S O R fg
    have hl1 : ∀ k, k < n → l k < s 0 1 ∧ hI g 81 k = nI (l k) := fun k hk => by rw [k81]; exact hl k hk
    have e1 := msH E1 S1 hn9 hl1 (F := F) (K := p79_L2 F (nI n) f) (t := t) (by omega) n 0 F (by omega) (by omega)
    have e2 := msW E1 O1 R1 (F := F) (a0 := nI n) (K := p79_L2 F (nI n) f) (t := t) (by omega) (v3 := nI (hrs (hof g l) n t)) (s 0 13) 0 F (by omega) (by omega)
    rw [p79_L2, p1, if_pos (nI_lt (by omega) (by omega)), show p79_L14 F (nI n) (p79_L2 F (nI n) f) F g (nI t) 0 0 = _ from e1, show p79_L57 F (nI n) (p79_L2 F (nI n) f) F g (nI t) (nI (hrs (hof g l) n t)) 0 0 = _ from e2, ho, nd, wt]
    refine ih (t + 1) f _ (by omega) (by omega) ((fg.sI (Or.inl (by decide))).sI (Or.inl (by decide))) (fun u hu => ?_)
    by_cases z : u = t
    · subst z
      exact ⟨(hI_sn (by decide) _).trans (hI_s _ _ _ _), hI_s _ _ _ _⟩
    · obtain ⟨q1, q2⟩ := hk u (by omega)
      exact ⟨(hI_sn (by decide) _).trans ((hI_sk z).trans q1), (hI_sk z).trans ((hI_sn (by decide) _).trans q2)⟩
/-- the class's cost of one sack more -/
theorem cwC (E : EV s h) (O : ORa s h) {H : Nat → Nat} {n t k : Nat} {R : Nat → Nat} (hn9 : n ≤ 9) (ht : t < 2 ^ n) (hk : k < n) (hb : t.testBit k = false) (hH : ∀ i, i < n → H i ≤ 999) (h82 : ∀ u, u < 2 ^ n → hI h 82 u = nI (hrs H n u) ∧ hI h 83 u = nI (srv (ndf h) (wtf h) (s 0 13) u)) (h84 : hL h 84 (t ||| 2 ^ k) = lN (R (t ||| 2 ^ k))) : p80 h (nI t) (nI k) = some (lN (cst H (ndf h) (wtf h) n (s 0 13) (t ||| 2 ^ k) k + R (t ||| 2 ^ k))) := by
  have b13 := E.cn.b13
  have p2 := (b9_pw n (by omega)).2.1
  obtain ⟨o1, o2, o3⟩ := b9_or t (by omega) k (by omega)
  have o4 := b9_in n (by omega) t ht k hk
  have hnd : ∀ a, a < s 0 13 → ndf h a < 512 := fun a ha => by have := (nd_v O ha).2.1; omega
  have hwt : ∀ a, a < s 0 13 → wtf h a ≤ 99 := fun a ha => (nd_v O ha).2.2.2
  obtain ⟨c1, c2⟩ := cst_eq (H := H) (nd := ndf h) (wt := wtf h) (n := n) (A := s 0 13) (t := t) (k := k) hnd (by omega) (by omega) hb
  obtain ⟨l1, l2, l3⟩ := cst_le (H := H) (nd := ndf h) (wt := wtf h) (n := n) (A := s 0 13) (t := t ||| 2 ^ k) (k := k) hn9 b13 hH hwt
  unfold p80
  rw [o1, nI_clamp (n := t ||| 2 ^ k) (by omega), nI_clamp (n := t) (by omega), if_neg (nI_in' o2 (by decide)), if_neg (nI_in' o2 (by decide)), if_neg (nI_in' (by omega) (by decide)), if_neg (nI_in' o2 (by decide)), (h82 _ o4).1, (h82 _ o4).2, (h82 t ht).2, h84]
  generalize hx : sumN (fun a => if subB (ndf h a) (t ||| 2 ^ k) && (ndf h a).testBit k then wtf h a else 0) (s 0 13) = x at *
  have es : nI (srv (ndf h) (wtf h) (s 0 13) (t ||| 2 ^ k)) - nI (srv (ndf h) (wtf h) (s 0 13) t) = nI x := by
    rw [c1, ← nI_add]
    rw [Int32.add_sub_cancel]
  rw [es, nI_l (by omega), nI_l (by omega), lN_mul, lN_add, c2, Nat.mul_comm]
end ORD
