/-! a law's text: how it is read, once for both sides -/
abbrev PST : Type := Nat × Nat × List Nat
abbrev PRS : Type := Sum Nat PST
def pbd (r : PRS) (f : PST → PRS) : PRS := Sum.elim (fun e => Sum.inl e) f r
theorem pbd_l (e : Nat) (f : PST → PRS) : pbd (Sum.inl e) f = Sum.inl e := rfl
theorem pbd_r (s : PST) (f : PST → PRS) : pbd (Sum.inr s) f = f s := rfl
section GRM
variable (T P : Nat → Nat)
def flt (i k : Nat) : PRS := Sum.inl (1 + 8 * P i + k)
def aIn (V : PST → PRS) (t : Nat) : Nat → PST → PRS
  | 0, _ => Sum.inl 0
  | n + 1, s => if T s.1 = t then pbd (V (s.1 + 1, s.2.1, s.2.2)) (fun r => aIn V t n (r.1, r.2.1, r.2.2 ++ [t])) else Sum.inr s
def aOu (V : PST → PRS) (t : Nat) (jb : Nat → Bool) : Nat → List Nat → PST → PRS
  | 0, _, _ => Sum.inl 0
  | n + 1, J, s => pbd (V s) (fun r => pbd (aIn T V t 401 r) (fun q => if jb (T q.1) then aOu V t jb n [T q.1] (q.1 + 1, q.2.1, q.2.2 ++ J) else Sum.inr (q.1, q.2.1, q.2.2 ++ J)))
def isPM (t : Nat) : Bool := decide (t = 10045) || decide (t = 10046)
def isOR (t : Nat) : Bool := decide (t = 10028)
def isPl (t : Nat) : Bool := decide (t < 10000) || (decide (10010 ≤ t) && decide (t < 10021))
def isSg (t : Nat) : Bool := decide (10048 ≤ t) && decide (t ≤ 10052)
def aVl : Nat → PST → PRS
  | 0, _ => Sum.inl 0
  | g + 1, s => if isPl (T s.1) then (if s.2.1 = 80 then flt P s.1 3 else Sum.inr (s.1 + 1, s.2.1 + 1, s.2.2 ++ [T s.1])) else if T s.1 = 10041 then (if g = 0 then flt P s.1 2 else if s.2.1 = 80 then flt P s.1 3 else pbd (aOu T (aVl g) 10047 isPM 401 [] (s.1 + 1, s.2.1 + 1, s.2.2)) (fun r => if T r.1 = 10042 then Sum.inr (r.1 + 1, r.2.1, r.2.2) else flt P r.1 0)) else flt P s.1 (if T s.1 = 10000 then 1 else 0)
def aSu (g : Nat) (s : PST) : PRS := aOu T (aVl T P g) 10047 isPM 401 [] s
def aFt : Nat → PST → PRS
  | 0, _ => Sum.inl 0
  | g + 1, s => if T s.1 = 10030 then (if g = 0 then flt P s.1 2 else pbd (aFt g (s.1 + 1, s.2.1, s.2.2)) (fun r => Sum.inr (r.1, r.2.1, r.2.2 ++ [10030]))) else if T s.1 = 10043 then (if g = 0 then flt P s.1 2 else pbd (aOu T (aFt g) 10029 isOR 401 [] (s.1 + 1, s.2.1, s.2.2)) (fun r => if T r.1 = 10044 then Sum.inr (r.1 + 1, r.2.1, r.2.2) else flt P r.1 0)) else pbd (aSu T P (g + 1) s) (fun r => if isSg (T r.1) then (if r.2.1 = 80 then flt P r.1 3 else pbd (aSu T P (g + 1) (r.1 + 1, r.2.1 + 1, r.2.2)) (fun q => Sum.inr (q.1, q.2.1, q.2.2 ++ [T r.1]))) else flt P r.1 0)
def aTe (g : Nat) (s : PST) : PRS := aOu T (aFt T P g) 10029 isOR 401 [] s
end GRM
/-! what is read is typed -/
def tyLs : (Nat → Bool) × Nat → List Nat → Option ((Nat → Bool) × Nat)
  | q, [] => some q
  | q, t :: D => Option.bind (tyF q t) fun r => tyLs r D
theorem tyL_a : ∀ (D : List Nat) (q : (Nat → Bool) × Nat) (E : List Nat), tyLs q (D ++ E) = Option.bind (tyLs q D) fun r => tyLs r E
  | [], _, _ => rfl
  | t :: D, q, E => by
    show Option.bind (tyF q t) (fun r => tyLs r (D ++ E)) = Option.bind (Option.bind (tyF q t) fun r => tyLs r D) fun r => tyLs r E
    cases tyF q t with
    | none => rfl
    | some r => exact tyL_a D r E
/-- one value more, of this kind -/
def TYD (b : Bool) (D : List Nat) : Prop := ∀ q : (Nat → Bool) × Nat, ∃ B, tyLs q D = some (B, q.2 + 1) ∧ B q.2 = b ∧ ∀ j, j < q.2 → B j = q.1 j
def vcn (D : List Nat) : Nat := (D.filter (fun t => decide (t < 10021))).length
theorem vcn_a (D E : List Nat) : vcn (D ++ E) = vcn D + vcn E := by unfold vcn; rw [List.filter_append, List.length_append]
theorem TYD_v {t : Nat} (h : isPl t = true) : TYD false [t] := by
  intro q
  have ht : t < 10021 := by
    unfold isPl at h
    rw [Bool.or_eq_true, Bool.and_eq_true] at h
    rcases h with z | z
    · have := of_decide_eq_true z; omega
    · exact of_decide_eq_true z.2
  refine ⟨u1 q.1 q.2 false, ?_, u1_eq _ _ _, fun j hj => u1_ne (by omega)⟩
  show Option.bind (tyF q t) (fun r => tyLs r []) = _
  unfold tyF
  rw [if_pos ht]
  rfl
theorem TYD_j {b c : Bool} {t : Nat} {D E : List Nat} (hD : TYD b D) (hE : TYD b E) (ht : (b = false ∧ c = false ∧ 10045 ≤ t ∧ t ≤ 10047) ∨ (b = true ∧ c = true ∧ (t = 10028 ∨ t = 10029)) ∨ (b = false ∧ c = true ∧ 10048 ≤ t ∧ t ≤ 10052)) : TYD c (D ++ E ++ [t]) := by
  intro q
  obtain ⟨B1, e1, v1, r1⟩ := hD q
  obtain ⟨B2, e2, v2, r2⟩ := hE (B1, q.2 + 1)
  have a1 : B2 (q.2 + 1) = b := v2
  have a2 : B2 q.2 = b := by rw [r2 q.2 (Nat.lt_succ_self _)]; exact v1
  have eL : tyLs q (D ++ E ++ [t]) = tyF (B2, q.2 + 2) t := by
    rw [tyL_a, tyL_a, e1, ob, e2, ob]
    show Option.bind (tyF (B2, q.2 + 1 + 1) t) (fun r => tyLs r []) = _
    cases tyF (B2, q.2 + 1 + 1) t <;> rfl
  have lo : ∀ j, j < q.2 → B2 j = q.1 j := fun j hj => by rw [r2 j (Nat.lt_succ_of_lt hj)]; exact r1 j hj
  rw [eL]
  unfold tyF
  show ∃ B, (if t < 10021 then _ else if t = 10030 then _ else if t = 10028 ∨ t = 10029 then (if 2 ≤ q.2 + 2 ∧ B2 (q.2 + 1) = true ∧ B2 q.2 = true then some (B2, q.2 + 1) else none) else if 10045 ≤ t ∧ t ≤ 10047 then (if 2 ≤ q.2 + 2 ∧ B2 (q.2 + 1) = false ∧ B2 q.2 = false then some (B2, q.2 + 1) else none) else if 10048 ≤ t ∧ t ≤ 10052 then (if 2 ≤ q.2 + 2 ∧ B2 (q.2 + 1) = false ∧ B2 q.2 = false then some (u1 B2 q.2 true, q.2 + 1) else none) else none) = some (B, q.2 + 1) ∧ _
  rw [if_neg (by omega), if_neg (by omega)]
  rcases ht with ⟨rfl, rfl, h1, h2⟩ | ⟨rfl, rfl, h1⟩ | ⟨rfl, rfl, h1, h2⟩
  · rw [if_neg (by omega), if_pos ⟨h1, h2⟩, if_pos ⟨Nat.le_add_left _ _, a1, a2⟩]
    exact ⟨B2, rfl, a2, lo⟩
  · rw [if_pos h1, if_pos ⟨Nat.le_add_left _ _, a1, a2⟩]
    exact ⟨B2, rfl, a2, lo⟩
  · rw [if_neg (by omega), if_neg (by omega), if_pos ⟨h1, h2⟩, if_pos ⟨Nat.le_add_left _ _, a1, a2⟩]
    exact ⟨u1 B2 q.2 true, rfl, u1_eq _ _ _, fun j hj => by rw [u1_ne (by omega)]; exact lo j hj⟩
theorem TYD_n {D : List Nat} (hD : TYD true D) : TYD true (D ++ [10030]) := by
  intro q
  obtain ⟨B1, e1, v1, r1⟩ := hD q
  refine ⟨B1, ?_, v1, r1⟩
  rw [tyL_a, e1, ob]
  show Option.bind (tyF (B1, q.2 + 1) 10030) (fun r => tyLs r []) = _
  unfold tyF
  rw [if_neg (by decide), if_pos rfl, if_pos ⟨Nat.succ_pos _, v1⟩]
  rfl
/-- what a reader that ends well has done -/
def GDr (T : Nat → Nat) (m : Nat) (b : Bool) (s r : PST) (D : List Nat) : Prop := r.1 ≤ m ∧ r.2.2.length + s.1 ≤ s.2.2.length + r.1 ∧ s.2.1 ≤ r.2.1 ∧ (s.2.1 ≤ 80 → r.2.1 ≤ 80) ∧ r.2.2 = s.2.2 ++ D ∧ TYD b D ∧ (∀ t, t ∈ D → okT t) ∧ vcn D + s.2.1 ≤ r.2.1
def GDA (T : Nat → Nat) (m : Nat) (b : Bool) (A : PST → PRS) : Prop := ∀ s r, s.1 ≤ m → A s = Sum.inr r → s.1 < r.1 ∧ ∃ D, GDr T m b s r D
section GRP
variable {T P : Nat → Nat} {m : Nat}
theorem pbd_i {r : PRS} {f : PST → PRS} {q : PST} (h : pbd r f = Sum.inr q) : ∃ s, r = Sum.inr s ∧ f s = Sum.inr q := by
  cases r with
  | inl e => cases h
  | inr s => exact ⟨s, rfl, h⟩
theorem lt_m (hm : T m = 10002) {i : Nat} (hi : i ≤ m) (h : ¬ T i = 10002) : i < m := Nat.lt_of_le_of_ne hi (fun z => h (by rw [z]; exact hm))
theorem jb_c {b : Bool} {t : Nat} (ht : (b = false ∧ 10045 ≤ t ∧ t ≤ 10047) ∨ (b = true ∧ (t = 10028 ∨ t = 10029))) : okT t ∧ ¬ t = 10002 ∧ vcn [t] = 0 := by
  refine ⟨Or.inr (Or.inr (Or.inr ?_)), by omega, ?_⟩
  · unfold isJ
    exact decide_eq_true (by omega)
  · unfold vcn
    rw [List.filter_cons_of_neg (by rw [decide_eq_false (by omega)]; decide)]
    rfl
/-- two of them, joined -/
theorem GDr_j {b : Bool} {t : Nat} {s r q : PST} {D E : List Nat} (ht : (b = false ∧ 10045 ≤ t ∧ t ≤ 10047) ∨ (b = true ∧ (t = 10028 ∨ t = 10029))) (h1 : GDr T m b s r D) (h2 : GDr T m b (r.1 + 1, r.2.1, r.2.2) q E) : GDr T m b s (q.1, q.2.1, q.2.2 ++ [t]) (D ++ E ++ [t]) := by
  obtain ⟨a1, a2, a3, a4, a5, a6, a7, a8⟩ := h1
  obtain ⟨b1, b2', b3, b4, b5, b6, b7, b8⟩ := h2
  obtain ⟨c1, c2, c3⟩ := jb_c ht
  refine ⟨b1, ?_, Nat.le_trans a3 b3, fun z => b4 (a4 z), ?_, TYD_j a6 b6 (ht.elim (fun z => Or.inl ⟨z.1, z.1, z.2⟩) (fun z => Or.inr (Or.inl ⟨z.1, z.1, z.2⟩))), fun x hx => ?_, ?_⟩
  · show (q.2.2 ++ [t]).length + s.1 ≤ _
    rw [List.length_append]
    show q.2.2.length + 1 + s.1 ≤ s.2.2.length + q.1
    have : q.2.2.length + (r.1 + 1) ≤ r.2.2.length + q.1 := b2'
    omega
  · show q.2.2 ++ [t] = _
    rw [b5, a5, List.append_assoc, List.append_assoc, List.append_assoc]
  · rw [List.mem_append, List.mem_append] at hx
    rcases hx with (z | z) | z
    · exact a7 x z
    · exact b7 x z
    · rw [List.mem_singleton.mp z]; exact c1
  · rw [vcn_a, vcn_a, c3]
    have : vcn E + r.2.1 ≤ q.2.1 := b8
    show vcn D + vcn E + 0 + s.2.1 ≤ q.2.1
    omega
theorem gd_in {V : PST → PRS} {t : Nat} {b : Bool} (hm : T m = 10002) (ht : (b = false ∧ t = 10047) ∨ (b = true ∧ t = 10029)) (hV : GDA T m b V) : ∀ (n : Nat) (s0 s r : PST) (D : List Nat), GDr T m b s0 s D → aIn T V t n s = Sum.inr r → s.1 ≤ r.1 ∧ ¬ T r.1 = t ∧ ∃ E, GDr T m b s0 r E := by
  intro n
  induction n with
  | zero => intro s0 s r D _ h; cases h
  | succ n ih =>
    intro s0 s r D hD h
    rw [aIn] at h
    by_cases z : T s.1 = t
    · rw [if_pos z] at h
      obtain ⟨q, e1, e2⟩ := pbd_i h
      have lt : s.1 < m := lt_m hm hD.1 (by rw [z]; omega)
      obtain ⟨l1, E, hE⟩ := hV _ _ (show s.1 + 1 ≤ m from lt) e1
      have := GDr_j (t := t) (ht.elim (fun z => Or.inl ⟨z.1, by omega, by omega⟩) (fun z => Or.inr ⟨z.1, Or.inr z.2⟩)) hD hE
      obtain ⟨k1, k2, k3⟩ := ih s0 _ r _ this e2
      exact ⟨by have : q.1 ≤ r.1 := k1; have : s.1 + 1 < q.1 := l1; omega, k2, k3⟩
    · rw [if_neg z] at h
      injection h with h
      subst h
      exact ⟨Nat.le_refl _, z, D, hD⟩
theorem gd_ou {V : PST → PRS} {t : Nat} {b : Bool} {jb : Nat → Bool} (hm : T m = 10002) (ht : (b = false ∧ t = 10047 ∧ ∀ x, jb x = true → x = 10045 ∨ x = 10046) ∨ (b = true ∧ t = 10029 ∧ ∀ x, jb x = true → x = 10028)) (hV : GDA T m b V) : ∀ (n : Nat) (J : List Nat) (s0 s r : PST) (D : List Nat), s0.1 ≤ s.1 → s.1 ≤ m → ((J = [] ∧ s = s0 ∧ D = []) ∨ ∃ j s1, J = [j] ∧ jb j = true ∧ GDr T m b s0 s1 D ∧ s = (s1.1 + 1, s1.2.1, s1.2.2)) → aOu T V t jb n J s = Sum.inr r → s.1 < r.1 ∧ ¬ T r.1 = t ∧ jb (T r.1) = false ∧ ∃ E, GDr T m b s0 r E := by
  intro n
  induction n with
  | zero => intro J s0 s r D _ _ _ h; cases h
  | succ n ih =>
    intro J s0 s r D hs hsm hJ h
    rw [aOu] at h
    obtain ⟨r1, e1, h⟩ := pbd_i h
    obtain ⟨q, e2, h⟩ := pbd_i h
    obtain ⟨l1, E1, g1⟩ := hV _ _ hsm e1
    obtain ⟨l2, n2, E2, g2⟩ := gd_in (t := t) hm (by rcases ht with ⟨x, y, -⟩ | ⟨x, y, -⟩; exact Or.inl ⟨x, y⟩; exact Or.inr ⟨x, y⟩) hV 401 s r1 q E1 g1 e2
    have done : ∃ E, GDr T m b s0 (q.1, q.2.1, q.2.2 ++ J) E := by
      rcases hJ with ⟨rfl, rfl, rfl⟩ | ⟨j, s1, rfl, hj, hD, rfl⟩
      · rw [List.append_nil]
        exact ⟨E2, g2⟩
      · refine ⟨_, GDr_j (t := j) ?_ hD g2⟩
        rcases ht with ⟨x, -, y⟩ | ⟨x, -, y⟩
        · have := y j hj; exact Or.inl ⟨x, by omega, by omega⟩
        · have := y j hj; exact Or.inr ⟨x, by omega⟩
    cases hq : jb (T q.1)
    · rw [hq, if_neg (by decide)] at h
      injection h with h
      subst h
      exact ⟨by show s.1 < q.1; omega, n2, hq, done⟩
    · rw [hq, if_pos rfl] at h
      obtain ⟨E3, g3⟩ := done
      have nT : ¬ T q.1 = 10002 := by
        rcases ht with ⟨x, -, y⟩ | ⟨x, -, y⟩
        · have := y _ hq; omega
        · have := y _ hq; omega
      have lq : q.1 < m := lt_m hm g2.1 nT
      obtain ⟨k1, k2, k3, k4⟩ := ih [T q.1] s0 (q.1 + 1, q.2.1, q.2.2 ++ J) r E3 (by show s0.1 ≤ q.1 + 1; omega) lq (Or.inr ⟨_, _, rfl, hq, g3, rfl⟩) h
      exact ⟨by have : q.1 + 1 < r.1 := k1; omega, k2, k3, k4⟩
theorem isPM_c : ∀ x, isPM x = true → x = 10045 ∨ x = 10046 := by
  intro x h
  unfold isPM at h
  rw [Bool.or_eq_true] at h
  exact h.imp of_decide_eq_true of_decide_eq_true
theorem isOR_c : ∀ x, isOR x = true → x = 10028 := fun x h => of_decide_eq_true h
theorem gd_sum {V : PST → PRS} (hm : T m = 10002) (hV : GDA T m false V) : ∀ s r, s.1 ≤ m → aOu T V 10047 isPM 401 [] s = Sum.inr r → (s.1 < r.1 ∧ ∃ D, GDr T m false s r D) ∧ ¬ T r.1 = 10047 ∧ isPM (T r.1) = false := by
  intro s r hs h
  obtain ⟨a, b, c, d⟩ := gd_ou (b := false) hm (Or.inl ⟨rfl, rfl, isPM_c⟩) hV 401 [] s s r [] (Nat.le_refl _) hs (Or.inl ⟨rfl, rfl, rfl⟩) h
  exact ⟨⟨a, d⟩, b, c⟩
theorem gd_test {V : PST → PRS} (hm : T m = 10002) (hV : GDA T m true V) : ∀ s r, s.1 ≤ m → aOu T V 10029 isOR 401 [] s = Sum.inr r → (s.1 < r.1 ∧ ∃ D, GDr T m true s r D) ∧ ¬ T r.1 = 10029 ∧ isOR (T r.1) = false := by
  intro s r hs h
  obtain ⟨a, b, c, d⟩ := gd_ou (b := true) hm (Or.inr ⟨rfl, rfl, isOR_c⟩) hV 401 [] s s r [] (Nat.le_refl _) hs (Or.inl ⟨rfl, rfl, rfl⟩) h
  exact ⟨⟨a, d⟩, b, c⟩
theorem isPl_c {t : Nat} (h : isPl t = true) : (t < 10000 ∨ (10010 ≤ t ∧ t < 10021)) := by
  unfold isPl at h
  rw [Bool.or_eq_true, Bool.and_eq_true] at h
  rcases h with z | z
  · exact Or.inl (of_decide_eq_true z)
  · exact Or.inr ⟨of_decide_eq_true z.1, of_decide_eq_true z.2⟩
theorem isSg_c {t : Nat} (h : isSg t = true) : 10048 ≤ t ∧ t ≤ 10052 := by
  unfold isSg at h
  rw [Bool.and_eq_true] at h
  exact ⟨of_decide_eq_true h.1, of_decide_eq_true h.2⟩
theorem gd_val (hm : T m = 10002) : ∀ g, GDA T m false (aVl T P g) := by
  intro g
  induction g with
  | zero => intro s r _ h; cases h
  | succ g ih =>
    intro s r hs h
    rw [aVl] at h
    cases hp : isPl (T s.1)
    · rw [hp, if_neg (by decide)] at h
      by_cases z : T s.1 = 10041
      · rw [if_pos z] at h
        by_cases g0 : g = 0
        · rw [if_pos g0] at h; cases h
        · rw [if_neg g0] at h
          by_cases c : s.2.1 = 80
          · rw [if_pos c] at h; cases h
          · rw [if_neg c] at h
            obtain ⟨q, e1, h⟩ := pbd_i h
            have lt : s.1 < m := lt_m hm hs (by rw [z]; decide)
            obtain ⟨⟨l1, D, gD⟩, -, -⟩ := gd_sum hm ih _ _ (show s.1 + 1 ≤ m from lt) e1
            by_cases y : T q.1 = 10042
            · rw [if_pos y] at h
              injection h with h
              subst h
              have lq : q.1 < m := lt_m hm gD.1 (by rw [y]; decide)
              obtain ⟨d1, d2, d3, d4, d5, d6, d7, d8⟩ := gD
              have d2 : q.2.2.length + (s.1 + 1) ≤ s.2.2.length + q.1 := d2
              have d3 : s.2.1 + 1 ≤ q.2.1 := d3
              have d8 : vcn D + (s.2.1 + 1) ≤ q.2.1 := d8
              have l1 : s.1 + 1 < q.1 := l1
              exact ⟨by show s.1 < q.1 + 1; omega, D, lq, by show q.2.2.length + s.1 ≤ s.2.2.length + (q.1 + 1); omega, by show s.2.1 ≤ q.2.1; omega, fun w => d4 (by show s.2.1 + 1 ≤ 80; omega), d5, d6, d7, by show vcn D + s.2.1 ≤ q.2.1; omega⟩
            · rw [if_neg y] at h; cases h
      · rw [if_neg z] at h; cases h
    · rw [hp, if_pos rfl] at h
      by_cases c : s.2.1 = 80
      · rw [if_pos c] at h; cases h
      · rw [if_neg c] at h
        injection h with h
        subst h
        have pc := isPl_c hp
        have lt : s.1 < m := lt_m hm hs (by omega)
        refine ⟨Nat.lt_succ_self _, [T s.1], lt, ?_, Nat.le_succ _, fun w => by show s.2.1 + 1 ≤ 80; omega, rfl, TYD_v hp, fun t ht => ?_, ?_⟩
        · show (s.2.2 ++ [T s.1]).length + s.1 ≤ s.2.2.length + (s.1 + 1)
          rw [List.length_append]
          show s.2.2.length + 1 + s.1 ≤ _
          omega
        · rw [List.mem_singleton.mp ht]
          exact pc.elim Or.inl (fun z => Or.inr (Or.inl z))
        · unfold vcn
          rw [List.filter_cons_of_pos (by rw [decide_eq_true (by omega)])]
          show 1 + s.2.1 ≤ s.2.1 + 1
          omega
theorem gd_fact (hm : T m = 10002) : ∀ g, GDA T m true (aFt T P g) := by
  intro g
  induction g with
  | zero => intro s r _ h; cases h
  | succ g ih =>
    intro s r hs h
    rw [aFt] at h
    by_cases z : T s.1 = 10030
    · rw [if_pos z] at h
      by_cases g0 : g = 0
      · rw [if_pos g0] at h; cases h
      · rw [if_neg g0] at h
        obtain ⟨q, e1, h⟩ := pbd_i h
        injection h with h
        subst h
        have lt : s.1 < m := lt_m hm hs (by rw [z]; decide)
        obtain ⟨l1, D, d1, d2, d3, d4, d5, d6, d7, d8⟩ := ih _ _ (show s.1 + 1 ≤ m from lt) e1
        have d2 : q.2.2.length + (s.1 + 1) ≤ s.2.2.length + q.1 := d2
        have l1 : s.1 + 1 < q.1 := l1
        refine ⟨by show s.1 < q.1; omega, D ++ [10030], d1, ?_, d3, d4, ?_, TYD_n d6, fun t ht => ?_, ?_⟩
        · show (q.2.2 ++ [10030]).length + s.1 ≤ s.2.2.length + q.1
          rw [List.length_append]
          show q.2.2.length + 1 + s.1 ≤ _
          omega
        · show q.2.2 ++ [10030] = _
          rw [d5, List.append_assoc]
        · rw [List.mem_append] at ht
          rcases ht with y | y
          · exact d7 t y
          · rw [List.mem_singleton.mp y]; exact Or.inr (Or.inr (Or.inl rfl))
        · rw [vcn_a]
          exact d8
    · rw [if_neg z] at h
      by_cases z2 : T s.1 = 10043
      · rw [if_pos z2] at h
        by_cases g0 : g = 0
        · rw [if_pos g0] at h; cases h
        · rw [if_neg g0] at h
          obtain ⟨q, e1, h⟩ := pbd_i h
          have lt : s.1 < m := lt_m hm hs (by rw [z2]; decide)
          obtain ⟨⟨l1, D, d1, d2, d3, d4, d5, d6, d7, d8⟩, -, -⟩ := gd_test hm ih _ _ (show s.1 + 1 ≤ m from lt) e1
          by_cases y : T q.1 = 10044
          · rw [if_pos y] at h
            injection h with h
            subst h
            have lq : q.1 < m := lt_m hm d1 (by rw [y]; decide)
            have d2 : q.2.2.length + (s.1 + 1) ≤ s.2.2.length + q.1 := d2
            have l1 : s.1 + 1 < q.1 := l1
            exact ⟨by show s.1 < q.1 + 1; omega, D, lq, by show q.2.2.length + s.1 ≤ s.2.2.length + (q.1 + 1); omega, d3, d4, d5, d6, d7, d8⟩
          · rw [if_neg y] at h; cases h
      · rw [if_neg z2] at h
        obtain ⟨q, e1, h⟩ := pbd_i h
        obtain ⟨⟨l1, D, d1, d2, d3, d4, d5, d6, d7, d8⟩, -, -⟩ := gd_sum hm (gd_val hm (g + 1)) _ _ hs e1
        cases hg : isSg (T q.1)
        · rw [hg, if_neg (by decide)] at h; cases h
        · rw [hg, if_pos rfl] at h
          by_cases c : q.2.1 = 80
          · rw [if_pos c] at h; cases h
          · rw [if_neg c] at h
            obtain ⟨q2, e2, h⟩ := pbd_i h
            injection h with h
            subst h
            obtain ⟨s1, s2⟩ := isSg_c hg
            have lq : q.1 < m := lt_m hm d1 (by omega)
            obtain ⟨⟨k1, E, f1, f2, f3, f4, f5, f6, f7, f8⟩, -, -⟩ := gd_sum hm (gd_val hm (g + 1)) _ _ (show q.1 + 1 ≤ m from lq) e2
            have f2 : q2.2.2.length + (q.1 + 1) ≤ q.2.2.length + q2.1 := f2
            have f3 : q.2.1 + 1 ≤ q2.2.1 := f3
            have k1 : q.1 + 1 < q2.1 := k1
            have f8 : vcn E + (q.2.1 + 1) ≤ q2.2.1 := f8
            refine ⟨by show s.1 < q2.1; omega, D ++ E ++ [T q.1], f1, ?_, by show s.2.1 ≤ q2.2.1; omega, fun w => f4 (by have := d4 w; show q.2.1 + 1 ≤ 80; omega), ?_, TYD_j d6 f6 (Or.inr (Or.inr ⟨rfl, rfl, s1, s2⟩)), fun t ht => ?_, ?_⟩
            · show (q2.2.2 ++ [T q.1]).length + s.1 ≤ s.2.2.length + q2.1
              rw [List.length_append]
              show q2.2.2.length + 1 + s.1 ≤ _
              omega
            · show q2.2.2 ++ [T q.1] = _
              rw [f5, d5, List.append_assoc, List.append_assoc, List.append_assoc]
            · rw [List.mem_append, List.mem_append] at ht
              rcases ht with (y | y) | y
              · exact d7 t y
              · exact f7 t y
              · rw [List.mem_singleton.mp y]
                exact Or.inr (Or.inr (Or.inr (decide_eq_true (Or.inr (Or.inr ⟨by omega, s2⟩)))))
            · rw [vcn_a, vcn_a]
              have : vcn [T q.1] = 0 := by
                unfold vcn
                rw [List.filter_cons_of_neg (by rw [decide_eq_false (by omega)]; decide)]
                rfl
              show vcn D + vcn E + vcn [T q.1] + s.2.1 ≤ q2.2.1
              omega
end GRP
