/-! a new law's object -/
def cpy (f : Nat → Int32) (n : Nat) : Nat → Int32 := fun j => if j < n then f j else 0
theorem cpy_l {f : Nat → Int32} {n j : Nat} (h : j < n) : cpy f n j = f j := if_pos h
theorem exA {h h2 : HS} {t n o k : Nat} {f : Nat → Int32} {v : Option Nat} (e : hsR (hnew h t n f) o k v = h2) : h2.1 = h.1 + 1 ∧ (∀ x, ¬ x = h.1 → hI h2 x = hI h x ∧ hT h2 x = hT h x ∧ hN h2 x = hN h x) ∧ (hI h2 h.1 = f ∧ hT h2 h.1 = t ∧ hN h2 h.1 = n) ∧ hR h2 o k = v ∧ ∀ x j, ¬ x = h.1 → ¬ j = k → hR h2 x j = hR h x j := by
  subst e
  refine ⟨rfl, fun x hx => ⟨hI_Wn (h := h) (t := t) (n := n) (g := f) hx, hT_Wn (h := h) (t := t) (n := n) (g := f) hx, hN_Wn (h := h) (t := t) (n := n) (g := f) hx⟩, ⟨hI_W h t n f, hT_W h t n f, hN_W h t n f⟩, if_pos ⟨rfl, rfl⟩, fun x j hx hj => ?_⟩
  refine Eq.trans (if_neg fun z => hj z.2) ?_
  exact congrFun (hR_Wn hx) j
section NLW
variable {g : HS} {F : Nat} {a0 : Int32}
theorem p24L {h : HS} {o n : Nat} {C : Nat → Nat} (r5 : hR h o 5 = some (o + 5)) (t5 : hT h (o + 5) = 20) (n5 : hN h (o + 5) = n) (hn : n ≤ 400) (cv : ∀ j, j < n → hI h (o + 5) j = nI (C j) ∧ C j < 20000) : ∀ (m j f : Nat), j + m = n → m < f → p24_L82 F o a0 f h (b2 (anyN (fun k => decide (C k = 10012)) j)) (nI j) = some (hsI h o 1 (b2 (anyN (fun k => decide (C k = 10012)) n))) := by
  intro m
  induction m with
  | zero =>
    intro j f hj hf
    obtain ⟨f, rfl⟩ : ∃ f', f = f' + 1 := ⟨f - 1, by omega⟩
    have e : j = n := by omega
    subst e
    rw [p24_L82, r5, ob, if_pos t5, n5]
    show (if nI j < nI j then _ else _) = _
    rw [if_neg Int32.lt_irrefl]
    have v1 : ∀ b : Bool, ((b2 b = 0) ∨ b2 b = 1) := by decide
    rw [if_pos (v1 _)]
  | succ m ih =>
    intro j f hj hf
    obtain ⟨f, rfl⟩ : ∃ f', f = f' + 1 := ⟨f - 1, by omega⟩
    obtain ⟨c1, c2⟩ := cv j (by omega)
    have ih' := ih (j + 1) f (by omega) (by omega)
    have orr : ∀ b c : Bool, (b2 b ||| b2 c) = b2 (b || c) := by decide
    rw [anyN_s] at ih'
    rw [p24_L82, r5, ob, if_pos t5, n5]
    show (if nI j < nI n then _ else _) = _
    rw [if_pos (nI_lt (by omega) (by omega)), ob, if_pos t5, n5, nI_clamp (by omega), if_neg (nI_in' (by omega) (by omega)), c1]
    unfold p24_j111
    rw [nI_1]
    by_cases z : C j = 10012
    · rw [decide_eq_true z] at ih'
      rw [if_pos (show nI (C j) = 10012 by rw [z]; rfl), show (1 : Int32) = b2 true from rfl, orr]
      exact ih'
    · rw [decide_eq_false z] at ih'
      rw [if_neg (show ¬ nI (C j) = 10012 from fun y => z ((nI_eq (b := 10012) (by omega) (by decide)).mp y)), show (0 : Int32) = b2 false from rfl, orr]
      exact ih'
/-- the object, with its arrays -/
def NLW (g g' : HS) (a0 : Int32) (cc n : Nat) (v : Int32) : Prop := FR [31] [] nD g g' ∧ g'.1 = g.1 + 6 ∧ g'.2.1 = g.2.1 + 7 + 80 + cc + cc + cc + n ∧ (hT g' g.1 = 1 ∧ hI g' g.1 0 = a0 ∧ hI g' g.1 1 = v) ∧ (hR g' g.1 6 = some (g.1 + 1) ∧ hR g' g.1 3 = some (g.1 + 2) ∧ hR g' g.1 2 = some (g.1 + 3) ∧ hR g' g.1 4 = some (g.1 + 4) ∧ hR g' g.1 5 = some (g.1 + 5)) ∧ ((hT g' (g.1 + 1) = 23 ∧ hN g' (g.1 + 1) = 80) ∧ (hT g' (g.1 + 2) = 20 ∧ hN g' (g.1 + 2) = cc) ∧ (hT g' (g.1 + 3) = 20 ∧ hN g' (g.1 + 3) = cc) ∧ (hT g' (g.1 + 4) = 20 ∧ hN g' (g.1 + 4) = cc) ∧ (hT g' (g.1 + 5) = 20 ∧ hN g' (g.1 + 5) = n)) ∧ hI g' (g.1 + 2) = cpy (hI g 62) cc ∧ hI g' (g.1 + 3) = cpy (hI g 63) cc ∧ hI g' (g.1 + 4) = cpy (hI g 64) cc ∧ hI g' (g.1 + 5) = cpy (hI g 65) n
def p24d (F : Nat) (o : Nat) (a0 : Int32) (h : HS) : Option HS := if (hI h 61 6) < (0 : Int32) ∨ hN h 65 < (hI h 61 6).toNatClampNeg then none else Option.bind (some (hnew h 20 (hI h 61 6).toNatClampNeg (fun j => if j < (hI h 61 6).toNatClampNeg then hI h 65 j else 0))) fun h24 => if hT h24 o = 1 then p24_L82 F o a0 F (hsR h24 o 5 (some h.1)) (0) (0) else none
def p24c (F : Nat) (o : Nat) (a0 : Int32) (h : HS) : Option HS := if (hI h 61 5) < (0 : Int32) ∨ hN h 64 < (hI h 61 5).toNatClampNeg then none else Option.bind (some (hnew h 20 (hI h 61 5).toNatClampNeg (fun j => if j < (hI h 61 5).toNatClampNeg then hI h 64 j else 0))) fun h19 => if hT h19 o = 1 then p24d F o a0 (hsR h19 o 4 (some h.1)) else none
def p24b (F : Nat) (o : Nat) (a0 : Int32) (h : HS) : Option HS := if (hI h 61 5) < (0 : Int32) ∨ hN h 63 < (hI h 61 5).toNatClampNeg then none else Option.bind (some (hnew h 20 (hI h 61 5).toNatClampNeg (fun j => if j < (hI h 61 5).toNatClampNeg then hI h 63 j else 0))) fun h11 => if hT h11 o = 1 then Option.bind (some (hsR h11 o 2 (some h.1))) fun h15 => p24c F o a0 h15 else none
def p24a (F : Nat) (o : Nat) (a0 : Int32) (h : HS) : Option HS := if (hI h 61 5) < (0 : Int32) ∨ hN h 62 < (hI h 61 5).toNatClampNeg then none else Option.bind (some (hnew h 20 (hI h 61 5).toNatClampNeg (fun j => if j < (hI h 61 5).toNatClampNeg then hI h 62 j else 0))) fun h6 => if hT h6 o = 1 then p24b F o a0 (hsR h6 o 3 (some h.1)) else none
theorem p24_0 (h : HS) (o : Nat) : p24 F h o a0 = Option.bind (some (hnew h 23 (80 : Int32).toNatClampNeg (fun _ => 0))) fun h1 => if hT h1 o = 1 then p24a F o a0 (hsI (hsR h1 o 6 (some h.1)) o 0 a0) else none := rfl
theorem nlt2 {a b : Nat} (h1 : b ≤ a) (h2 : a ≤ 400) : ¬ (nI b < 0 ∨ a < b) := fun z => z.elim (nI_pos (by omega)) (by omega)
/-- one array more -/
theorem p24x {α : Type} {h h2 : HS} {o c q k n : Nat} {N : Nat} {K : HS → Option α} (e5 : hI h 61 q = nI n) (hn : n ≤ N) (hN4 : N ≤ 400) (eN : hN h c = N) (ho : ¬ o = h.1) (ht : hT h o = 1) (eh : hsR (hnew h 20 n (fun j => if j < n then hI h c j else 0)) o k (some h.1) = h2) : (if (hI h 61 q) < (0 : Int32) ∨ hN h c < (hI h 61 q).toNatClampNeg then none else Option.bind (some (hnew h 20 (hI h 61 q).toNatClampNeg (fun j => if j < (hI h 61 q).toNatClampNeg then hI h c j else 0))) fun h6 => if hT h6 o = 1 then K (hsR h6 o k (some h.1)) else none) = K h2 := by
  rw [e5, nI_clamp (by omega), eN, if_neg (nlt2 hn hN4), ob]
  have tb : hT (hnew h 20 n (fun j => if j < n then hI h c j else 0)) o = 1 := (hT_Wn ho).trans ht
  rw [if_pos tb, eh]
def NS (g h : HS) (q sz : Nat) : Prop := FR [31] [] nD g h ∧ h.1 = q ∧ h.2.1 = sz ∧ (∀ x, x < g.1 → hI h x = hI g x ∧ hN h x = hN g x) ∧ hT h g.1 = 1
def NA (h2 : HS) (o q n k : Nat) (f : Nat → Int32) : Prop := (hI h2 q = f ∧ hT h2 q = 20 ∧ hN h2 q = n) ∧ hR h2 o k = some q
def NK (h h2 : HS) (o q k : Nat) : Prop := (∀ x, ¬ x = q → hI h2 x = hI h x ∧ hT h2 x = hT h x ∧ hN h2 x = hN h x) ∧ ∀ x j, ¬ x = q → ¬ j = k → hR h2 x j = hR h x j
theorem NSx {h h2 : HS} {c k q n sz : Nat} (S : NS g h q sz) (hq : g.1 < q) (hc : c < g.1) (eh : hsR (hnew h 20 n (fun j => if j < n then hI h c j else 0)) g.1 k (some h.1) = h2) : NS g h2 (q + 1) (sz + n) ∧ NA h2 g.1 q n k (cpy (hI g c) n) ∧ NK h h2 g.1 q k := by
  obtain ⟨f, e1, e2, r, t⟩ := S
  rw [(r c hc).1] at eh
  obtain ⟨a1, a2, a3, a4, a5⟩ := exA eh
  have fh : FR [31] [] nD g h2 := by rw [← eh]; exact (f.nw).sR (Or.inr (Or.inr (Nat.le_refl _)))
  have sz2 : h2.2.1 = sz + n := by rw [← eh, ← e2]; exact Eq.trans rfl rfl
  rw [e1] at a1 a2 a3 a4 a5
  exact ⟨⟨fh, a1, sz2, fun x hx => ⟨((a2 x (by omega)).1).trans (r x hx).1, ((a2 x (by omega)).2.2).trans (r x hx).2⟩, ((a2 g.1 (by omega)).2.1).trans t⟩, ⟨a3, a4⟩, a2, a5⟩
theorem p24E (w : 160 ≤ g.1) {cc n : Nat} (hcc : hI g 61 5 = nI cc) (hc : cc ≤ 12) (e6 : hI g 61 6 = nI n) (hn : n ≤ 400) (N : hN g 62 = 12 ∧ hN g 63 = 12 ∧ hN g 64 = 12 ∧ hN g 65 = 400) {h1 : HS} (S1 : NS g h1 (g.1 + 2) (g.2.1 + 87)) : ∃ h2 h3 h4 h5, p24a F g.1 a0 h1 = p24_L82 F g.1 a0 F h5 0 0 ∧ NS g h5 (g.1 + 6) (g.2.1 + 87 + cc + cc + cc + n) ∧ (NA h2 g.1 (g.1 + 2) cc 3 (cpy (hI g 62) cc) ∧ NK h1 h2 g.1 (g.1 + 2) 3) ∧ (NA h3 g.1 (g.1 + 3) cc 2 (cpy (hI g 63) cc) ∧ NK h2 h3 g.1 (g.1 + 3) 2) ∧ (NA h4 g.1 (g.1 + 4) cc 4 (cpy (hI g 64) cc) ∧ NK h3 h4 g.1 (g.1 + 4) 4) ∧ NA h5 g.1 (g.1 + 5) n 5 (cpy (hI g 65) n) ∧ NK h4 h5 g.1 (g.1 + 5) 5 := by
  obtain ⟨N2, N3, N4, N5⟩ := N
  have hx : ∀ c, c < 160 → c < g.1 := fun c z => by omega
  have st : ∀ (h : HS) (c k q sz : Nat), NS g h q sz → g.1 < q → c < 160 → ∃ h2, hsR (hnew h 20 cc (fun j => if j < cc then hI h c j else 0)) g.1 k (some h.1) = h2 ∧ NS g h2 (q + 1) (sz + cc) ∧ NA h2 g.1 q cc k (cpy (hI g c) cc) ∧ NK h h2 g.1 q k := fun h c k q sz S hq hc => ⟨_, rfl, NSx S hq (hx c hc) rfl⟩
  obtain ⟨h2, eh2, S2, A2, K2⟩ := st h1 62 3 (g.1 + 2) (g.2.1 + 87) S1 (by omega) (by decide)
  have z1 : p24a F g.1 a0 h1 = p24b F g.1 a0 h2 := p24x (K := p24b F g.1 a0) ((congrFun (S1.2.2.2.1 61 (by omega)).1 5).trans hcc) hc (by decide) ((S1.2.2.2.1 62 (by omega)).2.trans N2) (by have := S1.2.1; omega) S1.2.2.2.2 eh2
  obtain ⟨h3, eh3, S3, A3, K3⟩ := st h2 63 2 (g.1 + 3) _ S2 (by omega) (by decide)
  have z2 : p24b F g.1 a0 h2 = Option.bind (some h3) fun h15 => p24c F g.1 a0 h15 := p24x (K := fun h => Option.bind (some h) fun h15 => p24c F g.1 a0 h15) ((congrFun (S2.2.2.2.1 61 (by omega)).1 5).trans hcc) hc (by decide) ((S2.2.2.2.1 63 (by omega)).2.trans N3) (by have := S2.2.1; omega) S2.2.2.2.2 eh3
  obtain ⟨h4, eh4, S4, A4, K4⟩ := st h3 64 4 (g.1 + 4) _ S3 (by omega) (by decide)
  have z3 : p24c F g.1 a0 h3 = p24d F g.1 a0 h4 := p24x (K := p24d F g.1 a0) ((congrFun (S3.2.2.2.1 61 (by omega)).1 5).trans hcc) hc (by decide) ((S3.2.2.2.1 64 (by omega)).2.trans N4) (by have := S3.2.1; omega) S3.2.2.2.2 eh4
  obtain ⟨h5, eh5, S5, A5, K5⟩ : ∃ h5, hsR (hnew h4 20 n (fun j => if j < n then hI h4 65 j else 0)) g.1 5 (some h4.1) = h5 ∧ NS g h5 (g.1 + 5 + 1) (g.2.1 + 87 + cc + cc + cc + n) ∧ NA h5 g.1 (g.1 + 5) n 5 (cpy (hI g 65) n) ∧ NK h4 h5 g.1 (g.1 + 5) 5 := ⟨_, rfl, NSx S4 (by omega) (by omega) rfl⟩
  have z4 : p24d F g.1 a0 h4 = p24_L82 F g.1 a0 F h5 0 0 := p24x (K := fun h => p24_L82 F g.1 a0 F h 0 0) ((congrFun (S4.2.2.2.1 61 (by omega)).1 6).trans e6) hn (by decide) ((S4.2.2.2.1 65 (by omega)).2.trans N5) (by have := S4.2.1; omega) S4.2.2.2.2 eh5
  exact ⟨h2, h3, h4, h5, by rw [z1, z2, ob, z3, z4], S5, ⟨A2, K2⟩, ⟨A3, K3⟩, ⟨A4, K4⟩, A5, K5⟩
end NLW
