/-! need; findings that stand -/
def OFc (s : SS) (h : HS) : Prop := (∀ i, i < s 0 11 → ∃ q c t g, q < s 0 4 ∧ c < s 0 6 ∧ t ≤ 3999 ∧ okDy g 3999 ∧ hI h 149 i = nI q ∧ hI h 150 i = nI c ∧ hI h 151 i = nI t ∧ hI h 152 i = nI g ∧ hI h 72 i = nI (dC g) ∧ (hI h 153 i = 0 → g = 100000)) ∧ ∀ q, q < s 0 4 → hI h 101 q = -1 ∨ ∃ f, f < s 0 11 ∧ hI h 101 q = nI f
def wNd (s : SS) (c d k : Nat) : Int64 := if k = 8 then lN (nR s c d) else if k = 9 then lN (nB s c d) else if k = 10 then lN d else 0
def ncl (s : SS) (c d l : Nat) : Nat := fsN (fcl s (wNd s c d) l 1) (s 45 l)
def ndV (s : SS) (c d : Nat) : Nat := match ifN s d (s 0 9) with
  | none => 99
  | some l => if ncl s c d l < s 45 l then s (1300 + l) (ncl s c d l) else 99
section NED
variable {s : SS} {h : HS}
theorem ncl_k {c d l : Nat} (z : ncl s c d l < s 45 l) : s (1200 + l) (ncl s c d l) = 1 := by
  have := (fsN_spec (P := fcl s (wNd s c d) l 1) (n := s 45 l)).1 z
  unfold fcl at this
  rw [Bool.and_eq_true] at this
  exact of_decide_eq_true this.1
theorem ndC (E : EV s h) (L : LWc s h) {c d : Nat} (hc : c < 2147483648) (hd : d ≤ 3999) {F : Nat} (hF : 1000 ≤ F) : ∃ g, FR ruW [] (stk s) h g ∧ p184 F h (nI c) (nI d) = some (nI (ndV s c d), g) := by
  have w := E.w.1
  have b9 := E.cn.b9
  have b7 := E.cn.b7
  have b8 := E.cn.b8
  obtain ⟨l3, l4, l5, l6, l7, l10, l0, l1, l2⟩ := c_lit
  unfold p184 p176
  rw [inC E L hd (by omega), ob]
  cases hf : ifN s d (s 0 9) with
  | none =>
    refine ⟨h, FR.rf (stk160 L), ?_⟩
    have : ndV s c d = 99 := by unfold ndV; rw [hf]
    rw [this, show oI none = -1 from rfl, if_pos rfl, ob, if_pos rfl]
    rfl
  | some l =>
    have hl := ifN_lt _ _ hf
    obtain ⟨A, B, C, T⟩ := L.1 l hl
    have a9 := A.2.2.2.2.2.2.2.2.1
    have t85 : hT h 85 = 23 := E.w.t 85 (by decide)
    have n85 : hN h 85 = 11 := E.w.n 85 (by decide)
    obtain ⟨g0, f0, e0, hg0⟩ := fillG (a := 85) (N := 11) (F := F) (x := 0) (by decide) (by decide) t85 n85 11 0 F h (by omega) (by omega) (FR.rf nD160) w (fun k z => by omega)
    have e0' : p311 F h (some 85) 0 = some g0 := by
      unfold p311
      rw [ob, if_pos t85, n85]
      exact e0
    have E0 : EV s g0 := E.fr f0 (by decide) evD_n
    have f1 : FR [85] [] nD h (hsL g0 85 8 (lN (nR s c d))) := f0.sL (Or.inl (by decide))
    have E1 : EV s (hsL g0 85 8 (lN (nR s c d))) := E.fr f1 (by decide) evD_n
    have f2 : FR [85] [] nD h (hsL (hsL (hsL g0 85 8 (lN (nR s c d))) 85 9 (lN (nB s c d))) 85 10 (lN d)) := (f1.sL (Or.inl (by decide))).sL (Or.inl (by decide))
    have r2 : FR ruW [] (stk s) h (hsL (hsL (hsL g0 85 8 (lN (nR s c d))) 85 9 (lN (nB s c d))) 85 10 (lN d)) := ru85 L f2
    have E2 := E.fr f2 (by decide) evD_n
    have L2 : LWc s (hsL (hsL (hsL g0 85 8 (lN (nR s c d))) 85 9 (lN (nB s c d))) 85 10 (lN d)) := L.fr w f2 (by decide) (fun _ _ _ _ _ => id)
    have v2 : ∀ k, k < 11 → hL (hsL (hsL (hsL g0 85 8 (lN (nR s c d))) 85 9 (lN (nB s c d))) 85 10 (lN d)) 85 k = wNd s c d k := fun k hk => by
      rw [hL_s, hL_s, hL_s]
      unfold wNd
      by_cases k10 : k = 10
      · subst k10; rw [u1_eq]; rfl
      rw [u1_ne k10]
      by_cases k9 : k = 9
      · subst k9; rw [u1_eq]; rfl
      rw [u1_ne k9]
      by_cases k8 : k = 8
      · subst k8; rw [u1_eq]; rfl
      rw [u1_ne k8, hg0 k hk, if_neg k8, if_neg k9, if_neg k10]
    have m1 : nR s c d ≤ s 0 7 := cnt_le _ _
    have m2 : nB s c d ≤ s 0 8 := cnt_le _ _
    rw [show oI (some l) = nI l from rfl, if_neg (fun z => by have := m1_nI (n := l) (by omega); rw [this] at z; exact z), if_neg (nI_in (by omega) (by decide)), nI_clamp (by omega), A.1, ob, if_neg (by intro z; cases z), ob, e0', ob, nRC E0 hc hd hF, ob, if_neg (g11 8 (by decide)), show (8 : Int32).toNatClampNeg = 8 from rfl, nI_l (by omega), nBC E1 hc hd hF, ob, if_neg (g11 9 (by decide)), show (9 : Int32).toNatClampNeg = 9 from rfl, nI_l (by omega), ob, if_neg (g11 10 (by decide)), l10, nI_l (by omega)]
    have t2 := E2.w.t 85 (by decide)
    have n2 := E2.w.n 85 (by decide)
    generalize hsL (hsL (hsL g0 85 8 (lN (nR s c d))) 85 9 (lN (nB s c d))) 85 10 (lN d) = g2 at *
    obtain ⟨g3, f3, e3⟩ := ftC E2 L2 hl (kd := 1) (by decide) ⟨t2, n2⟩ v2 hF (s 45 l) 0 F g2 (by omega) (by omega) (FR.rf (fun y z => by have := A.2.2.1.1; omega)) (fun j z => absurd z (Nat.not_lt_zero j))
    have e4 : p25 F g2 (s 34 l) 10022 (some 85) = some (opI (s 45 l) (ncl s c d l), g3) := e3
    have L3 : LWc s g3 := L2.fr E2.w.1 (ruS L2 hl f3) (by decide) (stk_lw L2)
    obtain ⟨A3, B3, C3, -⟩ := L3.1 l hl
    obtain ⟨r6', r3', r2', r4', r5', t1', t2', t3', t4', t5'⟩ := B3
    have ev : ndV s c d = if ncl s c d l < s 45 l then s (1300 + l) (ncl s c d l) else 99 := by unfold ndV; rw [hf]
    refine ⟨g3, r2.tr (ruS L2 hl f3), ?_⟩
    rw [if_pos (L2.1 l hl).1.2.1, e4, ob, ev]
    unfold opI
    by_cases z : ncl s c d l < s 45 l
    · obtain ⟨c1, c2, c3, c4, -⟩ := C3 _ z
      have k1 := ncl_k z
      rw [if_pos z, if_pos z, if_neg (fun y => by have := m1_nI (n := ncl s c d l) (by omega); rw [this] at y; exact y), if_pos A3.2.1, r2', ob, if_pos t3'.1, t3'.2, if_neg (nI_in z (by omega)), nI_clamp (by omega), (c4 (by omega)).1]
    · rw [if_neg z, if_neg z, if_pos rfl]
      rfl
theorem ndM (E : EV s h) (L : LWc s h) {c d : Nat} (hc : c < 2147483648) (hd : d ≤ 3999) {F : Nat} (hF : 1000 ≤ F) : ∃ g, FR ruW [] (stk s) h g ∧ p293 F h (nI c) (nI d) = some (nI (ndV s c d), g) := by
  have w := E.w.1
  have b9 := E.cn.b9
  have b7 := E.cn.b7
  have b8 := E.cn.b8
  obtain ⟨l3, l4, l5, l6, l7, l10, l0, l1, l2⟩ := c_lit
  obtain ⟨g0, f0, e0, hg0⟩ := fillM (F := F) (a := nI d) 11 0 F h (by omega) (by omega) (FR.rf nD160) (fun k z => by omega)
  have e0' : p270 F h (nI d) = some (hsL g0 137 10 (nI d).toInt64) := e0
  have f1 : FR [137] [] nD h (hsL g0 137 10 (nI d).toInt64) := f0.sL (Or.inl (by decide))
  have E1 := E.fr f1 (by decide) evD_n
  have f2 : FR [137] [] nD h (hsL (hsL g0 137 10 (nI d).toInt64) 137 8 (lN (nR s c d))) := f1.sL (Or.inl (by decide))
  have E2 := E.fr f2 (by decide) evD_n
  have f3 : FR [137] [] nD h (hsL (hsL (hsL g0 137 10 (nI d).toInt64) 137 8 (lN (nR s c d))) 137 9 (lN (nB s c d))) := f2.sL (Or.inl (by decide))
  have E3 := E.fr f3 (by decide) evD_n
  have L3 : LWc s (hsL (hsL (hsL g0 137 10 (nI d).toInt64) 137 8 (lN (nR s c d))) 137 9 (lN (nB s c d))) := L.fr w f3 (by decide) (fun _ _ _ _ _ => id)
  have m1 : nR s c d ≤ s 0 7 := cnt_le _ _
  have m2 : nB s c d ≤ s 0 8 := cnt_le _ _
  have v3 : ∀ k, k < 11 → hL (hsL (hsL (hsL g0 137 10 (nI d).toInt64) 137 8 (lN (nR s c d))) 137 9 (lN (nB s c d))) 137 k = wNd s c d k := fun k hk => by
    rw [hL_s, hL_s, hL_s]
    unfold wNd
    by_cases k9 : k = 9
    · subst k9; rw [u1_eq]; rfl
    rw [u1_ne k9]
    by_cases k8 : k = 8
    · subst k8; rw [u1_eq]; rfl
    rw [u1_ne k8]
    by_cases k10 : k = 10
    · subst k10; rw [u1_eq, nI_l (by omega)]; rfl
    rw [u1_ne k10, hg0 k hk, if_neg k8, if_neg k9, if_neg k10]
  unfold p293
  rw [e0', ob, nRM E1 hc hd hF, ob, if_neg (g11 8 (by decide)), show (8 : Int32).toNatClampNeg = 8 from rfl, nI_l (n := nR s c d) (by omega), nBM E2 hc hd hF, ob, if_neg (g11 9 (by decide)), show (9 : Int32).toNatClampNeg = 9 from rfl, nI_l (n := nB s c d) (by omega), ob, inM E3 L3 hd (by omega), ob]
  generalize hsL (hsL (hsL g0 137 10 (nI d).toInt64) 137 8 (lN (nR s c d))) 137 9 (lN (nB s c d)) = g3 at *
  unfold p274
  cases hf : ifN s d (s 0 9) with
  | none =>
    refine ⟨g3, ru137 L f3, ?_⟩
    have : ndV s c d = 99 := by unfold ndV; rw [hf]
    obtain ⟨F', rfl⟩ : ∃ F', F = F' + 1 := ⟨F - 1, by omega⟩
    rw [this, p274_L2, show oI none = -1 from rfl, if_pos rfl, ob, if_pos rfl]
    rfl
  | some l =>
    have hl := ifN_lt _ _ hf
    have c12 := (L.1 l hl).1.2.2.2.2.2.2.2.2.1
    obtain ⟨g4, f4, e6⟩ := ftM E3 L3 hl (kd := 1) (ws := wNd s c d) (by decide) v3 hF (s 45 l) 0 F g3 (by omega) (by omega) (FR.rf nD160) (fun j z => absurd z (Nat.not_lt_zero j))
    have L4 : LWc s g4 := L3.fr E3.w.1 f4 (by decide) (fun _ _ _ _ _ => id)
    refine ⟨g4, (ru137 L f3).tr ((ru136 L3 f4)), ?_⟩
    have ev : ndV s c d = if ncl s c d l < s 45 l then s (1300 + l) (ncl s c d l) else 99 := by unfold ndV; rw [hf]
    have e7 : p274_L2 F (nI l) 1 F g3 0 = some (opL l (s 45 l) (ncl s c d l), g4) := e6
    rw [show oI (some l) = nI l from rfl, e7, ob, ev]
    unfold opL
    by_cases z : ncl s c d l < s 45 l
    · obtain ⟨A4, B4, C4, -⟩ := L4.1 l hl
      obtain ⟨c1, c2, c3, c4, -⟩ := C4 _ z
      have k1 := ncl_k z
      rw [if_pos z, if_pos z, if_neg (fun y => by have := m1_nI (n := 12 * l + ncl s c d l) (by omega); rw [this] at y; exact y), if_neg (nI_in (by omega) (by decide)), nI_clamp (by omega), (c4 (by omega)).2.1]
    · rw [if_neg z, if_neg z, if_pos rfl]
      rfl
theorem ndV_le (L : LWc s h) (c d : Nat) : ndV s c d ≤ 99 := by
  unfold ndV
  cases hf : ifN s d (s 0 9) with
  | none => exact Nat.le_refl _
  | some l =>
    have hl := ifN_lt _ _ hf
    show (if _ then _ else _) ≤ 99
    by_cases z : ncl s c d l < s 45 l
    · rw [if_pos z]
      obtain ⟨A, B, C, T⟩ := L.1 l hl
      obtain ⟨c1, c2, c3, c4, -⟩ := C _ z
      have k1 := ncl_k z
      exact (c4 (by omega)).2.2.1
    · rw [if_neg z]; exact Nat.le_refl _
theorem w_need (E : EV s h) (L : LWc s h) {F : Nat} (hF : 1000 ≤ F) (a b : Int32) : ∃ v h1 h2, p157 F h a b = some (v, h1) ∧ p294 F h1 a b = some (v, h2) ∧ FR ruW [] (stk s) h h2 := by
  have c6 := E.cn.b6
  have no : ∀ v, p157 F h a b = some (v, h) → p294 F h a b = some (v, h) → ∃ v h1 h2, p157 F h a b = some (v, h1) ∧ p294 F h1 a b = some (v, h2) ∧ FR ruW [] (stk s) h h2 := fun v e1 e2 => ⟨v, h, h, e1, e2, FR.rf (stk160 L)⟩
  rcases ixc a (s 0 6) (by omega) with ⟨h1, h2, -⟩ | ⟨c, hc, rfl, h1, h2⟩
  · refine no (-1) ?_ ?_
    · unfold p157 p2
      rw [E.cn.c6, h1]; rfl
    · unfold p294 p218
      rw [E.cn.m6, h2]; rfl
  · rcases dayc b with ⟨h3, h4⟩ | ⟨d, hd, rfl, h3, h4⟩
    · refine no (-1) ?_ ?_
      · unfold p157 p2 p167
        rw [E.cn.c6, h1, h3]; rfl
      · unfold p294 p218 p188
        rw [E.cn.m6, h2, h4]; rfl
    · obtain ⟨g, fg, eg⟩ := ndC E L (c := c) (by omega) hd hF
      have E1 : EV s g := E.fr fg (by decide) (stk_evD E L)
      have L1 : LWc s g := L.fr E.w.1 fg (by decide) (stk_lw L)
      obtain ⟨g2, fg2, eg2⟩ := ndM E1 L1 (c := c) (by omega) hd hF
      refine ⟨nI (ndV s c d), g, g2, ?_, ?_, fg.tr fg2⟩
      · unfold p157 p2 p167
        rw [E.cn.c6, h1, ob, if_pos (Or.inr rfl), ob, if_neg n10, h3, ob, if_pos (Or.inr rfl), ob, if_neg n10, eg, ob]
      · unfold p294 p218 p188
        rw [E1.cn.m6, h2, ob, if_pos (Or.inr rfl), ob, if_neg n10, h4, ob, if_pos (Or.inr rfl), ob, if_neg n10, eg2, ob]
end NED
