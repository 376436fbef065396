/-! words of a reader and a sheet; turn -/
def wRd (s : SS) (h : HS) (r i : Nat) (j : Nat) : Int64 := if j = 3 then (nI (s 0 0) - nI (s 1 i)).toInt64 else if j = 4 then (nI (s 5 i)).toInt64 else if j = 5 then (if hI h 145 r = 0 then 0 else 1) else if j = 6 then (if hI h 142 r = -1 then 0 else (nI (s 0 0) - hI h 143 r).toInt64) else if j = 7 then (if hI h 142 r = -1 then (hI h 144 r).toInt64 else (hI h 144 r - 1).toInt64) else if j = 10 then (nI (s 0 0)).toInt64 else 0
theorem hL_s (h : HS) (a k : Nat) (v : Int64) : hL (hsL h a k v) a = u1 (hL h a) k v := by
  funext y
  show u2 (hL h) a k v a y = _
  exact u2_u
section WRD
variable {s : SS} {h : HS}
theorem fillG {a N : Nat} {F : Nat} {x : Int64} (ha : a < 160) (hN2 : N < 1000) (ht : hT h a = 23) (hn : hN h a = N) : ∀ (m i n : Nat) (g : HS), i + m = N → m < n → FR [a] [] nD h g → 160 ≤ h.1 → (∀ k, k < i → hL g a k = x) → ∃ g', FR [a] [] nD h g' ∧ p311_L6 F (some a) x n g (nI i) (nI N) = some g' ∧ ∀ k, k < N → hL g' a k = x := by
  intro m
  induction m with
  | zero =>
    intro i n g hi hn fg w hk
    obtain ⟨n, rfl⟩ : ∃ n', n = n' + 1 := ⟨n - 1, by omega⟩
    have e : i = N := by omega
    subst e
    rw [p311_L6, if_neg Int32.lt_irrefl]
    exact ⟨g, fg, rfl, hk⟩
  | succ m ih =>
    intro i n g hi hn2 fg w hk
    obtain ⟨n, rfl⟩ : ∃ n', n = n' + 1 := ⟨n - 1, by omega⟩
    have t2 : hT g a = 23 := (fg.T (by omega)).trans ht
    have n2 : hN g a = N := (fg.N (by omega)).trans hn
    rw [p311_L6, if_pos (nI_lt (by omega) (by omega)), ob, if_pos t2, n2, if_neg (nI_in (by omega) (by omega)), nI_clamp (by omega), nI_1]
    refine ih (i + 1) n _ (by omega) (by omega) (fg.sL (Or.inl (List.mem_singleton.mpr rfl))) w (fun k hk2 => ?_)
    rw [hL_s]
    by_cases e : k = i
    · subst e
      exact u1_eq _ _ _
    · rw [u1_ne e]
      exact hk k (by omega)
theorem c_lit : (3 : Int32).toNatClampNeg = 3 ∧ (4 : Int32).toNatClampNeg = 4 ∧ (5 : Int32).toNatClampNeg = 5 ∧ (6 : Int32).toNatClampNeg = 6 ∧ (7 : Int32).toNatClampNeg = 7 ∧ (10 : Int32).toNatClampNeg = 10 ∧ (0 : Int32).toNatClampNeg = 0 ∧ (1 : Int32).toNatClampNeg = 1 ∧ (2 : Int32).toNatClampNeg = 2 := by decide
theorem g11 : ∀ k : Int32, k = 0 ∨ k = 1 ∨ k = 2 ∨ k = 3 ∨ k = 4 ∨ k = 5 ∨ k = 6 ∨ k = 7 ∨ k = 8 ∨ k = 9 ∨ k = 10 → ¬ (k < 0 ∨ 11 ≤ k.toNatClampNeg) := by rintro k (rfl | rfl | rfl | rfl | rfl | rfl | rfl | rfl | rfl | rfl | rfl) <;> decide
/-- the class's words of a reader and a sheet -/
theorem rdwC (E : EV s h) (R : RDc s h) {r i : Nat} (hr : r < s 0 10) (hi : i < s 0 3) {F : Nat} (hF : 1000 ≤ F) : ∃ g, FR [85] [] nD h g ∧ p178 F h (some (s 35 r)) (some (s 30 i)) = some g ∧ ∀ j, j < 11 → hL g 85 j = wRd s h r i j := by
  have w := E.w.1
  have t85 : hT h 85 = 23 := E.w.t 85 (by decide)
  have n85 : hN h 85 = 11 := E.w.n 85 (by decide)
  obtain ⟨l3, l4, l5, l6, l7, l10, l0, -, -⟩ := c_lit
  obtain ⟨g0, f0, e0, hg0⟩ := fillG (a := 85) (N := 11) (F := F) (x := 0) (by decide) (by decide) t85 n85 11 0 F h (by omega) (by omega) (FR.rf nD160) w (fun k z => by omega)
  obtain ⟨r1, r2, r3, r4, r5, r6, r7, r8⟩ := R.1 r hr
  have E0 : EV s g0 := E.fr f0 (by decide) evD_n
  have R0 : RDc s g0 := R.fr w f0 (by decide) (fun _ _ z => z) rfl rfl (Nat.le_refl _) (Nat.le_refl _) (fun _ _ => rfl)
  have k2 : hI g0 142 = hI h 142 := f0.fA w 142 (by decide)
  have k3 : hI g0 143 = hI h 143 := f0.fA w 143 (by decide)
  have k4 : hI g0 144 = hI h 144 := f0.fA w 144 (by decide)
  have k5 : hI g0 145 = hI h 145 := f0.fA w 145 (by decide)
  obtain ⟨q1, q2, q3, q4, q5, q6, q7, q8⟩ := R0.1 r hr
  have e0' : p311 F h (some 85) 0 = some g0 := by
    unfold p311
    rw [ob, if_pos t85, n85]
    exact e0
  have y5 : hI h 145 r = 0 ∨ hI h 145 r = 1 := r5.2
  unfold p178
  rw [e0', ob, ob, if_pos (E0.sh.t hi), if_neg (g11 3 (by decide)), if_neg (g11 4 (by decide)), l3, l4, ob, ob]
  have x0 : hI g0 32 0 = nI (s 0 0) := E0.cn.c0
  have x1 : hI g0 (s 30 i) 1 = nI (s 1 i) := E0.sh.f1 hi
  have x7 : hI g0 (s 30 i) 7 = nI (s 5 i) := E0.sh.f7 hi
  have fin : ∀ v5 v6 v7 : Int64, v5 = wRd s h r i 5 → v6 = wRd s h r i 6 → v7 = wRd s h r i 7 → ∃ g, FR [85] [] nD h g ∧ (hsL (hsL (hsL (hsL (hsL (hsL g0 85 3 (nI (s 0 0) - nI (s 1 i)).toInt64) 85 4 (nI (s 5 i)).toInt64) 85 5 v5) 85 6 v6) 85 7 v7) 85 10 (nI (s 0 0)).toInt64) = g ∧ ∀ j, j < 11 → hL g 85 j = wRd s h r i j := fun v5 v6 v7 h5 h6 h7 => by
    refine ⟨_, ((((((f0.sL (Or.inl (by decide))).sL (Or.inl (by decide))).sL (Or.inl (by decide))).sL (Or.inl (by decide))).sL (Or.inl (by decide))).sL (Or.inl (by decide))), rfl, fun j hj => ?_⟩
    rw [hL_s, hL_s, hL_s, hL_s, hL_s, hL_s]
    by_cases j10 : j = 10
    · subst j10; rw [u1_eq]; rfl
    rw [u1_ne j10]
    by_cases j7 : j = 7
    · subst j7; rw [u1_eq, h7]
    rw [u1_ne j7]
    by_cases j6 : j = 6
    · subst j6; rw [u1_eq, h6]
    rw [u1_ne j6]
    by_cases j5 : j = 5
    · subst j5; rw [u1_eq, h5]
    rw [u1_ne j5]
    by_cases j4 : j = 4
    · subst j4; rw [u1_eq]; rfl
    rw [u1_ne j4]
    by_cases j3 : j = 3
    · subst j3; rw [u1_eq]; rfl
    rw [u1_ne j3, hg0 j hj]
    unfold wRd
    rw [if_neg j3, if_neg j4, if_neg j5, if_neg j6, if_neg j7, if_neg j10]
  have e7 : wRd s h r i 7 = (if hI h 142 r = -1 then (hI h 144 r).toInt64 else (hI h 144 r - 1).toInt64) := rfl
  have e6 : wRd s h r i 6 = (if hI h 142 r = -1 then 0 else (nI (s 0 0) - hI h 143 r).toInt64) := rfl
  have e5 : wRd s h r i 5 = (if hI h 145 r = 0 then 0 else 1) := rfl
  -- what is read of the heaps on the way
  have rdT : ∀ (k : Nat) (v : Int64) (g : HS), hT (hsL g 85 k v) = hT g := fun k v g => Eq.trans rfl rfl
  have rdI : ∀ (k : Nat) (v : Int64) (g : HS), hI (hsL g 85 k v) = hI g := fun k v g => Eq.trans rfl rfl
  have rdR : ∀ (k : Nat) (v : Int64) (g : HS), hR (hsL g 85 k v) = hR g := fun k v g => Eq.trans rfl rfl
  have j109 : ∀ (g : HS) (v : Int64), hI g 32 0 = nI (s 0 0) → p178_j109 F (some (s 35 r)) (some (s 30 i)) g v 7 = some (hsL (hsL g 85 7 v) 85 10 (nI (s 0 0)).toInt64) := fun g v hg => by
    unfold p178_j109
    rw [if_neg (g11 7 (by decide)), if_neg (g11 10 (by decide)), l7, l10, rdI, hg, ob]
  have j80 : ∀ (g : HS) (v : Int64), hI g 32 0 = nI (s 0 0) → hT g (s 35 r) = 6 → hR g (s 35 r) 2 = hR g0 (s 35 r) 2 → hI g (s 35 r) 4 = hI h 144 r → p178_j80 F (some (s 35 r)) (some (s 30 i)) g v 6 = some (hsL (hsL (hsL g 85 6 v) 85 7 (wRd s h r i 7)) 85 10 (nI (s 0 0)).toInt64) := fun g v hg ht hr2 h4 => by
    unfold p178_j80
    rw [if_neg (g11 6 (by decide)), l6, ob, rdT, rdR, rdI, if_pos ht, hr2, h4]
    rcases q6 with ⟨p1, p2⟩ | ⟨k, hk, p1, p2⟩
    · rw [p2, if_pos rfl, j109 _ _ (by rw [rdI]; exact hg), e7, if_pos (by rw [← k2]; exact p1)]
    · have nz : ¬ hI h 142 r = -1 := fun z => by rw [← k2, p1] at z; have b3 := E.cn.b3; have := m1_nI (n := k) (by omega); rw [this] at z; exact z
      rw [p2, if_neg (by intro z; cases z), ob, j109 _ _ (by rw [rdI]; exact hg), e7, if_neg nz]
  have j52 : ∀ (g : HS) (v : Int64), hI g 32 0 = nI (s 0 0) → hT g (s 35 r) = 6 → hR g (s 35 r) 2 = hR g0 (s 35 r) 2 → hI g (s 35 r) 4 = hI h 144 r → hI g (s 35 r) 3 = hI h 143 r → p178_j52 F (some (s 35 r)) (some (s 30 i)) g v 5 = some (hsL (hsL (hsL (hsL g 85 5 v) 85 6 (wRd s h r i 6)) 85 7 (wRd s h r i 7)) 85 10 (nI (s 0 0)).toInt64) := fun g v hg ht hr2 h4 h3 => by
    unfold p178_j52
    rw [if_neg (g11 5 (by decide)), l5, ob, rdT, rdR, rdI, if_pos ht, hr2, hg, h3]
    rcases q6 with ⟨p1, p2⟩ | ⟨k, hk, p1, p2⟩
    · rw [p2, if_pos rfl, j80 _ _ (by rw [rdI]; exact hg) (by rw [rdT]; exact ht) (by rw [rdR]; exact hr2) (by rw [rdI]; exact h4), e6, if_pos (by rw [← k2]; exact p1)]
    · have nz : ¬ hI h 142 r = -1 := fun z => by rw [← k2, p1] at z; have b3 := E.cn.b3; have := m1_nI (n := k) (by omega); rw [this] at z; exact z
      rw [p2, if_neg (by intro z; cases z), ob, j80 _ _ (by rw [rdI]; exact hg) (by rw [rdT]; exact ht) (by rw [rdR]; exact hr2) (by rw [rdI]; exact h4), e6, if_neg nz]
  simp only [rdI, rdT, x0, x1, x7]
  rw [if_pos q2, q5.1, k5]
  have m52 : ∀ v, p178_j52 F (some (s 35 r)) (some (s 30 i)) (hsL (hsL g0 85 3 (nI (s 0 0) - nI (s 1 i)).toInt64) 85 4 (nI (s 5 i)).toInt64) v 5 = some (hsL (hsL (hsL (hsL (hsL (hsL g0 85 3 (nI (s 0 0) - nI (s 1 i)).toInt64) 85 4 (nI (s 5 i)).toInt64) 85 5 v) 85 6 (wRd s h r i 6)) 85 7 (wRd s h r i 7)) 85 10 (nI (s 0 0)).toInt64) := fun v =>
    j52 _ v (by rw [rdI, rdI]; exact x0) (by rw [rdT, rdT]; exact q2) (by rw [rdR, rdR]) (by rw [rdI, rdI, q8, k4]) (by rw [rdI, rdI, q7.1, k3])
  rcases y5 with z | z
  · obtain ⟨g, fg, eg, hg⟩ := fin 0 _ _ (by rw [e5, if_pos z]) rfl rfl
    refine ⟨g, fg, ?_, hg⟩
    rw [if_pos z, m52, eg]
  · have nz : ¬ hI h 145 r = 0 := by rw [z]; decide
    obtain ⟨g, fg, eg, hg⟩ := fin 1 _ _ (by rw [e5, if_neg nz]) rfl rfl
    refine ⟨g, fg, ?_, hg⟩
    rw [if_neg nz, m52, eg]
theorem fillM {F : Nat} {a : Int32} : ∀ (m i n : Nat) (g : HS), i + m = 11 → m < n → FR [137] [] nD h g → (∀ k, k < i → hL g 137 k = 0) → ∃ g', FR [137] [] nD h g' ∧ p270_L2 F a n g (nI i) = some (hsL g' 137 10 a.toInt64) ∧ ∀ k, k < 11 → hL g' 137 k = 0 := by
  obtain ⟨l3, l4, l5, l6, l7, l10, l0, -, -⟩ := c_lit
  intro m
  induction m with
  | zero =>
    intro i n g hi hn fg hk
    obtain ⟨n, rfl⟩ : ∃ n', n = n' + 1 := ⟨n - 1, by omega⟩
    have e : i = 11 := by omega
    subst e
    rw [p270_L2, if_neg (by decide), if_neg (g11 10 (by decide)), l10]
    exact ⟨g, fg, rfl, hk⟩
  | succ m ih =>
    intro i n g hi hn2 fg hk
    obtain ⟨n, rfl⟩ : ∃ n', n = n' + 1 := ⟨n - 1, by omega⟩
    rw [p270_L2, if_pos (show nI i < (11 : Int32) from nI_lt (b := 11) (by omega) (by decide)), if_neg (nI_in (by omega) (by omega)), nI_clamp (by omega), nI_1]
    refine ih (i + 1) n _ (by omega) (by omega) (fg.sL (Or.inl (by decide))) (fun k hk2 => ?_)
    rw [hL_s]
    by_cases e : k = i
    · subst e
      exact u1_eq _ _ _
    · rw [u1_ne e]
      exact hk k (by omega)
/-- the model's words of a reader, then of a sheet -/
theorem rdwM (E : EV s h) (R : RDm s h) {r i : Nat} (hr : r < s 0 10) (hi : i < s 0 3) {F : Nat} (hF : 1000 ≤ F) : ∃ g1 g2 g, FR [137] [] nD h g ∧ FR [137] [] nD h g2 ∧ p270 F h (nI (s 0 0)) = some g1 ∧ p279 g1 (nI r) = some g2 ∧ p280 g2 (nI i) = some g ∧ ∀ j, j < 11 → hL g 137 j = wRd s h r i j := by
  have w := E.w.1
  have b10 := E.cn.b10
  have b3 := E.cn.b3
  obtain ⟨l3, l4, l5, l6, l7, l10, l0, -, -⟩ := c_lit
  obtain ⟨g0, f0, e0, hg0⟩ := fillM (F := F) (a := nI (s 0 0)) 11 0 F h (by omega) (by omega) (FR.rf nD160) (fun k z => by omega)
  have f1 : FR [137] [] nD h (hsL g0 137 10 (nI (s 0 0)).toInt64) := f0.sL (Or.inl (by decide))
  have y5 := (R r hr).1
  have e7 : wRd s h r i 7 = (if hI h 142 r = -1 then (hI h 144 r).toInt64 else (hI h 144 r - 1).toInt64) := rfl
  have e6 : wRd s h r i 6 = (if hI h 142 r = -1 then 0 else (nI (s 0 0) - hI h 143 r).toInt64) := rfl
  have e5 : wRd s h r i 5 = (if hI h 145 r = 0 then 0 else 1) := rfl
  have gr : ¬ (nI r < 0 ∨ 30 ≤ r) := nI_in' (by omega) (by decide)
  have cr : (nI r).toNatClampNeg = r := nI_clamp (by omega)
  have rdI : ∀ (k : Nat) (v : Int64) (g : HS), hI (hsL g 137 k v) = hI g := fun k v g => Eq.trans rfl rfl
  have k1 : ∀ g, FR [137] [] nD h g → hI g 86 1 = nI (s 0 0) := fun g f => (f.fI w 86 1 (by decide)).trans E.cn.m0
  have k2 : ∀ g, FR [137] [] nD h g → hI g 142 = hI h 142 := fun g f => f.fA w 142 (by decide)
  have k3 : ∀ g, FR [137] [] nD h g → hI g 143 = hI h 143 := fun g f => f.fA w 143 (by decide)
  have k4 : ∀ g, FR [137] [] nD h g → hI g 144 = hI h 144 := fun g f => f.fA w 144 (by decide)
  have k5 : ∀ g, FR [137] [] nD h g → hI g 145 = hI h 145 := fun g f => f.fA w 145 (by decide)
  have k6 : ∀ g, FR [137] [] nD h g → hI g 95 = hI h 95 := fun g f => f.fA w 95 (by decide)
  have k7 : ∀ g, FR [137] [] nD h g → hI g 99 = hI h 99 := fun g f => f.fA w 99 (by decide)
  refine ⟨hsL g0 137 10 (nI (s 0 0)).toInt64, hsL (hsL (hsL (hsL g0 137 10 (nI (s 0 0)).toInt64) 137 5 (wRd s h r i 5)) 137 6 (wRd s h r i 6)) 137 7 (wRd s h r i 7), hsL (hsL (hsL (hsL (hsL (hsL g0 137 10 (nI (s 0 0)).toInt64) 137 5 (wRd s h r i 5)) 137 6 (wRd s h r i 6)) 137 7 (wRd s h r i 7)) 137 3 (nI (s 0 0) - nI (s 1 i)).toInt64) 137 4 (nI (s 5 i)).toInt64, ?_, ?_, e0, ?_, ?_, ?_⟩
  · exact ((((f1.sL (Or.inl (by decide))).sL (Or.inl (by decide))).sL (Or.inl (by decide))).sL (Or.inl (by decide))).sL (Or.inl (by decide))
  · exact ((f1.sL (Or.inl (by decide))).sL (Or.inl (by decide))).sL (Or.inl (by decide))
  · have v5 : p271 (hsL g0 137 10 (nI (s 0 0)).toInt64) (hI h 145 r) = some (wRd s h r i 5) := by
      unfold p271
      rw [e5]
      split <;> rfl
    unfold p279
    rw [cr, if_neg gr, k5 _ f1, v5, ob, if_neg (g11 5 (by decide)), l5]
    simp only [rdI, k2 _ f0, k1 _ f0, k3 _ f0]
    rw [if_neg gr, if_neg gr]
    have j47 : ∀ (v : Int64) g, FR [137] [] nD h g → p279_j47 (nI r) g v 6 = some (hsL (hsL g 137 6 v) 137 7 (wRd s h r i 7)) := fun v g fg => by
      unfold p279_j47 p279_j75
      rw [cr, if_neg (g11 6 (by decide)), if_neg gr, if_neg gr, if_neg (g11 7 (by decide)), if_neg (g11 7 (by decide)), l6, l7]
      simp only [rdI, k2 _ fg, k4 _ fg]
      rw [e7]
      by_cases z : hI h 142 r = -1
      · rw [if_pos z, if_pos z, Int32.sub_zero]
      · rw [if_neg z, if_neg z]
    have f2 := f1.sL (a := 137) (k := 5) (v := wRd s h r i 5) (Or.inl (by decide))
    rw [e6]
    by_cases z : hI h 142 r = -1
    · rw [if_pos z, if_pos z, j47 _ _ f2]
    · rw [if_neg z, if_neg z, j47 _ _ f2]
  · have f2 := ((f1.sL (a := 137) (k := 5) (v := wRd s h r i 5) (Or.inl (by decide))).sL (a := 137) (k := 6) (v := wRd s h r i 6) (Or.inl (by decide))).sL (a := 137) (k := 7) (v := wRd s h r i 7) (Or.inl (by decide))
    have gi : ¬ (nI i < 0 ∨ 200 ≤ i) := nI_in' (by omega) (by decide)
    unfold p280
    rw [nI_clamp (n := i) (by omega), if_neg gi, if_neg (g11 3 (by decide)), l3, k1 _ f2, k6 _ f2, E.sh.m1 hi, ob, if_neg gi, if_neg (g11 4 (by decide)), l4, rdI, k7 _ f2, E.sh.m5 hi]
  · intro j hj
    rw [hL_s, hL_s, hL_s, hL_s, hL_s, hL_s]
    by_cases j4 : j = 4
    · subst j4; rw [u1_eq]; rfl
    rw [u1_ne j4]
    by_cases j3 : j = 3
    · subst j3; rw [u1_eq]; rfl
    rw [u1_ne j3]
    by_cases j7 : j = 7
    · subst j7; rw [u1_eq]
    rw [u1_ne j7]
    by_cases j6 : j = 6
    · subst j6; rw [u1_eq]
    rw [u1_ne j6]
    by_cases j5 : j = 5
    · subst j5; rw [u1_eq]
    rw [u1_ne j5]
    by_cases j10 : j = 10
    · subst j10; rw [u1_eq]; rfl
    rw [u1_ne j10, hg0 j hj]
    unfold wRd
    rw [if_neg j3, if_neg j4, if_neg j5, if_neg j6, if_neg j7, if_neg j10]
end WRD
