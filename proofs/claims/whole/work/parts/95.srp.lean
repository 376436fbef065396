/-! who is sure; how a reader may read a line -/
def srP (s : SS) (q : Nat) : Bool := anyN (fun c => decide (sureN s c (s 0 0) = some q)) (s 0 6)
section SRP
variable {s : SS} {h : HS}
theorem kth_lt {P : Nat → Bool} {k : Nat} : ∀ {n i : Nat}, kth P k n = some i → i < n := by
  intro n
  induction n with
  | zero => intro i h; cases h
  | succ n ih =>
    intro i h
    rw [kth] at h
    cases e : kth P k n with
    | some j => rw [e] at h; cases h; have := ih e; omega
    | none =>
      rw [e] at h
      simp only at h
      split at h
      · cases h; omega
      · cases h
theorem sureN_lt {c d q : Nat} (h : sureN s c d = some q) : q < s 0 4 := by
  unfold sureN at h
  split at h
  · cases h
  · split at h
    · exact kth_lt h
    · cases h
theorem sureM (E : EV s h) {c d : Nat} (hc : c < s 0 6) (hd : d ≤ 3999) {F : Nat} (hF : 1000 ≤ F) : p232 F h (nI c) (nI d) = some (oI (sureN s c d)) := by
  have c6 := E.cn.b6
  obtain ⟨v, e1, e2⟩ := q_sure E hF (nI c) (nI d)
  unfold p136 p2 p167 at e1
  rw [E.cn.c6] at e1
  rcases ixc (nI c) (s 0 6) (by omega) with ⟨_, _, h5⟩ | ⟨i, hi, e, h1, -⟩
  · exact absurd rfl (h5 c hc)
  · rcases dayc (nI d) with ⟨h6, h7⟩ | ⟨j, hj, e3, h6, -⟩
    · exfalso
      have h8 := h6 h
      unfold p166 at h8
      rw [if_neg (nI_pos (by omega)), if_neg (show ¬ (3999 : Int32) < nI d from nI_nlt (a := 3999) (b := d) (by omega) (by decide))] at h8
      cases h8
    · rw [e, h1, ob, if_pos (Or.inr rfl), ob, if_neg n10, e3, h6, ob, if_pos (Or.inr rfl), ob, if_neg n10, ← e, ← e3, sureC E (by omega) hd hF, ob] at e1
      rw [e2, ← e1]
theorem srC (E : EV s h) {F : Nat} (hF : 1000 ≤ F) : ∃ x, p18 F h (nI (s 0 0)) = some x ∧ ∀ q, q < 64 → b6 x q = srP s q := by
  have b0 := E.cn.b0
  have c6 := E.cn.b6
  have c4 := E.cn.b4
  have k : ∀ (m i n : Nat) (v : Int64), i + m = s 0 6 → m < n → (∀ q, q < 64 → b6 v q = anyN (fun c => decide (sureN s c (s 0 0) = some q)) i) → ∃ x, p18_L5 F (nI (s 0 0)) n h v (nI i) = some x ∧ ∀ q, q < 64 → b6 x q = srP s q := by
    intro m
    induction m with
    | zero =>
      intro i n v hi hn hb
      obtain ⟨n, rfl⟩ : ∃ n', n = n' + 1 := ⟨n - 1, by omega⟩
      have e : i = s 0 6 := by omega
      subst e
      rw [p18_L5, E.cn.c6, if_neg Int32.lt_irrefl]
      exact ⟨_, rfl, hb⟩
    | succ m ih =>
      intro i n v hi hn hb
      obtain ⟨n, rfl⟩ : ∃ n', n = n' + 1 := ⟨n - 1, by omega⟩
      rw [p18_L5, E.cn.c6, if_pos (nI_lt (by omega) (by omega)), sureC E (by omega) b0 hF, ob]
      unfold p18_j36
      rw [nI_1]
      cases e : sureN s i (s 0 0) with
      | none =>
        rw [show oI none = -1 from rfl, if_pos rfl]
        refine ih (i + 1) n v (by omega) (by omega) (fun q hq => ?_)
        have nz : ¬ sureN s i (s 0 0) = some q := fun z => by rw [e] at z; cases z
        rw [anyN_no (decide_eq_false nz)]
        exact hb q hq
      | some p =>
        have hp := sureN_lt e
        rw [show oI (some p) = nI p from rfl, if_neg (fun z => by have := m1_nI (n := p) (by omega); rw [this] at z; exact z)]
        refine ih (i + 1) n _ (by omega) (by omega) (fun q hq => ?_)
        rw [b6_or, hb q hq, b6_sh (by omega), anyN_s]
        congr 1
        by_cases z : q = p
        · subst z; rw [decide_eq_true rfl, decide_eq_true e]
        · have nz : ¬ sureN s i (s 0 0) = some q := fun y => by rw [e] at y; cases y; exact z rfl
          rw [decide_eq_false z, decide_eq_false nz]
  exact k (s 0 6) 0 F 0 (by omega) (by omega) (fun q _ => b6_0 q)
theorem srM (E : EV s h) {F : Nat} (hF : 1000 ≤ F) : ∃ g, FR [147] [] nD h g ∧ p278 F h = some g ∧ ∀ q, q < s 0 4 → hI g 147 q = b2 (srP s q) := by
  have b0 := E.cn.b0
  have c6 := E.cn.b6
  have c4 := E.cn.b4
  have k2 : ∀ (m i n : Nat) (g : HS), i + m = s 0 6 → m < n → FR [147] [] nD h g → (∀ q, q < s 0 4 → hI g 147 q = b2 (anyN (fun c => decide (sureN s c (s 0 0) = some q)) i)) → ∃ g', FR [147] [] nD h g' ∧ p278_L25 F n g (nI i) = some g' ∧ ∀ q, q < s 0 4 → hI g' 147 q = b2 (srP s q) := by
    intro m
    induction m with
    | zero =>
      intro i n g hi hn fg hb
      obtain ⟨n, rfl⟩ : ∃ n', n = n' + 1 := ⟨n - 1, by omega⟩
      have E2 : EV s g := E.fr fg (by decide) evD_n
      have e : i = s 0 6 := by omega
      subst e
      rw [p278_L25, E2.cn.m6, if_neg Int32.lt_irrefl]
      exact ⟨g, fg, rfl, hb⟩
    | succ m ih =>
      intro i n g hi hn fg hb
      obtain ⟨n, rfl⟩ : ∃ n', n = n' + 1 := ⟨n - 1, by omega⟩
      have E2 : EV s g := E.fr fg (by decide) evD_n
      rw [p278_L25, E2.cn.m6, if_pos (nI_lt (by omega) (by omega)), E2.cn.m0, sureM E2 (by omega) b0 hF, ob]
      unfold p278_j55
      rw [nI_1]
      cases e : sureN s i (s 0 0) with
      | none =>
        rw [show oI none = -1 from rfl, if_pos rfl]
        refine ih (i + 1) n g (by omega) (by omega) fg (fun q hq => ?_)
        have nz : ¬ sureN s i (s 0 0) = some q := fun z => by rw [e] at z; cases z
        rw [anyN_no (decide_eq_false nz)]
        exact hb q hq
      | some p =>
        have hp := sureN_lt e
        rw [show oI (some p) = nI p from rfl, if_neg (fun z => by have := m1_nI (n := p) (by omega); rw [this] at z; exact z), if_neg (nI_in (by omega) (by decide)), nI_clamp (by omega)]
        refine ih (i + 1) n _ (by omega) (by omega) (fg.sI (Or.inl (by decide))) (fun q hq => ?_)
        rw [anyN_s]
        by_cases z : q = p
        · subst z
          rw [decide_eq_true e, Bool.or_true, hI_s]
          rfl
        · have nz : ¬ sureN s i (s 0 0) = some q := fun y => by rw [e] at y; cases y; exact z rfl
          rw [decide_eq_false nz, Bool.or_false, hI_sk z]
          exact hb q hq
  have k1 : ∀ (m i n : Nat) (g : HS), i + m = s 0 4 → m < n → FR [147] [] nD h g → (∀ q, q < i → hI g 147 q = 0) → ∃ g', FR [147] [] nD h g' ∧ p278_L2 F n g (nI i) = some g' ∧ ∀ q, q < s 0 4 → hI g' 147 q = b2 (srP s q) := by
    intro m
    induction m with
    | zero =>
      intro i n g hi hn fg hb
      obtain ⟨n, rfl⟩ : ∃ n', n = n' + 1 := ⟨n - 1, by omega⟩
      have E2 : EV s g := E.fr fg (by decide) evD_n
      have e : i = s 0 4 := by omega
      subst e
      rw [p278_L2, E2.cn.m4, if_neg Int32.lt_irrefl]
      exact k2 (s 0 6) 0 F g (by omega) (by omega) fg (fun q hq => (hb q hq).trans rfl)
    | succ m ih =>
      intro i n g hi hn fg hb
      obtain ⟨n, rfl⟩ : ∃ n', n = n' + 1 := ⟨n - 1, by omega⟩
      have E2 : EV s g := E.fr fg (by decide) evD_n
      rw [p278_L2, E2.cn.m4, if_pos (nI_lt (by omega) (by omega)), if_neg (nI_in (by omega) (by decide)), nI_clamp (by omega), nI_1]
      refine ih (i + 1) n _ (by omega) (by omega) (fg.sI (Or.inl (by decide))) (fun q hq => ?_)
      by_cases z : q = i
      · subst z; rw [hI_s]; rfl
      · rw [hI_sk z]; exact hb q (by omega)
  exact k1 (s 0 4) 0 F h (by omega) (by omega) (FR.rf nD160) (fun q z => absurd z (Nat.not_lt_zero q))
/-- whom a line names, of a reader's view -/
def nmd (h : HS) (i j q : Nat) : Bool := b6 (hL h 138 (20 * i + j)) q
def oth (s : SS) (h : HS) (r i j q : Nat) : Bool := nmd h i j q && decide (¬ nI q = hI h 141 r)
def slf (s : SS) (h : HS) (r i j : Nat) : Bool := anyN (fun q => nmd h i j q && decide (nI q = hI h 141 r)) (s 0 4)
def wRL (s : SS) (h : HS) (r i j : Nat) (k : Nat) : Int64 := if k = 0 then (if slf s h r i j then 1 else 0) else if k = 1 then lN (cnt (oth s h r i j) (s 0 4)) else if k = 2 then lN (cnt (fun q => oth s h r i j q && srP s q) (s 0 4)) else wRd s h r i k
theorem b6_t1 {w : Int64} {k : Nat} (hk : k < 64) : (lg_cmp ((w >>> ((nI k).toInt64 &&& 63)) &&& 1) 1 = 0) = (b6 w k = true) := by
  rw [lg_sub0]
  apply propext
  have h1 : ∀ q, q < 64 → b6 1 q = decide (q = 0) := by decide +kernel
  have h0 : b6 (w >>> ((nI k).toInt64 &&& 63)) 0 = b6 w k := by
    rw [b6_sr hk, if_pos (by omega), Nat.add_zero]
  constructor
  · intro e
    have h2 : b6 ((w >>> ((nI k).toInt64 &&& 63)) &&& 1) 0 = true := by rw [e]; decide
    rw [b6_and, h1 0 (by decide), decide_eq_true rfl, Bool.and_true, h0] at h2
    exact h2
  · intro e
    apply b6_ext
    intro q hq
    rw [b6_and, h1 q hq]
    by_cases z : q = 0
    · subst z; rw [h0, e]; rfl
    · rw [decide_eq_false z, Bool.and_false]
/-- the model's words of a line -/
theorem rlM (E : EV s h) (R : RDm s h) (N : LN1 s h) {r i j : Nat} (hr : r < s 0 10) (hi : i < s 0 3) (hj : j < s 5 i) (v3 : ∀ k, k < 11 → hL h 137 k = wRd s h r i k) (hs : ∀ q, q < s 0 4 → hI h 147 q = b2 (srP s q)) {F : Nat} {X : Option (Int32 × HS)} : ∀ (m q n : Nat) (g : HS), q + m = s 0 4 → m < n → FR [137] [] nD h g → (∀ k, k < 11 → hL g 137 k = if k = 0 then (if anyN (fun q => nmd h i j q && decide (nI q = hI h 141 r)) q then 1 else 0) else if k = 1 then lN (cnt (oth s h r i j) q) else if k = 2 then lN (cnt (fun q => oth s h r i j q && srP s q) q) else wRd s h r i k) → ∃ g', FR [137] [] nD h g' ∧ (∀ k, k < 11 → hL g' 137 k = wRL s h r i j k) ∧ p281_L34 F (nI r) (nI i) (nI j) n g (hL h 138 (20 * i + j)) (nI q) = (Option.bind (p268 F g' (hI g' 86 1)) fun r23 => Option.bind (p274 F g' r23 0) fun r25 => some (r25.1, r25.2)) := by
  have w := E.w.1
  have b4 := E.cn.b4
  have b10 := E.cn.b10
  obtain ⟨l3, l4, l5, l6, l7, l10, l0, l1, l2⟩ := c_lit
  intro m
  induction m with
  | zero =>
    intro q n g hq hn f hv
    obtain ⟨n, rfl⟩ : ∃ n', n = n' + 1 := ⟨n - 1, by omega⟩
    have E2 : EV s g := E.fr f (by decide) evD_n
    have e : q = s 0 4 := by omega
    subst e
    rw [p281_L34, E2.cn.m4, if_neg Int32.lt_irrefl]
    exact ⟨g, f, hv, rfl⟩
  | succ m ih =>
    intro q n g hq hn f hv
    obtain ⟨n, rfl⟩ : ∃ n', n = n' + 1 := ⟨n - 1, by omega⟩
    have E2 : EV s g := E.fr f (by decide) evD_n
    have k141 : hI g 141 = hI h 141 := f.fA w 141 (by decide)
    have k147 : hI g 147 = hI h 147 := f.fA w 147 (by decide)
    have ih' := fun g2 => ih (q + 1) n g2 (by omega) (by omega)
    have s0 := anyN_s (fun q => nmd h i j q && decide (nI q = hI h 141 r)) q
    have s1 := cnt_ss (oth s h r i j) q
    have s2 := cnt_ss (fun q => oth s h r i j q && srP s q) q
    rw [p281_L34, E2.cn.m4, if_pos (nI_lt (by omega) (by omega))]
    simp only [b6_t1 (w := hL h 138 (20 * i + j)) (k := q) (by omega)]
    unfold p281_j105
    rw [nI_1]
    cases hb : b6 (hL h 138 (20 * i + j)) q with
    | false =>
      have nb : nmd h i j q = false := hb
      have no : oth s h r i j q = false := by unfold oth; rw [nb, Bool.false_and]
      rw [if_neg (by decide)]
      rw [nb, Bool.false_and, Bool.or_false] at s0
      rw [no, if_neg (by decide), Nat.add_zero] at s1
      rw [no, Bool.false_and, if_neg (by decide), Nat.add_zero] at s2
      refine ih' g f (fun k hk => ?_)
      rw [s0, s1, s2]
      exact hv k hk
    | true =>
      have nb : nmd h i j q = true := hb
      rw [if_pos rfl, if_neg (nI_in (by omega) (by decide)), nI_clamp (n := r) (by omega), k141]
      by_cases z : nI q = hI h 141 r
      · have nz : ¬ ¬ nI q = hI h 141 r := fun y => y z
        have no : oth s h r i j q = false := by unfold oth; rw [nb, Bool.true_and, decide_eq_false nz]
        rw [if_pos z, if_neg (g11 0 (by decide)), l0]
        rw [nb, Bool.true_and, decide_eq_true z, Bool.or_true] at s0
        rw [no, if_neg (by decide), Nat.add_zero] at s1
        rw [no, Bool.false_and, if_neg (by decide), Nat.add_zero] at s2
        refine ih' _ (f.sL (Or.inl (by decide))) (fun k hk => ?_)
        rw [hL_s, s0, s1, s2]
        by_cases k0 : k = 0
        · subst k0; rw [u1_eq]; rfl
        · rw [u1_ne k0, hv k hk, if_neg k0, if_neg k0]
          rfl
      · have no : oth s h r i j q = true := by unfold oth; rw [nb, Bool.true_and, decide_eq_true z]
        have e271 : p271 (hsL g 137 1 (hL g 137 1 + 1)) (hI h 147 q) = some (lN (if srP s q then 1 else 0)) := by
          unfold p271
          rw [hs q (by omega)]
          cases srP s q <;> rfl
        have k147' : hI (hsL g 137 1 (hL g 137 1 + 1)) 147 q = hI h 147 q := congrFun k147 q
        rw [if_neg z, if_neg (g11 1 (by decide)), if_neg (g11 1 (by decide)), if_neg (g11 2 (by decide)), if_neg (nI_in (by omega) (by decide)), nI_clamp (n := q) (by omega), l1, l2, k147', e271, ob, if_neg (show ¬ ((2 : Int32) < 0 ∨ 11 ≤ 2) by decide), ob]
        rw [nb, Bool.true_and, decide_eq_false z, Bool.or_false] at s0
        rw [no, if_pos rfl] at s1
        rw [no, Bool.true_and] at s2
        refine ih' _ ((f.sL (Or.inl (by decide))).sL (Or.inl (by decide))) (fun k hk => ?_)
        rw [hL_s, hL_s, s0, s1, s2]
        have v1 := hv 1 (by decide)
        have v2 := hv 2 (by decide)
        rw [if_neg (by decide), if_pos rfl] at v1
        rw [if_neg (by decide), if_neg (by decide), if_pos rfl] at v2
        by_cases k2 : k = 2
        · subst k2
          rw [u1_eq, u1_ne (by decide), v2, lN_add, if_neg (show ¬ (2 : Nat) = 0 by decide), if_neg (show ¬ (2 : Nat) = 1 by decide), if_pos (show (2 : Nat) = 2 from rfl)]
        · rw [u1_ne k2]
          by_cases k1 : k = 1
          · subst k1
            rw [u1_eq, v1, lN_1, if_neg (show ¬ (1 : Nat) = 0 by decide), if_pos (show (1 : Nat) = 1 from rfl)]
          · rw [u1_ne k1, hv k hk, if_neg k1, if_neg k2, if_neg k1, if_neg k2]
/-- the clause by which a line is read -/
def rcl (s : SS) (h : HS) (r i j l : Nat) : Nat := fsN (fcl s (wRL s h r i j) l 0) (s 45 l)
def rcC (s : SS) (h : HS) (r i j : Nat) : Int32 := match ifN s (s 0 0) (s 0 9) with
  | none => -1
  | some l => opI (s 45 l) (rcl s h r i j l)
def rcM (s : SS) (h : HS) (r i j : Nat) : Int32 := match ifN s (s 0 0) (s 0 9) with
  | none => -1
  | some l => opL l (s 45 l) (rcl s h r i j l)
theorem wRL_eq {g : HS} {r i j : Nat} (e1 : hI g 141 = hI h 141) (e2 : hI g 142 = hI h 142) (e3 : hI g 143 = hI h 143) (e4 : hI g 144 = hI h 144) (e5 : hI g 145 = hI h 145) (e6 : hL g 138 = hL h 138) : wRL s g r i j = wRL s h r i j := by
  funext k
  unfold wRL slf oth nmd
  rw [e1, e6, wRd_eq e2 e3 e4 e5]
theorem wRL_ru {g : HS} {r i j : Nat} (w : 160 ≤ h.1) (f : FR ruW [] (stk s) h g) : wRL s g r i j = wRL s h r i j := wRL_eq (f.fA w 141 (by decide)) (f.fA w 142 (by decide)) (f.fA w 143 (by decide)) (f.fA w 144 (by decide)) (f.fA w 145 (by decide)) (f.fL w 138 (by decide))
theorem rcC_ru {g : HS} {r i j : Nat} (w : 160 ≤ h.1) (f : FR ruW [] (stk s) h g) : rcC s g r i j = rcC s h r i j ∧ rcM s g r i j = rcM s h r i j := by
  unfold rcC rcM rcl
  rw [wRL_ru w f]
  exact ⟨rfl, rfl⟩
theorem redM (E : EV s h) (R : RDm s h) (N : LN1 s h) (L : LWc s h) {r i j : Nat} (hr : r < s 0 10) (hi : i < s 0 3) (hj : j < s 5 i) (hs : ∀ q, q < s 0 4 → hI h 147 q = b2 (srP s q)) {F : Nat} (hF : 1000 ≤ F) : ∃ g, FR [136, 137] [] nD h g ∧ p281 F h (nI r) (nI i) (nI j) = some (rcM s h r i j, g) := by
  have w := E.w.1
  have b0 := E.cn.b0
  have b9 := E.cn.b9
  have b4 := E.cn.b4
  have b3 := E.cn.b3
  have l5 := E.sh.b5 hi
  obtain ⟨g1, g2, g, f, f2, e1, e3, e4, v⟩ := rdwM E R hr hi hF
  have up : ∀ {g g' : HS}, FR [137] [] nD g g' → FR [136, 137] [] nD g g' := fun f => f.mo (by decide) (by decide) (fun _ z => z) nD160
  have up2 : ∀ {g g' : HS}, FR [136] [] nD g g' → FR [136, 137] [] nD g g' := fun f => f.mo (by decide) (by decide) (fun _ z => z) nD160
  have k138 : hL g 138 = hL h 138 := f.fL w 138 (by decide)
  have ea : (20 : Int32) * nI i + nI j = nI (20 * i + j) := by rw [show (20 : Int32) = nI 20 from rfl, nI_mul, nI_add]
  have E1 : EV s g := E.fr f (by decide) evD_n
  have R1 : RDm s g := R.fr w f (by decide)
  have N1 : LN1 s g := N.fr E f (by decide) (fun _ _ _ _ => id)
  have hs1 : ∀ q, q < s 0 4 → hI g 147 q = b2 (srP s q) := fun q hq => (congrFun (f.fA w 147 (by decide)) q).trans (hs q hq)
  have wq : wRd s g r i = wRd s h r i := wRd_eq (f.fA w 142 (by decide)) (f.fA w 143 (by decide)) (f.fA w 144 (by decide)) (f.fA w 145 (by decide))
  have wl' : wRL s g r i j = wRL s h r i j := wRL_eq (f.fA w 141 (by decide)) (f.fA w 142 (by decide)) (f.fA w 143 (by decide)) (f.fA w 144 (by decide)) (f.fA w 145 (by decide)) k138
  obtain ⟨g3, f3, v3, e5⟩ := rlM (X := none) E1 R1 N1 hr hi hj (fun k hk => by rw [wq]; exact v k hk) hs1 (F := F) (s 0 4) 0 F g (by omega) (by omega) (FR.rf nD160) (fun k hk => by
    rw [v k hk, wq]
    unfold wRd
    by_cases k0 : k = 0
    · subst k0; rfl
    by_cases k1 : k = 1
    · subst k1; rfl
    by_cases k2 : k = 2
    · subst k2; rfl
    rw [if_neg k0, if_neg k1, if_neg k2])
  have f13 := f.tr f3
  have E3 : EV s g3 := E.fr f13 (by decide) evD_n
  have L3 : LWc s g3 := L.fr w f13 (by decide) (fun _ _ _ _ _ => id)
  unfold p281
  rw [E.cn.m0, e1, ob, e3, ob, e4, ob, ea, if_neg (nI_in (by omega) (by decide)), nI_clamp (by omega)]
  rw [show (0 : Int32) = nI 0 from rfl] at e5
  rw [show p281_L34 F (nI r) (nI i) (nI j) F g (hL g 138 (20 * i + j)) 0 = _ from e5, E3.cn.m0, inM E3 L3 b0 (by omega), ob]
  unfold p274
  cases hf : ifN s (s 0 0) (s 0 9) with
  | none =>
    refine ⟨g3, up f13, ?_⟩
    have : rcM s h r i j = -1 := by unfold rcM; rw [hf]
    obtain ⟨F', rfl⟩ : ∃ F', F = F' + 1 := ⟨F - 1, by omega⟩
    rw [this, p274_L2, show oI none = -1 from rfl, if_pos rfl, ob]
  | some l =>
    have hl := ifN_lt _ _ hf
    have c12 := (L.1 l hl).1.2.2.2.2.2.2.2.2.1
    obtain ⟨g4, f4, e6⟩ := ftM E3 L3 hl (kd := 0) (ws := wRL s g r i j) (by decide) v3 hF (s 45 l) 0 F g3 (by omega) (by omega) (FR.rf nD160) (fun j z => absurd z (Nat.not_lt_zero j))
    refine ⟨g4, (up f13).tr (up2 f4), ?_⟩
    have : rcM s h r i j = opL l (s 45 l) (fsN (fcl s (wRL s g r i j) l 0) (s 45 l)) := by unfold rcM rcl; rw [hf, wl']
    rw [this, show oI (some l) = nI l from rfl, show p274_L2 F (nI l) (nI 0) F g3 0 = _ from e6, ob]
end SRP
