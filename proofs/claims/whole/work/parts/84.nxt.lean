/-! next -/
/-- a closed sheet's report that would rule out -/
def clo (s : SS) (c S r : Nat) : Bool := decide (s 13 r = c ∧ s 20 r = 100000 ∧ s 12 r = S ∧ s 2 S = 100000)
def lft (s : SS) (c S i q : Nat) : Bool := cand s c (s 0 0) q && !anyN (fun r => clo s c S r && brs s r q (s 0 0)) i
def wo (s : SS) (c S : Nat) : Nat := cnt (lft s c S (s 0 7)) (s 0 4)
def mny (s : SS) (c : Nat) : Nat := cnt (cand s c (s 0 0)) (s 0 4)
def dst (w m : Nat) : Nat := if m ≤ 2 * w then 2 * w - m else m - 2 * w
def nxN (s : SS) (c : Nat) : Nat → Option Nat
  | 0 => none
  | i + 1 => match nxN s c i with
    | none => if wo s c i < mny s c then some i else none
    | some b => if wo s c i < mny s c ∧ dst (wo s c i) (mny s c) < dst (wo s c b) (mny s c) then some i else some b
def nxD (s : SS) (c : Nat) (o : Option Nat) : Int32 := match o with
  | none => 0
  | some b => nI (dst (wo s c b) (mny s c))
section NXT
variable {s : SS} {h : HS}
theorem wo_le (s : SS) (c S : Nat) : wo s c S ≤ s 0 4 := cnt_le _ _
theorem wo_open {c S : Nat} (z : ¬ s 2 S = 100000) : wo s c S = mny s c := cnt_congr fun q _ => by
  unfold lft
  rw [anyN_false.mpr (fun r _ => by unfold clo; rw [decide_eq_false (fun y => z y.2.2.2)]; rfl)]
  exact Bool.and_true _
theorem wo_torn (E : EV s h) {c S : Nat} (z : ¬ s 3 S = 100000) : wo s c S = mny s c := cnt_congr fun q _ => by
  unfold lft
  rw [anyN_false.mpr (fun r hr => by
    unfold clo
    rw [decide_eq_false (fun y => by
      have := E.rp.b9 hr
      rw [y.2.2.1] at this
      rcases this with u | u
      · exact z u
      · omega)]
    rfl)]
  exact Bool.and_true _
theorem dstC {w m : Nat} (hw : w ≤ 60) (hm : m ≤ 60) : (if (0 : Int32) ≤ (((2) * (nI w)) - (nI m)) then (((2) * (nI w)) - (nI m)) else 0 - (((2) * (nI w)) - (nI m))) = nI (dst w m) ∧ (if nI m < (2 : Int32) * nI w then (2 : Int32) * nI w - nI m else nI m - (2 : Int32) * nI w) = nI (dst w m) := by
  have hz : ∀ w : Fin 61, ∀ m : Fin 61, (if (0 : Int32) ≤ (((2) * (nI w.val)) - (nI m.val)) then (((2) * (nI w.val)) - (nI m.val)) else 0 - (((2) * (nI w.val)) - (nI m.val))) = nI (dst w.val m.val) ∧ (if nI m.val < (2 : Int32) * nI w.val then (2 : Int32) * nI w.val - nI m.val else nI m.val - (2 : Int32) * nI w.val) = nI (dst w.val m.val) := by decide +kernel
  exact hz ⟨w, by omega⟩ ⟨m, by omega⟩
theorem nxN_lt {c : Nat} : ∀ (i b : Nat), nxN s c i = some b → b < i
  | 0, b, h => by cases h
  | i + 1, b, h => by
    rw [nxN] at h
    cases e : nxN s c i with
    | none =>
      rw [e] at h
      simp only at h
      split at h
      · cases h; omega
      · cases h
    | some k =>
      rw [e] at h
      have := nxN_lt i k e
      simp only at h
      split at h
      · cases h; omega
      · cases h; omega
theorem nx_b {w m : Nat} (hw : w ≤ 60) (hm : m ≤ 60) : dst w m ≤ 120 := by unfold dst; split <;> omega
/-- the choice among the sheets, the class -/
theorem nxC_L (E : EV s h) {c : Nat} {a0 a1 : Int32} {g : HS} (hg : ∀ S, S < s 0 3 → ∀ q, q < 64 → b6 (hL g 56 S) q = (decide (q < s 0 4) && lft s c S (s 0 7) q)) (F : Nat) : ∀ (m i n : Nat), i + m = s 0 3 → m < n → p19_L129 F a0 a1 (nI (s 0 3)) n g (nI (mny s c)) (oI (nxN s c i)) (nxD s c (nxN s c i)) (nI i) = some (oI (nxN s c (s 0 3)), g) := by
  have b3 := E.cn.b3
  have b4 := E.cn.b4
  have lm : mny s c ≤ s 0 4 := cnt_le _ _
  intro m
  induction m with
  | zero =>
    intro i n hi hn
    obtain ⟨n, rfl⟩ : ∃ n', n = n' + 1 := ⟨n - 1, by omega⟩
    have e : i = s 0 3 := by omega
    subst e
    rw [p19_L129, if_neg Int32.lt_irrefl]
  | succ m ih =>
    intro i n hi hn
    obtain ⟨n, rfl⟩ : ∃ n', n = n' + 1 := ⟨n - 1, by omega⟩
    have hi' : i < s 0 3 := by omega
    have ih' := ih (i + 1) n (by omega) (by omega)
    have lw := wo_le s c i
    have pe : p307 g (hL g 56 i) = some (nI (wo s c i)) := by
      rw [popE, cnt_congr (Q := fun q => decide (q < s 0 4) && lft s c i (s 0 7) q) (hg i hi'), cnt_cut (by omega)]
      rfl
    rw [p19_L129, if_pos (nI_lt hi' (by omega)), if_neg (nI_in (by omega) (by decide)), nI_clamp (by omega), pe, ob]
    rw [nxN] at ih'
    rw [(dstC (by omega) (by omega)).1]
    have db := nx_b (w := wo s c i) (m := mny s c) (by omega) (by omega)
    unfold p19_j187 p19_j179 p19_j187
    rw [nI_1]
    by_cases h1 : wo s c i < mny s c
    · rw [if_pos (nI_lt h1 (by omega))]
      cases e : nxN s c i with
      | none =>
        rw [e] at ih'
        simp only at ih'
        rw [if_pos h1] at ih'
        rw [show oI none = -1 from rfl, if_pos rfl]
        exact ih'
      | some b =>
        rw [e] at ih'
        simp only at ih'
        have hb := nxN_lt i b e
        have lb := wo_le s c b
        have db2 := nx_b (w := wo s c b) (m := mny s c) (by omega) (by omega)
        rw [show oI (some b) = nI b from rfl, if_neg (fun z => by have := m1_nI (n := b) (by omega); rw [this] at z; exact z), show nxD s c (some b) = nI (dst (wo s c b) (mny s c)) from rfl]
        by_cases h2 : dst (wo s c i) (mny s c) < dst (wo s c b) (mny s c)
        · rw [if_pos (nI_lt h2 (by omega))]
          rw [if_pos ⟨h1, h2⟩] at ih'
          exact ih'
        · rw [if_neg (nI_nlt (by omega) (by omega))]
          rw [if_neg (fun z => h2 z.2)] at ih'
          exact ih'
    · rw [if_neg (nI_nlt (by omega) (by omega))]
      have : (match nxN s c i with | none => if wo s c i < mny s c then some i else none | some b => if wo s c i < mny s c ∧ dst (wo s c i) (mny s c) < dst (wo s c b) (mny s c) then some i else some b) = nxN s c i := by
        cases nxN s c i with
        | none => exact if_neg h1
        | some b => exact if_neg (fun z => h1 z.1)
      rw [this] at ih'
      exact ih'
theorem lft_s {c S i q : Nat} : lft s c S (i + 1) q = (lft s c S i q && !(clo s c S i && brs s i q (s 0 0))) := by
  unfold lft
  rw [anyN_s, Bool.not_or, Bool.and_assoc]
/-- the class's rows of what is left -/
theorem nxC_R (E : EV s h) {c : Nat} (hc : c < 2147483648) {F : Nat} (hF : 1000 ≤ F) : ∀ (m i n : Nat) (g : HS), i + m = s 0 7 → m < n → FR [56] [] nD h g → (∀ S, S < s 0 3 → ∀ q, q < 64 → b6 (hL g 56 S) q = (decide (q < s 0 4) && lft s c S i q)) → ∃ g', FR [56] [] nD h g' ∧ p19_L27 F (nI c) (nI (s 0 0)) (nI (s 0 3)) n g (nI (mny s c)) (nI i) = some (oI (nxN s c (s 0 3)), g') := by
  have b7 := E.cn.b7
  have b6' := E.cn.b6
  have b3 := E.cn.b3
  have b0 := E.cn.b0
  intro m
  induction m with
  | zero =>
    intro i n g hi hn fg hg
    obtain ⟨n, rfl⟩ : ∃ n', n = n' + 1 := ⟨n - 1, by omega⟩
    have e : i = s 0 7 := by omega
    subst e
    have E2 : EV s g := E.fr fg (by decide) evD_n
    rw [p19_L27, E2.cn.c7, if_neg Int32.lt_irrefl]
    exact ⟨g, fg, nxC_L (c := c) E hg F (s 0 3) 0 F (by omega) (by omega)⟩
  | succ m ih =>
    intro i n g hi hn fg hg
    obtain ⟨n, rfl⟩ : ∃ n', n = n' + 1 := ⟨n - 1, by omega⟩
    have E2 : EV s g := E.fr fg (by decide) evD_n
    have hi' : i < s 0 7 := by omega
    have hS := E.rp.b0 hi'
    have x1 := E.rp.b1 hi'
    obtain ⟨x, hx, hxb⟩ := ruled E2 hi' (d := s 0 0) (by omega) hF
    obtain ⟨-, -, z3, z4⟩ := dC_b (Nat.le_refl 3999) (E.rp.b8 hi') b0
    obtain ⟨-, -, y3, y4⟩ := dC_b (Nat.le_refl 3999) (E.sh.b2 hS) b0
    have d1 : dC (s 20 i) ≤ 4000 := by have := (dC_b (Nat.le_refl 3999) (E.rp.b8 hi') b0).1; omega
    have d2 : dC (s 2 (s 12 i)) ≤ 4000 := by have := (dC_b (Nat.le_refl 3999) (E.sh.b2 hS) b0).1; omega
    have skip : (∀ S, clo s c S i = false) → ∃ g', FR [56] [] nD h g' ∧ p19_L27 F (nI c) (nI (s 0 0)) (nI (s 0 3)) n g (nI (mny s c)) (nI (i + 1)) = some (oI (nxN s c (s 0 3)), g') := fun hz =>
      ih (i + 1) n g (by omega) (by omega) fg (fun S hS q hq => by rw [hg S hS q hq, lft_s, hz S]; cases lft s c S i q <;> rfl)
    rw [p19_L27, E2.cn.c7, if_pos (nI_lt hi' (by omega)), if_neg (nI_in (by omega) (by decide)), nI_clamp (by omega), E2.rp.o hi', ob, if_pos (E2.rp.t hi'), E2.rp.f3 hi', E2.rp.f2 hi', E2.rp.r0 hi', ob, ob, ob, E2.sh.f2 hS, E2.sh.f0 hS]
    unfold p19_j114
    rw [nI_1 i]
    by_cases h1 : s 13 i = c
    · rw [h1, if_pos rfl]
      by_cases h2 : s 20 i = 100000
      · rw [if_pos (by rw [z3.mpr h2]; rfl), if_neg (by intro z; cases z), if_pos (E2.sh.t hS)]
        by_cases h3 : s 2 (s 12 i) = 100000
        · rw [if_pos (by rw [y3.mpr h3]; rfl), if_pos (E2.sh.t hS), if_neg (nI_in (by omega) (by decide)), hx, ob, if_neg (nI_in (by omega) (by decide)), nI_clamp (by omega), ob]
          refine ih (i + 1) n _ (by omega) (by omega) (fg.sL (Or.inl (by decide))) (fun S hS2 q hq => ?_)
          rw [lft_s]
          by_cases e : S = s 12 i
          · subst e
            have : hL (hsL g 56 (s 12 i) (hL g 56 (s 12 i) &&& (x ^^^ (-1 : Int64)))) 56 (s 12 i) = hL g 56 (s 12 i) &&& (x ^^^ (-1 : Int64)) := if_pos ⟨rfl, rfl⟩
            rw [this, b6_and, b6_not hq, hxb q hq, hg _ hS2 q hq, show clo s c (s 12 i) i = true from decide_eq_true ⟨h1, h2, rfl, h3⟩, Bool.true_and, Bool.and_assoc]
          · have : hL (hsL g 56 (s 12 i) (hL g 56 (s 12 i) &&& (x ^^^ (-1 : Int64)))) 56 S = hL g 56 S := if_neg (fun z => e z.2)
            rw [this, hg S hS2 q hq, show clo s c S i = false from decide_eq_false (fun z => e z.2.2.1.symm), Bool.false_and, Bool.not_false, Bool.and_true]
        · rw [if_neg (fun z : nI (dC (s 2 (s 12 i))) = (4000 : Int32) => h3 (y3.mp ((nI_eq (b := 4000) (by omega) (by decide)).mp z)))]
          exact skip (fun S => decide_eq_false (fun z => h3 (by have := z.2.2.2; rw [← z.2.2.1] at this; exact this)))
      · rw [if_neg (fun z : nI (dC (s 20 i)) = (4000 : Int32) => h2 (z3.mp ((nI_eq (b := 4000) (by omega) (by decide)).mp z)))]
        exact skip (fun S => decide_eq_false (fun z => h2 z.2.1))
    · rw [if_neg (fun z => h1 ((nI_eq (by omega) hc).mp z))]
      exact skip (fun S => decide_eq_false (fun z => h1 z.1))
theorem fillL {F : Nat} {x : Int64} (ht : hT h 56 = 23) (hn : hN h 56 = 200) : ∀ (m i n : Nat) (g : HS), i + m = 200 → m < n → FR [56] [] nD h g → 160 ≤ h.1 → (∀ k, k < i → hL g 56 k = x) → ∃ g', FR [56] [] nD h g' ∧ p311_L6 F (some 56) x n g (nI i) (nI 200) = some g' ∧ ∀ k, k < 200 → hL g' 56 k = x := by
  intro m
  induction m with
  | zero =>
    intro i n g hi hn fg w hk
    obtain ⟨n, rfl⟩ : ∃ n', n = n' + 1 := ⟨n - 1, by omega⟩
    have e : i = 200 := by omega
    subst e
    rw [p311_L6, if_neg Int32.lt_irrefl]
    exact ⟨g, fg, rfl, hk⟩
  | succ m ih =>
    intro i n g hi hn2 fg w hk
    obtain ⟨n, rfl⟩ : ∃ n', n = n' + 1 := ⟨n - 1, by omega⟩
    have t2 : hT g 56 = 23 := (fg.T (by omega)).trans ht
    have n2 : hN g 56 = 200 := (fg.N (by omega)).trans hn
    rw [p311_L6, if_pos (nI_lt (by omega) (by decide)), ob, if_pos t2, n2, if_neg (nI_in (by omega) (by decide)), nI_clamp (by omega), nI_1]
    refine ih (i + 1) n _ (by omega) (by omega) (fg.sL (Or.inl (by decide))) w (fun k hk2 => ?_)
    by_cases e : k = i
    · subst e
      exact if_pos ⟨rfl, rfl⟩
    · exact (if_neg (fun z => e z.2)).trans (hk k (by omega))
theorem nxC (E : EV s h) {c : Nat} (hc : c < 2147483648) {F : Nat} (hF : 1000 ≤ F) : ∃ g', FR [56] [] nD h g' ∧ p19 F h (nI c) (nI (s 0 0)) (nI (s 0 3)) = some (oI (nxN s c (s 0 3)), g') := by
  have b0 := E.cn.b0
  obtain ⟨x, hx, hxb⟩ := candC E hc (d := s 0 0) (by omega) hF
  have t56 : hT h 56 = 23 := E.w.t 56 (by decide)
  have n56 : hN h 56 = 200 := E.w.n 56 (by decide)
  obtain ⟨g, fg, eg, hg⟩ := fillL (F := F) (x := x) t56 n56 200 0 F h (by omega) (by omega) (FR.rf nD160) E.w.1 (fun k z => by omega)
  have b3 := E.cn.b3
  obtain ⟨g2, fg2, e2⟩ := nxC_R E hc hF (s 0 7) 0 F g (by omega) (by have := E.cn.b7; omega) fg (fun S hS q hq => by
    rw [hg S (by omega), hxb q hq]
    unfold lft
    rw [show anyN (fun r => clo s c S r && brs s r q (s 0 0)) 0 = false from rfl, Bool.not_false, Bool.and_true])
  refine ⟨g2, fg2, ?_⟩
  unfold p19 p311
  rw [hx, ob, popC E hxb, ob, ob, if_pos t56, n56, show p311_L6 F (some 56) x F h 0 (Int32.ofNat 200) = some g from eg, ob]
  exact e2
/-- the model: who stays behind a sheet -/
theorem stayI (E : EV s h) {c S q : Nat} (hc : c < 2147483648) (hS : S < s 0 3) (hq : q < s 0 4) (ho : s 2 S = 100000) {F : Nat} (hF : 1000 ≤ F) {K : Int32 → Int32 → Option Int32} {v3 : Int32} : ∀ (m i n : Nat), i + m = s 0 7 → m < n → p233_L26 F (nI S) (nI c) K n h v3 (nI q) (b2 (lft s c S i q)) (nI i) = K (v3 + b2 (lft s c S (s 0 7) q)) (nI (q + 1)) := by
  have b7 := E.cn.b7
  have b6' := E.cn.b6
  have b3 := E.cn.b3
  have b4 := E.cn.b4
  have b0 := E.cn.b0
  have fin : ∀ b : Bool, p233_j103 F (nI S) (nI c) K h v3 (nI q) (b2 b) = K (v3 + b2 b) (nI (q + 1)) := fun b => by
    unfold p233_j103 p233_j114
    rw [nI_1]
    cases b <;> rfl
  have stop : ∀ i, i ≤ s 0 7 → lft s c S i q = false → lft s c S (s 0 7) q = false := by
    intro i hi hz
    unfold lft at hz ⊢
    cases hca : cand s c (s 0 0) q with
    | false => rfl
    | true =>
      rw [hca, Bool.true_and] at hz
      cases ha : anyN (fun r => clo s c S r && brs s r q (s 0 0)) i with
      | false => rw [ha] at hz; cases hz
      | true =>
        obtain ⟨j, hj, hp⟩ := anyN_iff.mp ha
        rw [anyN_iff.mpr ⟨j, by omega, hp⟩]
        rfl
  intro m
  induction m with
  | zero =>
    intro i n hi hn
    obtain ⟨n, rfl⟩ : ∃ n', n = n' + 1 := ⟨n - 1, by omega⟩
    have e : i = s 0 7 := by omega
    subst e
    rw [p233_L26, E.cn.m7, if_neg Int32.lt_irrefl, fin]
  | succ m ih =>
    intro i n hi hn
    obtain ⟨n, rfl⟩ : ∃ n', n = n' + 1 := ⟨n - 1, by omega⟩
    have hi' : i < s 0 7 := by omega
    have ih' := ih (i + 1) n (by omega) (by omega)
    have hS2 := E.rp.b0 hi'
    have x1 := E.rp.b1 hi'
    obtain ⟨-, -, -, z4⟩ := dC_b (Nat.le_refl 3999) (E.rp.b8 hi') b0
    rw [p233_L26, E.cn.m7, if_pos (nI_lt hi' (by omega))]
    cases hl : lft s c S i q with
    | false =>
      rw [show b2 false = 0 from rfl, if_pos rfl, show (0 : Int32) = b2 false from rfl, fin, stop i (by omega) hl]
    | true =>
      have st := lft_s (s := s) (c := c) (S := S) (i := i) (q := q)
      rw [hl, Bool.true_and] at st
      rw [show b2 true = 1 from rfl, if_neg (by decide), if_neg (nI_in (by omega) (by decide)), nI_clamp (by omega), E.rp.m0 hi', E.rp.m1 hi', E.rp.m8 hi', E.cn.m0, brsM E hi' (by omega) b0 hF, ob, show (100000 : Int32) = nI 100000 from rfl]
      unfold p233_j90 p233_j95
      rw [nI_1 i]
      have go : clo s c S i = false → p233_L26 F (nI S) (nI c) K n h v3 (nI q) 1 (nI (i + 1)) = K (v3 + b2 (lft s c S (s 0 7) q)) (nI (q + 1)) := fun hz => by
        rw [st, hz] at ih'
        exact ih'
      by_cases h1 : s 12 i = S
      · rw [h1, if_pos rfl, if_neg (nI_in' (by omega) (by decide))]
        by_cases h2 : s 13 i = c
        · rw [h2, if_pos rfl, if_neg (nI_in' (by omega) (by decide))]
          by_cases h3 : s 20 i = 100000
          · rw [h3, if_pos rfl, b2_if]
            rw [st, show clo s c S i = true from decide_eq_true ⟨h2, h3, h1, ho⟩, Bool.true_and] at ih'
            cases hb : brs s i q (s 0 0) with
            | false => rw [hb] at ih'; exact ih'
            | true => rw [hb] at ih'; exact ih'
          · rw [if_neg (fun z => h3 ((nI_eq (by omega) (by decide)).mp z))]
            exact go (decide_eq_false (fun z => h3 z.2.1))
        · rw [if_neg (fun z => h2 ((nI_eq (by omega) hc).mp z))]
          exact go (decide_eq_false (fun z => h2 z.1))
      · rw [if_neg (fun z => h1 ((nI_eq (by omega) (by omega)).mp z))]
        exact go (decide_eq_false (fun z => h1 z.2.2.1))
theorem stayL (E : EV s h) {c S : Nat} (hc : c < 2147483648) (hS : S < s 0 3) (ho : s 2 S = 100000) (hst : ∀ q, q < s 0 4 → hI h 125 q = b2 (cand s c (s 0 0) q)) {F : Nat} (hF : 1000 ≤ F) : ∀ (m i n : Nat), i + m = s 0 4 → m < n → p233_L5 F (nI S) (nI c) n h (nI (cnt (lft s c S (s 0 7)) i)) (nI i) = some (nI (wo s c S)) := by
  have b4 := E.cn.b4
  have b7 := E.cn.b7
  intro m
  induction m with
  | zero =>
    intro i n hi hn
    obtain ⟨n, rfl⟩ : ∃ n', n = n' + 1 := ⟨n - 1, by omega⟩
    have e : i = s 0 4 := by omega
    subst e
    rw [p233_L5, E.cn.m4, if_neg Int32.lt_irrefl]
    rfl
  | succ m ih =>
    intro i n hi hn
    obtain ⟨n, rfl⟩ : ∃ n', n = n' + 1 := ⟨n - 1, by omega⟩
    have hi' : i < s 0 4 := by omega
    have ih' := ih (i + 1) n (by omega) (by omega)
    rw [p233_L5, E.cn.m4, if_pos (nI_lt hi' (by omega)), if_neg (nI_in (by omega) (by decide)), nI_clamp (by omega), hst i hi']
    have l0 : lft s c S 0 i = cand s c (s 0 0) i := by
      unfold lft
      rw [show anyN (fun r => clo s c S r && brs s r i (s 0 0)) 0 = false from rfl, Bool.not_false, Bool.and_true]
    have := stayI E hc hS hi' ho hF (K := p233_L5 F (nI S) (nI c) n h) (v3 := nI (cnt (lft s c S (s 0 7)) i)) (s 0 7) 0 F (by omega) (by omega)
    rw [l0, show nI 0 = (0 : Int32) from rfl] at this
    rw [this]
    rw [cnt_ss] at ih'
    cases hl : lft s c S (s 0 7) i with
    | false =>
      rw [hl] at ih'
      rw [show b2 false = nI 0 from rfl, nI_add]
      exact ih'
    | true =>
      rw [hl] at ih'
      rw [show b2 true = nI 1 from rfl, nI_add]
      exact ih'
theorem nxM_L (E : EV s h) {c : Nat} (hc : c < 2147483648) (hst : ∀ q, q < s 0 4 → hI h 125 q = b2 (cand s c (s 0 0) q)) {F : Nat} (hF : 1000 ≤ F) : ∀ (m i n : Nat), i + m = s 0 3 → m < n → p234_L78 F (nI c) n h (nI (mny s c)) (oI (nxN s c i)) (nxD s c (nxN s c i)) (nI i) = some (oI (nxN s c (s 0 3)), h) := by
  have b3 := E.cn.b3
  have b4 := E.cn.b4
  have lm : mny s c ≤ s 0 4 := cnt_le _ _
  intro m
  induction m with
  | zero =>
    intro i n hi hn
    obtain ⟨n, rfl⟩ : ∃ n', n = n' + 1 := ⟨n - 1, by omega⟩
    have e : i = s 0 3 := by omega
    subst e
    rw [p234_L78, E.cn.m3, if_neg Int32.lt_irrefl]
  | succ m ih =>
    intro i n hi hn
    obtain ⟨n, rfl⟩ : ∃ n', n = n' + 1 := ⟨n - 1, by omega⟩
    have hi' : i < s 0 3 := by omega
    have ih' := ih (i + 1) n (by omega) (by omega)
    have lw := wo_le s c i
    have o2 : s 2 i ≤ 100000 := by have := E.sh.b2 hi'; unfold okDy at this; omega
    have o3 : s 3 i ≤ 100000 := by have := E.sh.b3 hi'; unfold okDy at this; omega
    have db := nx_b (w := wo s c i) (m := mny s c) (by omega) (by omega)
    rw [p234_L78, E.cn.m3, if_pos (nI_lt hi' (by omega)), if_neg (nI_in (by omega) (by decide)), nI_clamp (by omega), E.sh.m2 hi', E.sh.m3 hi', show (100000 : Int32) = nI 100000 from rfl]
    rw [nxN] at ih'
    unfold p234_j172
    rw [nI_1 i]
    have same : wo s c i = mny s c → p234_L78 F (nI c) n h (nI (mny s c)) (oI (nxN s c i)) (nxD s c (nxN s c i)) (nI (i + 1)) = some (oI (nxN s c (s 0 3)), h) := fun hz => by
      have : (match nxN s c i with | none => if wo s c i < mny s c then some i else none | some b => if wo s c i < mny s c ∧ dst (wo s c i) (mny s c) < dst (wo s c b) (mny s c) then some i else some b) = nxN s c i := by
        cases nxN s c i with
        | none => exact if_neg (by omega)
        | some b => exact if_neg (fun z => by omega)
      rw [this] at ih'
      exact ih'
    by_cases h2 : s 2 i = 100000
    · rw [h2, if_pos rfl, if_neg (nI_in' (by omega) (by decide))]
      by_cases h3 : s 3 i = 100000
      · rw [h3, if_pos rfl]
        have e233 : p233 F h (nI i) (nI c) = some (nI (wo s c i)) := stayL E hc hi' h2 hst hF (s 0 4) 0 F (by omega) (by omega)
        rw [e233, ob]
        have dd : ∀ K : Int32 → Option (Int32 × HS), (if nI (mny s c) < (2 : Int32) * nI (wo s c i) then K ((2 : Int32) * nI (wo s c i) - nI (mny s c)) else K (nI (mny s c) - (2 : Int32) * nI (wo s c i))) = K (nI (dst (wo s c i) (mny s c))) := fun K => by
          rw [← (dstC (w := wo s c i) (m := mny s c) (by omega) (by omega)).2]
          split <;> rfl
        rw [dd (fun v => p234_j145 F (nI c) (p234_L78 F (nI c) n) h (nI (mny s c)) (oI (nxN s c i)) (nxD s c (nxN s c i)) (nI i) (nI (wo s c i)) v)]
        unfold p234_j145 p234_j165 p234_j172
        rw [nI_1 i]
        by_cases h1 : wo s c i < mny s c
        · rw [if_pos (nI_lt h1 (by omega))]
          cases e : nxN s c i with
          | none =>
            rw [e] at ih'
            simp only at ih'
            rw [if_pos h1] at ih'
            rw [show oI none = -1 from rfl, if_pos rfl]
            exact ih'
          | some b =>
            rw [e] at ih'
            simp only at ih'
            have hb := nxN_lt i b e
            have lb := wo_le s c b
            have db2 := nx_b (w := wo s c b) (m := mny s c) (by omega) (by omega)
            rw [show oI (some b) = nI b from rfl, if_neg (fun z => by have := m1_nI (n := b) (by omega); rw [this] at z; exact z), show nxD s c (some b) = nI (dst (wo s c b) (mny s c)) from rfl]
            by_cases h2 : dst (wo s c i) (mny s c) < dst (wo s c b) (mny s c)
            · rw [if_pos (nI_lt h2 (by omega))]
              rw [if_pos ⟨h1, h2⟩] at ih'
              exact ih'
            · rw [if_neg (nI_nlt (by omega) (by omega))]
              rw [if_neg (fun z => h2 z.2)] at ih'
              exact ih'
        · rw [if_neg (nI_nlt (by omega) (by omega))]
          have := cnt_le (lft s c i (s 0 7)) (s 0 4)
          refine same ?_
          have h4 : wo s c i ≤ mny s c := by
            unfold wo mny
            have hz : ∀ n, cnt (lft s c i (s 0 7)) n ≤ cnt (cand s c (s 0 0)) n := by
              intro n
              induction n with
              | zero => exact Nat.le_refl _
              | succ n ih =>
                rw [cnt_ss, cnt_ss]
                have : lft s c i (s 0 7) n = true → cand s c (s 0 0) n = true := fun z => by
                  unfold lft at z
                  rw [Bool.and_eq_true] at z
                  exact z.1
                cases h5 : lft s c i (s 0 7) n with
                | false => rw [if_neg (by decide)]; omega
                | true => rw [this h5, if_pos rfl]; omega
            exact hz _
          omega
      · rw [if_neg (fun z => h3 ((nI_eq (by omega) (by decide)).mp z))]
        exact same (wo_torn E h3)
    · rw [if_neg (fun z => h2 ((nI_eq (by omega) (by decide)).mp z))]
      exact same (wo_open h2)
theorem nxM_S (E : EV s h) {c : Nat} (hc : c < 2147483648) {F : Nat} (hF : 1000 ≤ F) : ∀ (m i n : Nat) (g : HS), i + m = s 0 4 → m < n → FR [125] [] nD h g → (∀ q, q < i → hI g 125 q = b2 (cand s c (s 0 0) q)) → ∃ g', FR [125] [] nD h g' ∧ p234_L14 F (nI c) n g (nI (cnt (cand s c (s 0 0)) i)) (nI i) = some (oI (nxN s c (s 0 3)), g') := by
  have b4 := E.cn.b4
  have b7 := E.cn.b7
  have b3 := E.cn.b3
  have b0 := E.cn.b0
  intro m
  induction m with
  | zero =>
    intro i n g hi hn fg hk
    obtain ⟨n, rfl⟩ : ∃ n', n = n' + 1 := ⟨n - 1, by omega⟩
    have E2 : EV s g := E.fr fg (by decide) evD_n
    have e : i = s 0 4 := by omega
    subst e
    rw [p234_L14, E2.cn.m4, if_neg Int32.lt_irrefl]
    exact ⟨g, fg, nxM_L E2 hc hk hF (s 0 3) 0 F (by omega) (by omega)⟩
  | succ m ih =>
    intro i n g hi hn fg hk
    obtain ⟨n, rfl⟩ : ∃ n', n = n' + 1 := ⟨n - 1, by omega⟩
    have E2 : EV s g := E.fr fg (by decide) evD_n
    have hi' : i < s 0 4 := by omega
    have hle : outN s c i (s 0 0) ≤ s 0 7 := fsN_le _ _
    rw [p234_L14, E2.cn.m4, if_pos (nI_lt hi' (by omega)), E2.cn.m0, outM E2 hc (by omega) b0 hF, ob]
    simp (disch := omega) only [opI_m1]
    have st := cnt_ss (cand s c (s 0 0)) i
    have go : ∀ b : Bool, cand s c (s 0 0) i = b → ∃ g', FR [125] [] nD h g' ∧ p234_j46 F (nI c) (p234_L14 F (nI c) n) g (nI (cnt (cand s c (s 0 0)) i)) (nI i) (b2 b) (nI i) = some (oI (nxN s c (s 0 3)), g') := fun b hb => by
      unfold p234_j46 p234_j62
      have vb : vp_nar .boolean (b2 b) = b2 b := by cases b <;> rfl
      rw [if_neg (nI_in (by omega) (by decide)), if_neg (nI_in (by omega) (by decide)), nI_clamp (by omega), vb]
      have rd : hI (hsI g 125 i (b2 b)) 125 i = b2 b := if_pos ⟨rfl, rfl⟩
      rw [rd, b2_if, nI_1 i]
      have f2 : FR [125] [] nD h (hsI g 125 i (b2 b)) := fg.sI (Or.inl (by decide))
      obtain ⟨g', fg', e'⟩ := ih (i + 1) n _ (by omega) (by omega) f2 (fun q hq => by
        by_cases z : q = i
        · subst z; rw [hb]; exact rd
        · exact (if_neg (fun y => z y.2)).trans (hk q (by omega)))
      refine ⟨g', fg', ?_⟩
      rw [st, hb] at e'
      cases b
      · rw [if_neg (by decide), show (0 : Int32) = nI 0 from rfl, nI_add]; exact e'
      · rw [if_pos rfl, show (1 : Int32) = nI 1 from rfl, nI_add]; exact e'
    by_cases h1 : outN s c i (s 0 0) = s 0 7
    · rw [if_pos h1]
      exact go true (decide_eq_true h1)
    · rw [if_neg h1]
      exact go false (decide_eq_false h1)
theorem w_next (E : EV s h) {F : Nat} (hF : 1000 ≤ F) (a : Int32) : ∃ v h1 h2, p137 F h a = some (v, h1) ∧ p234 F h1 a = some (v, h2) ∧ FR [56, 125] [] nD h h2 := by
  have c6 := E.cn.b6
  unfold p137 p234 p2
  rw [E.cn.c6, E.cn.c0, E.cn.c3]
  rcases ixc a (s 0 6) (by omega) with ⟨h1, h2, -⟩ | ⟨i, hi, rfl, h1, h2⟩
  · refine ⟨-1, h, h, ?_, ?_, FR.rf nD160⟩
    · simp only [h1, ob, one0, eq_self, or_true, true_or, if_true, if_false]
    · unfold p218
      rw [E.cn.m6]
      simp only [h2, ob, one0, eq_self, or_true, true_or, if_true, if_false]
  · obtain ⟨g, fg, e1⟩ := nxC E (c := i) (by omega) hF
    have E2 : EV s g := E.fr fg (by decide) evD_n
    obtain ⟨g2, fg2, e2⟩ := nxM_S E2 (c := i) (by omega) hF (s 0 4) 0 F g (by omega) (by have := E.cn.b4; omega) (FR.rf nD160) (fun q z => by omega)
    refine ⟨oI (nxN s i (s 0 3)), g, g2, ?_, ?_, (fg.mo (by decide) (by decide) (fun _ z => z) nD160).tr (fg2.mo (by decide) (by decide) (fun _ z => z) nD160)⟩
    · simp only [h1, e1, ob, one0, eq_self, or_true, true_or, if_true, if_false]
    · unfold p218
      rw [E2.cn.m6]
      simp only [h2, ob, one0, eq_self, or_true, true_or, if_true, if_false]
      exact e2
end NXT
