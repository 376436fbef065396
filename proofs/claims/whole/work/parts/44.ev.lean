/-! what is known, who is out, who is left: both sides -/
def knS (s : SS) (k d : Nat) : Bool := decide (s 10 k ≤ d ∧ d < s 11 k)
def knR (s : SS) (r d : Nat) : Bool := decide (s 19 r ≤ d ∧ d < s 20 r ∧ s 2 (s 12 r) ≤ d)
def knB (s : SS) (b d : Nat) : Bool := decide (s 24 b ≤ d ∧ d < s 25 b ∧ s 2 (s 21 b) ≤ d)
def sgt (s : SS) (q o d k : Nat) : Bool := decide (s 6 k = q ∧ s 8 k ≤ o ∧ o ≤ s 9 k) && knS s k d
def elsw (s : SS) (q pl o d : Nat) : Bool := anyN (sgt s q o d) (s 0 5) && !anyN (fun k => sgt s q o d k && decide (s 7 k = pl)) (s 0 5)
def brs (s : SS) (r q d : Nat) : Bool := elsw s q (s 16 r) (s 17 r) d || decide (q = s 14 r)
def outP (s : SS) (c q d r : Nat) : Bool := decide (s 13 r = c) && knR s r d && brs s r q d
def outN (s : SS) (c q d : Nat) : Nat := fsN (outP s c q d) (s 0 7)
def cand (s : SS) (c d q : Nat) : Bool := decide (outN s c q d = s 0 7)
theorem b2_eq0 (b : Bool) : (b2 b = 0) = (b = false) := by cases b <;> exact propext ⟨fun h => by first | rfl | exact absurd h (by decide), fun h => by first | rfl | cases h⟩
theorem one0 : ((1 : Int32) = 0) = False := eq_false (by decide)
theorem anyN_no {P : Nat → Bool} {i : Nat} (h : P i = false) : anyN P (i + 1) = anyN P i := by show (anyN P i || P i) = _; rw [h, Bool.or_false]
theorem anyN_s (P : Nat → Bool) (i : Nat) : anyN P (i + 1) = (anyN P i || P i) := rfl
theorem dC_b {x now d : Nat} (hn : now ≤ 3999) (h : okDy x now) (hd : d ≤ 3999) : dC x ≤ 4000 ∧ (d < dC x ↔ d < x) ∧ (dC x = 4000 ↔ x = 100000) ∧ x < 2147483648 := by
  unfold okDy at h
  unfold dC
  split <;> omega
section EVS
variable {s : SS} {h : HS}
theorem k_S (E : EV s h) {k d : Nat} (hk : k < s 0 5) (hd : d ≤ 3999) : p69 h (s 31 k) (nI d) = some (b2 (knS s k d)) := by
  have b0 := E.cn.b0
  have g4 := E.sn.b4 hk
  obtain ⟨z1, z2, -⟩ := dC_b (Nat.le_refl 3999) (E.sn.b5 hk) hd
  unfold p69 knS
  rw [E.sn.f1 hk, E.sn.f2 hk, E.sn.r0 hk]
  simp (disch := omega) only [lt_nI]
  by_cases h1 : d < s 10 k
  · rw [if_pos h1, decide_eq_false (by omega)]; rfl
  · rw [if_neg h1]
    by_cases h2 : d < dC (s 11 k)
    · rw [if_pos h2, if_pos trivial, decide_eq_true (by omega)]; rfl
    · rw [if_neg h2, decide_eq_false (by omega)]; rfl
theorem k_R (E : EV s h) {r d : Nat} (hr : r < s 0 7) (hd : d ≤ 3999) : p69 h (s 32 r) (nI d) = some (b2 (knR s r d)) := by
  have b0 := E.cn.b0
  have g7 := E.rp.b7 hr
  have hs := E.rp.b0 hr
  obtain ⟨z1, z2, -⟩ := dC_b (Nat.le_refl 3999) (E.rp.b8 hr) hd
  obtain ⟨y1, y2, -⟩ := dC_b (Nat.le_refl 3999) (E.sh.b2 hs) hd
  unfold p69 knR
  rw [E.rp.f1 hr, E.rp.f2 hr, E.rp.r0 hr]
  simp (disch := omega) only [lt_nI]
  by_cases h1 : d < s 19 r
  · rw [if_pos h1, decide_eq_false (by omega)]; rfl
  · rw [if_neg h1]
    by_cases h2 : d < dC (s 20 r)
    · rw [if_pos h2, if_neg (by intro z; cases z), ob, ob, if_pos (E.sh.t hs), E.sh.f2 hs]
      simp (disch := omega) only [lt_nI]
      by_cases h3 : d < dC (s 2 (s 12 r))
      · rw [if_pos h3, decide_eq_false (by omega)]; rfl
      · rw [if_neg h3, decide_eq_true (by omega)]; rfl
    · rw [if_neg h2, decide_eq_false (by omega)]; rfl
theorem k_B (E : EV s h) {r d : Nat} (hr : r < s 0 8) (hd : d ≤ 3999) : p69 h (s 33 r) (nI d) = some (b2 (knB s r d)) := by
  have b0 := E.cn.b0
  have g7 := E.bl.b3 hr
  have hs := E.bl.b0 hr
  obtain ⟨z1, z2, -⟩ := dC_b (Nat.le_refl 3999) (E.bl.b4 hr) hd
  obtain ⟨y1, y2, -⟩ := dC_b (Nat.le_refl 3999) (E.sh.b2 hs) hd
  unfold p69 knB
  rw [E.bl.f1 hr, E.bl.f2 hr, E.bl.r0 hr]
  simp (disch := omega) only [lt_nI]
  by_cases h1 : d < s 24 r
  · rw [if_pos h1, decide_eq_false (by omega)]; rfl
  · rw [if_neg h1]
    by_cases h2 : d < dC (s 25 r)
    · rw [if_pos h2, if_neg (by intro z; cases z), ob, ob, if_pos (E.sh.t hs), E.sh.f2 hs]
      simp (disch := omega) only [lt_nI]
      by_cases h3 : d < dC (s 2 (s 21 r))
      · rw [if_pos h3, decide_eq_false (by omega)]; rfl
      · rw [if_neg h3, decide_eq_true (by omega)]; rfl
    · rw [if_neg h2, decide_eq_false (by omega)]; rfl
theorem m_R (E : EV s h) {r d : Nat} (hr : r < s 0 7) (hd : d ≤ 3999) : p222 h (nI r) (nI d) = some (b2 (knR s r d)) := by
  have b0 := E.cn.b0
  have b7 := E.cn.b7
  have b3 := E.cn.b3
  have g7 := E.rp.b7 hr
  have hs := E.rp.b0 hr
  obtain ⟨-, -, -, z1⟩ := dC_b (Nat.le_refl 3999) (E.rp.b8 hr) hd
  obtain ⟨-, -, -, y1⟩ := dC_b (Nat.le_refl 3999) (E.sh.b2 hs) hd
  unfold p222 knR
  have gr : ¬ (nI r < 0 ∨ 200 ≤ (nI r).toNatClampNeg) := nI_in (by omega) (by omega)
  rw [if_neg gr, if_neg gr, if_neg gr, nI_clamp (by omega), E.rp.m7 hr, E.rp.m8 hr, E.rp.m0 hr, if_neg (nI_in (by omega) (by omega)), nI_clamp (by omega), E.sh.m2 hs]
  simp (disch := omega) only [lt_nI]
  by_cases h1 : d < s 19 r
  · rw [if_pos h1, decide_eq_false (by omega)]; rfl
  · rw [if_neg h1]
    by_cases h2 : d < s 20 r
    · rw [if_pos h2]
      by_cases h3 : d < s 2 (s 12 r)
      · rw [if_pos h3, decide_eq_false (by omega)]; rfl
      · rw [if_neg h3, decide_eq_true (by omega)]; rfl
    · rw [if_neg h2, decide_eq_false (by omega)]; rfl
theorem m_B (E : EV s h) {r d : Nat} (hr : r < s 0 8) (hd : d ≤ 3999) : p223 h (nI r) (nI d) = some (b2 (knB s r d)) := by
  have b0 := E.cn.b0
  have b7 := E.cn.b8
  have b3 := E.cn.b3
  have g7 := E.bl.b3 hr
  have hs := E.bl.b0 hr
  obtain ⟨-, -, -, z1⟩ := dC_b (Nat.le_refl 3999) (E.bl.b4 hr) hd
  obtain ⟨-, -, -, y1⟩ := dC_b (Nat.le_refl 3999) (E.sh.b2 hs) hd
  unfold p223 knB
  have gr : ¬ (nI r < 0 ∨ 200 ≤ (nI r).toNatClampNeg) := nI_in (by omega) (by omega)
  rw [if_neg gr, if_neg gr, if_neg gr, nI_clamp (by omega), E.bl.m3 hr, E.bl.m4 hr, E.bl.m0 hr, if_neg (nI_in (by omega) (by omega)), nI_clamp (by omega), E.sh.m2 hs]
  simp (disch := omega) only [lt_nI]
  by_cases h1 : d < s 24 r
  · rw [if_pos h1, decide_eq_false (by omega)]; rfl
  · rw [if_neg h1]
    by_cases h2 : d < s 25 r
    · rw [if_pos h2]
      by_cases h3 : d < s 2 (s 21 r)
      · rw [if_pos h3, decide_eq_false (by omega)]; rfl
      · rw [if_neg h3, decide_eq_true (by omega)]; rfl
    · rw [if_neg h2, decide_eq_false (by omega)]; rfl
theorem ruled_L (E : EV s h) {r d : Nat} (hr : r < s 0 7) (hd : d ≤ 3999) (F : Nat) : ∀ (m i n : Nat) (v3 v5 : Int64), i + m = s 0 5 → m < n → (∀ q, q < 64 → b6 v3 q = anyN (sgt s q (s 17 r) d) i) → (∀ q, q < 64 → b6 v5 q = anyN (fun k => sgt s q (s 17 r) d k && decide (s 7 k = s 16 r)) i) → ∃ x, p11_L8 F (some (s 32 r)) (nI d) n h v3 v5 (nI i) = some x ∧ ∀ q, q < 64 → b6 x q = brs s r q d := by
  have c5 := E.cn.b5
  have c4 := E.cn.b4
  have r2 := E.rp.b2 hr
  have r4 := E.rp.b4 hr
  have r5 := E.rp.b5 hr
  have r6 := E.rp.b6 hr
  intro m
  induction m with
  | zero =>
    intro i n v3 v5 hi hn h3 h5
    obtain ⟨n, rfl⟩ : ∃ n', n = n' + 1 := ⟨n - 1, by omega⟩
    have e : i = s 0 5 := by omega
    subst e
    unfold p11_L8
    rw [E.cn.c5, if_neg Int32.lt_irrefl, ob, if_pos (E.rp.t hr), E.rp.f4 hr]
    refine ⟨_, rfl, fun q hq => ?_⟩
    rw [b6_or, b6_and, b6_not hq, h3 q hq, h5 q hq, b6_sh (by omega) q]
    rfl
  | succ m ih =>
    intro i n v3 v5 hi hn h3 h5
    obtain ⟨n, rfl⟩ : ∃ n', n = n' + 1 := ⟨n - 1, by omega⟩
    have hi' : i < s 0 5 := by omega
    have g0 := E.sn.b0 hi'
    have g1 := E.sn.b1 hi'
    have g2 := E.sn.b2 hi'
    have g3 := E.sn.b3 hi'
    unfold p11_L8
    rw [E.cn.c5, if_pos (nI_lt hi' (by omega)), if_neg (nI_in (by omega) (by omega)), nI_clamp (by omega), E.sn.o hi', ob, if_pos (E.sn.t hi'), ob, if_pos (E.rp.t hr), E.sn.f8 hi', E.sn.f9 hi', E.sn.f6 hi', E.sn.f4 hi', E.rp.f8 hr, E.rp.f6 hr, k_S E hi' hd, ob]
    simp (disch := omega) only [b2_eq0, lt_nI, eq_nI]
    unfold p11_j92
    rw [nI_1]
    have no : (∀ q, sgt s q (s 17 r) d i = false) → ∃ x, p11_L8 F (some (s 32 r)) (nI d) n h v3 v5 (nI (i + 1)) = some x ∧ ∀ q, q < 64 → b6 x q = brs s r q d := fun hq => by
      refine ih (i + 1) n v3 v5 (by omega) (by omega) (fun q hq2 => ?_) (fun q hq2 => ?_)
      · rw [anyN_no (hq q)]; exact h3 q hq2
      · rw [anyN_no (by rw [hq q]; rfl)]; exact h5 q hq2
    by_cases h1 : s 17 r < s 8 i
    · rw [if_pos h1]
      exact no fun q => by unfold sgt; rw [decide_eq_false (by omega)]; rfl
    · rw [if_neg h1]
      by_cases h2 : s 9 i < s 17 r
      · rw [if_pos h2]
        exact no fun q => by unfold sgt; rw [decide_eq_false (by omega)]; rfl
      · rw [if_neg h2]
        by_cases hk : knS s i d = false
        · rw [if_pos hk]
          exact no fun q => by unfold sgt; rw [hk, Bool.and_false]
        · rw [if_neg hk]
          have hk1 : knS s i d = true := by simpa using hk
          have sq : ∀ q, sgt s q (s 17 r) d i = decide (q = s 6 i) := fun q => by
            unfold sgt
            rw [hk1, Bool.and_true]
            by_cases e : q = s 6 i
            · rw [decide_eq_true (by omega), decide_eq_true e]
            · rw [decide_eq_false (by omega), decide_eq_false e]
          by_cases hp : s 7 i = s 16 r
          · rw [if_pos hp]
            refine ih (i + 1) n _ _ (by omega) (by omega) (fun q hq => ?_) (fun q hq => ?_)
            · rw [anyN_s, sq q, b6_or, h3 q hq, b6_sh (by omega) q]
            · rw [anyN_s, sq q, b6_or, h5 q hq, b6_sh (by omega) q, decide_eq_true hp, Bool.and_true]
          · rw [if_neg hp]
            refine ih (i + 1) n _ _ (by omega) (by omega) (fun q hq => ?_) (fun q hq => ?_)
            · rw [anyN_s, sq q, b6_or, h3 q hq, b6_sh (by omega) q]
            · rw [anyN_no (by rw [decide_eq_false hp, Bool.and_false])]; exact h5 q hq
/-- the class's bits of those whom a report rules out -/
theorem ruled (E : EV s h) {r d : Nat} (hr : r < s 0 7) (hd : d ≤ 3999) {F : Nat} (hF : 1000 ≤ F) : ∃ x, p11 F h (some (s 32 r)) (nI d) = some x ∧ ∀ q, q < 64 → b6 x q = brs s r q d := by
  have c5 := E.cn.b5
  exact ruled_L E hr hd F (s 0 5) 0 F 0 0 (by omega) (by omega) (fun q _ => b6_0 q) (fun q _ => b6_0 q)
theorem outC_L (E : EV s h) {c q d : Nat} (hc : c < 2147483648) (hq : q < 64) (hd : d ≤ 3999) {F : Nat} (hF : 1000 ≤ F) : ∀ (m i n : Nat), i + m = s 0 7 → m < n → (∀ j, j < i → outP s c q d j = false) → p12_L3 F (nI c) (nI q) (nI d) n h (nI i) = some (opI (s 0 7) (outN s c q d)) := by
  have c7 := E.cn.b7
  have c6 := E.cn.b6
  intro m
  induction m with
  | zero =>
    intro i n hi hn hb
    obtain ⟨n, rfl⟩ : ∃ n', n = n' + 1 := ⟨n - 1, by omega⟩
    have e : i = s 0 7 := by omega
    subst e
    unfold p12_L3
    rw [E.cn.c7, if_neg Int32.lt_irrefl]
    have : outN s c q d = s 0 7 := fsN_none hb
    rw [this]
    unfold opI
    rw [if_neg (Nat.lt_irrefl _)]
  | succ m ih =>
    intro i n hi hn hb
    obtain ⟨n, rfl⟩ : ∃ n', n = n' + 1 := ⟨n - 1, by omega⟩
    have hi' : i < s 0 7 := by omega
    have g1 := E.rp.b1 hi'
    obtain ⟨x, hx, hxb⟩ := ruled E hi' hd hF
    unfold p12_L3
    rw [E.cn.c7, if_pos (nI_lt hi' (by omega)), if_neg (nI_in (by omega) (by omega)), nI_clamp (by omega), E.rp.o hi', ob, if_pos (E.rp.t hi'), E.rp.f3 hi', k_R E hi' hd, ob, hx, ob]
    simp (disch := omega) only [b6_tst, b2_eq0, eq_nI, hxb q hq]
    unfold p12_j58
    rw [nI_1]
    have no : outP s c q d i = false → p12_L3 F (nI c) (nI q) (nI d) n h (nI (i + 1)) = some (opI (s 0 7) (outN s c q d)) := fun z => ih (i + 1) n (by omega) (by omega) (fun j hj => by
      rcases Nat.lt_or_ge j i with y | y
      · exact hb j y
      · rw [show j = i by omega]; exact z)
    by_cases h1 : s 13 i = c
    · rw [if_pos h1]
      cases h2 : knR s i d with
      | false => rw [if_pos rfl]; exact no (by unfold outP; rw [h2, Bool.and_false]; rfl)
      | true =>
        rw [if_neg (by decide)]
        cases h3 : brs s i q d with
        | false => rw [if_pos rfl]; exact no (by unfold outP; rw [h3, Bool.and_false])
        | true =>
          rw [if_neg (by decide)]
          have : outN s c q d = i := fsN_first hi' (by unfold outP; rw [h2, h3, decide_eq_true h1]; rfl) hb
          rw [this]
          unfold opI
          rw [if_pos hi']
    · rw [if_neg h1]
      exact no (by unfold outP; rw [decide_eq_false h1]; rfl)
theorem outC (E : EV s h) {c q d : Nat} (hc : c < 2147483648) (hq : q < 64) (hd : d ≤ 3999) {F : Nat} (hF : 1000 ≤ F) : p12 F h (nI c) (nI q) (nI d) = some (opI (s 0 7) (outN s c q d)) := by
  have c7 := E.cn.b7
  exact outC_L E hc hq hd hF (s 0 7) 0 F (by omega) (by omega) (fun j hj => by omega)
theorem cand_of (E : EV s h) {c d q : Nat} : cand s c d q = true ↔ ∀ r, r < s 0 7 → outP s c q d r = false := by
  unfold cand outN
  rw [decide_eq_true_iff]
  exact fsN_none_iff
theorem candC_L (E : EV s h) {c d : Nat} (hc : c < 2147483648) (hd : d ≤ 3999) {F : Nat} (hF : 1000 ≤ F) : ∀ (m i n : Nat) (v : Int64), i + m = s 0 7 → m < n → (∀ q, q < 64 → b6 v q = (decide (q < s 0 4) && !anyN (outP s c q d) i)) → ∃ x, p13_L8 F (nI c) (nI d) n h v (nI i) = some x ∧ ∀ q, q < 64 → b6 x q = (decide (q < s 0 4) && cand s c d q) := by
  have c7 := E.cn.b7
  have c6 := E.cn.b6
  intro m
  induction m with
  | zero =>
    intro i n v hi hn hb
    obtain ⟨n, rfl⟩ : ∃ n', n = n' + 1 := ⟨n - 1, by omega⟩
    have e : i = s 0 7 := by omega
    subst e
    unfold p13_L8
    rw [E.cn.c7, if_neg Int32.lt_irrefl]
    refine ⟨_, rfl, fun q hq => ?_⟩
    rw [hb q hq]
    congr 1
    cases ha : anyN (outP s c q d) (s 0 7) with
    | false => rw [(cand_of E).mpr (anyN_false.mp ha)]; rfl
    | true =>
      cases hca : cand s c d q with
      | false => rfl
      | true => rw [anyN_false.mpr ((cand_of E).mp hca)] at ha; cases ha
  | succ m ih =>
    intro i n v hi hn hb
    obtain ⟨n, rfl⟩ : ∃ n', n = n' + 1 := ⟨n - 1, by omega⟩
    have hi' : i < s 0 7 := by omega
    have g1 := E.rp.b1 hi'
    obtain ⟨x, hx, hxb⟩ := ruled E hi' hd hF
    unfold p13_L8
    rw [E.cn.c7, if_pos (nI_lt hi' (by omega)), if_neg (nI_in (by omega) (by omega)), nI_clamp (by omega), E.rp.o hi', ob, if_pos (E.rp.t hi'), E.rp.f3 hi', k_R E hi' hd, ob, hx, ob]
    simp (disch := omega) only [b2_eq0, eq_nI]
    unfold p13_j58
    rw [nI_1]
    have no : (∀ q, q < 64 → outP s c q d i = false) → ∃ x, p13_L8 F (nI c) (nI d) n h v (nI (i + 1)) = some x ∧ ∀ q, q < 64 → b6 x q = (decide (q < s 0 4) && cand s c d q) := fun z => ih (i + 1) n v (by omega) (by omega) (fun q hq => by rw [anyN_no (z q hq)]; exact hb q hq)
    by_cases h1 : s 13 i = c
    · rw [if_pos h1]
      cases h2 : knR s i d with
      | false => rw [if_pos rfl]; exact no fun q _ => by unfold outP; rw [h2, Bool.and_false]; rfl
      | true =>
        rw [if_neg (by decide)]
        refine ih (i + 1) n _ (by omega) (by omega) (fun q hq => ?_)
        rw [b6_and, b6_not hq, hxb q hq, hb q hq, anyN_s]
        have : outP s c q d i = brs s i q d := by unfold outP; rw [h2, decide_eq_true h1]; rfl
        rw [this, Bool.not_or, Bool.and_assoc]
    · rw [if_neg h1]
      exact no fun q _ => by unfold outP; rw [decide_eq_false h1]; rfl
/-- the class's bits of the candidates -/
theorem candC (E : EV s h) {c d : Nat} (hc : c < 2147483648) (hd : d ≤ 3999) {F : Nat} (hF : 1000 ≤ F) : ∃ x, p13 F h (nI c) (nI d) = some x ∧ ∀ q, q < 64 → b6 x q = (decide (q < s 0 4) && cand s c d q) := by
  have c7 := E.cn.b7
  have c4 := E.cn.b4
  unfold p13 p10
  rw [ob, E.cn.c4]
  exact candC_L E hc hd hF (s 0 7) 0 F _ (by omega) (by omega) (fun q hq => by rw [b6_all _ (by omega) q hq]; simp [anyN])
/-! the reference's -/
theorem elsM_L (E : EV s h) {q pl o d : Nat} (hq : q < 2147483648) (hp : pl < 2147483648) (ho : o ≤ 9999) (hd : d ≤ 3999) (F : Nat) : ∀ (m i n : Nat), i + m = s 0 5 → m < n → p216_L9 F (nI q) (nI pl) (nI o) (nI d) n h (b2 (anyN (sgt s q o d) i)) (b2 (anyN (fun k => sgt s q o d k && decide (s 7 k = pl)) i)) (nI i) = some (b2 (elsw s q pl o d)) := by
  have c5 := E.cn.b5
  have c4 := E.cn.b4
  have c0 := E.cn.b0
  intro m
  induction m with
  | zero =>
    intro i n hi hn
    obtain ⟨n, rfl⟩ : ∃ n', n = n' + 1 := ⟨n - 1, by omega⟩
    have e : i = s 0 5 := by omega
    subst e
    unfold p216_L9 elsw
    rw [E.cn.m5, if_neg Int32.lt_irrefl]
    simp (disch := omega) only [b2_eq0]
    cases anyN (sgt s q o d) (s 0 5) <;> cases anyN (fun k => sgt s q o d k && decide (s 7 k = pl)) (s 0 5) <;> rfl
  | succ m ih =>
    intro i n hi hn
    obtain ⟨n, rfl⟩ : ∃ n', n = n' + 1 := ⟨n - 1, by omega⟩
    have hi' : i < s 0 5 := by omega
    have g0 := E.sn.b0 hi'
    have g1 := E.sn.b1 hi'
    have g2 := E.sn.b2 hi'
    have g3 := E.sn.b3 hi'
    have g4 := E.sn.b4 hi'
    obtain ⟨-, -, -, z1⟩ := dC_b (Nat.le_refl 3999) (E.sn.b5 hi') hd
    have hr := rngN (nI o) (s 8 i) (s 9 i) (by omega) (by omega)
    have ih' := ih (i + 1) n (by omega) (by omega)
    rw [anyN_s, anyN_s] at ih'
    unfold p216_L9
    have gi : ¬ (nI i < 0 ∨ 400 ≤ (nI i).toNatClampNeg) := nI_in (by omega) (by omega)
    rw [E.cn.m5, if_pos (nI_lt hi' (by omega)), if_neg gi, if_neg gi, if_neg gi, if_neg gi, if_neg gi, if_neg gi, nI_clamp (by omega), E.sn.m0 hi', E.sn.m1 hi', E.sn.m2 hi', E.sn.m3 hi', E.sn.m4 hi', E.sn.m5 hi']
    unfold p216_j93 p216_j98 p216_j100
    rw [nI_1]
    have no : sgt s q o d i = false → p216_L9 F (nI q) (nI pl) (nI o) (nI d) n h (b2 (anyN (sgt s q o d) i)) (b2 (anyN (fun k => sgt s q o d k && decide (s 7 k = pl)) i)) (nI (i + 1)) = some (b2 (elsw s q pl o d)) := fun z => by
      rw [z, Bool.false_and, Bool.or_false, Bool.or_false] at ih'
      exact ih'
    by_cases h1 : s 6 i = q
    · rw [if_pos (congrArg nI h1)]
      by_cases h2 : d < s 10 i
      · rw [if_pos (nI_lt h2 (by omega))]
        exact no (by unfold sgt knS; rw [decide_eq_false (p := s 10 i ≤ d ∧ d < s 11 i) (by omega), Bool.and_false])
      · rw [if_neg (nI_nlt (by omega) (by omega))]
        by_cases h3 : d < s 11 i
        · rw [if_pos (nI_lt h3 (by omega))]
          have hk : knS s i d = true := decide_eq_true (by omega)
          rcases hr with ⟨-, y2⟩ | ⟨-, y2, k, y3, y4, y5⟩
          · rw [y2, ob, if_pos rfl]
            refine no ?_
            unfold sgt
            rw [decide_eq_false, Bool.false_and]
            rintro ⟨-, a1, a2⟩
            have := y2 h
            unfold p187 at this
            rw [if_neg (nI_nlt a1 (by omega)), if_neg (nI_nlt a2 (by omega))] at this
            exact absurd this (by decide)
          · have ek : o = k := (nI_eq (by omega) (by omega)).mp y5
            subst ek
            rw [y2, ob, if_neg (by decide)]
            simp (disch := omega) only [b2_eq0]
            have sq : sgt s q o d i = true := by unfold sgt; rw [hk, decide_eq_true (by omega)]; rfl
            rw [sq, Bool.or_true, Bool.true_and] at ih'
            cases hv : anyN (fun k => sgt s q o d k && decide (s 7 k = pl)) i with
            | true => rw [if_neg (by decide)]; rw [hv] at ih'; exact ih'
            | false =>
              rw [if_pos rfl]
              rw [hv] at ih'
              by_cases h4 : s 7 i = pl
              · rw [if_pos (congrArg nI h4)]; rw [decide_eq_true h4] at ih'; exact ih'
              · rw [if_neg (fun z => h4 ((nI_eq (by omega) (by omega)).mp z))]; rw [decide_eq_false h4] at ih'; exact ih'
        · rw [if_neg (nI_nlt (by omega) (by omega))]
          exact no (by unfold sgt knS; rw [decide_eq_false (p := s 10 i ≤ d ∧ d < s 11 i) (by omega), Bool.and_false])
    · rw [if_neg (fun z => h1 ((nI_eq (by omega) (by omega)).mp z))]
      exact no (by unfold sgt; rw [decide_eq_false (by omega)]; rfl)
theorem elsM (E : EV s h) {q pl o d : Nat} (hq : q < 2147483648) (hp : pl < 2147483648) (ho : o ≤ 9999) (hd : d ≤ 3999) {F : Nat} (hF : 1000 ≤ F) : p216 F h (nI q) (nI pl) (nI o) (nI d) = some (b2 (elsw s q pl o d)) := by
  have c5 := E.cn.b5
  exact elsM_L E hq hp ho hd F (s 0 5) 0 F (by omega) (by omega)
theorem brsM (E : EV s h) {r q d : Nat} (hr : r < s 0 7) (hq : q < 2147483648) (hd : d ≤ 3999) {F : Nat} (hF : 1000 ≤ F) : p225 F h (nI r) (nI q) (nI d) = some (b2 (brs s r q d)) := by
  have c7 := E.cn.b7
  have c4 := E.cn.b4
  have r2 := E.rp.b2 hr
  have r4 := E.rp.b4 hr
  have r5 := E.rp.b5 hr
  have r6 := E.rp.b6 hr
  unfold p225 brs
  have gr : ¬ (nI r < 0 ∨ 200 ≤ (nI r).toNatClampNeg) := nI_in (by omega) (by omega)
  rw [if_neg gr, if_neg gr, if_neg gr, nI_clamp (by omega), E.rp.m2 hr, E.rp.m4 hr, E.rp.m5 hr, elsM E hq (by omega) (by omega) hd hF, ob]
  simp (disch := omega) only [eq_nI, b2_eq0]
  by_cases h1 : s 14 r = q
  · rw [if_pos h1, decide_eq_true h1.symm, Bool.or_true]; rfl
  · rw [if_neg h1, decide_eq_false (fun z => h1 z.symm), Bool.or_false]
    cases elsw s q (s 16 r) (s 17 r) d <;> rfl
theorem outM_L (E : EV s h) {c q d : Nat} (hc : c < 2147483648) (hq : q < 2147483648) (hd : d ≤ 3999) {F : Nat} (hF : 1000 ≤ F) : ∀ (m i n : Nat), i + m = s 0 7 → m < n → (∀ j, j < i → outP s c q d j = false) → p226_L3 F (nI c) (nI q) (nI d) n h (nI i) = some (opI (s 0 7) (outN s c q d)) := by
  have c7 := E.cn.b7
  have c6 := E.cn.b6
  intro m
  induction m with
  | zero =>
    intro i n hi hn hb
    obtain ⟨n, rfl⟩ : ∃ n', n = n' + 1 := ⟨n - 1, by omega⟩
    have e : i = s 0 7 := by omega
    subst e
    unfold p226_L3
    rw [E.cn.m7, if_neg Int32.lt_irrefl]
    have : outN s c q d = s 0 7 := fsN_none hb
    rw [this]
    unfold opI
    rw [if_neg (Nat.lt_irrefl _)]
  | succ m ih =>
    intro i n hi hn hb
    obtain ⟨n, rfl⟩ : ∃ n', n = n' + 1 := ⟨n - 1, by omega⟩
    have hi' : i < s 0 7 := by omega
    have g1 := E.rp.b1 hi'
    unfold p226_L3
    rw [E.cn.m7, if_pos (nI_lt hi' (by omega)), if_neg (nI_in (by omega) (by omega)), nI_clamp (by omega), E.rp.m1 hi', m_R E hi' hd, ob, brsM E hi' hq hd hF, ob]
    simp (disch := omega) only [b2_eq0, eq_nI]
    unfold p226_j47
    rw [nI_1]
    have no : outP s c q d i = false → p226_L3 F (nI c) (nI q) (nI d) n h (nI (i + 1)) = some (opI (s 0 7) (outN s c q d)) := fun z => ih (i + 1) n (by omega) (by omega) (fun j hj => by
      rcases Nat.lt_or_ge j i with y | y
      · exact hb j y
      · rw [show j = i by omega]; exact z)
    by_cases h1 : s 13 i = c
    · rw [if_pos h1]
      cases h2 : knR s i d with
      | false => rw [if_pos rfl]; exact no (by unfold outP; rw [h2, Bool.and_false]; rfl)
      | true =>
        rw [if_neg (by decide)]
        cases h3 : brs s i q d with
        | false => rw [if_pos rfl]; exact no (by unfold outP; rw [h3, Bool.and_false])
        | true =>
          rw [if_neg (by decide)]
          have : outN s c q d = i := fsN_first hi' (by unfold outP; rw [h2, h3, decide_eq_true h1]; rfl) hb
          rw [this]
          unfold opI
          rw [if_pos hi']
    · rw [if_neg h1]
      exact no (by unfold outP; rw [decide_eq_false h1]; rfl)
theorem outM (E : EV s h) {c q d : Nat} (hc : c < 2147483648) (hq : q < 2147483648) (hd : d ≤ 3999) {F : Nat} (hF : 1000 ≤ F) : p226 F h (nI c) (nI q) (nI d) = some (opI (s 0 7) (outN s c q d)) := by
  have c7 := E.cn.b7
  exact outM_L E hc hq hd hF (s 0 7) 0 F (by omega) (by omega) (fun j hj => by omega)
theorem opI_m1 {n k : Nat} (hn : n < 2147483648) (hk : k ≤ n) : (opI n k = -1) = (k = n) := by
  apply propext
  unfold opI
  split
  · constructor
    · intro z; exact absurd z (by rw [m1_nI (by omega)]; exact fun z => z)
    · intro z; omega
  · exact ⟨fun _ => by omega, fun _ => rfl⟩
theorem candsM_L (E : EV s h) {c d : Nat} (hc : c < 2147483648) (hd : d ≤ 3999) {F : Nat} (hF : 1000 ≤ F) : ∀ (m i n : Nat), i + m = s 0 4 → m < n → p228_L5 F (nI c) (nI d) n h (nI (cnt (cand s c d) i)) (nI i) = some (nI (cnt (cand s c d) (s 0 4))) := by
  have c7 := E.cn.b7
  have c4 := E.cn.b4
  intro m
  induction m with
  | zero =>
    intro i n hi hn
    obtain ⟨n, rfl⟩ : ∃ n', n = n' + 1 := ⟨n - 1, by omega⟩
    have e : i = s 0 4 := by omega
    subst e
    unfold p228_L5
    rw [E.cn.m4, if_neg Int32.lt_irrefl]
  | succ m ih =>
    intro i n hi hn
    obtain ⟨n, rfl⟩ : ∃ n', n = n' + 1 := ⟨n - 1, by omega⟩
    have hi' : i < s 0 4 := by omega
    have ih' := ih (i + 1) n (by omega) (by omega)
    have hle : outN s c i d ≤ s 0 7 := fsN_le _ _
    unfold p228_L5
    rw [E.cn.m4, if_pos (nI_lt hi' (by omega)), outM E hc (by omega) hd hF, ob]
    simp (disch := omega) only [opI_m1]
    unfold p228_j32
    have e1 : cnt (cand s c d) (i + 1) = cnt (cand s c d) i + if cand s c d i = true then 1 else 0 := rfl
    rw [e1] at ih'
    by_cases h1 : outN s c i d = s 0 7
    · rw [if_pos h1, nI_1, nI_1]
      have : cand s c d i = true := decide_eq_true h1
      rw [this, if_pos rfl] at ih'
      exact ih'
    · rw [if_neg h1, nI_1, show (0 : Int32) = nI 0 from rfl, nI_add]
      have : cand s c d i = false := decide_eq_false h1
      rw [this] at ih'
      exact ih'
theorem candsM (E : EV s h) {c d : Nat} (hc : c < 2147483648) (hd : d ≤ 3999) {F : Nat} (hF : 1000 ≤ F) : p228 F h (nI c) (nI d) = some (nI (cnt (cand s c d) (s 0 4))) := by
  have c4 := E.cn.b4
  exact candsM_L E hc hd hF (s 0 4) 0 F (by omega) (by omega)
end EVS
