/-! how many papers, who is sure, the k-th, accounts: both sides -/
def nR (s : SS) (c d : Nat) : Nat := cnt (fun r => decide (s 13 r = c) && knR s r d) (s 0 7)
def nB (s : SS) (c d : Nat) : Nat := cnt (fun r => decide (s 22 r = c) && knB s r d) (s 0 8)
section EV3
variable {s : SS} {h : HS}
theorem cnt_s (P : Nat → Bool) (i : Nat) : cnt P (i + 1) = cnt P i + if P i = true then 1 else 0 := rfl
theorem nRC_L (E : EV s h) {c d : Nat} (hc : c < 2147483648) (hd : d ≤ 3999) (F : Nat) : ∀ (m i n : Nat), i + m = s 0 7 → m < n → p16_L6 F (some 54) (nI (s 0 7)) (nI c) (nI d) n h (nI (cnt (fun r => decide (s 13 r = c) && knR s r d) i)) (nI i) = some (nI (nR s c d)) := by
  have c7 := E.cn.b7
  have c6 := E.cn.b6
  intro m
  induction m with
  | zero =>
    intro i n hi hn
    obtain ⟨n, rfl⟩ : ∃ n', n = n' + 1 := ⟨n - 1, by omega⟩
    have e : i = s 0 7 := by omega
    subst e
    unfold p16_L6
    rw [if_neg Int32.lt_irrefl]
    rfl
  | succ m ih =>
    intro i n hi hn
    obtain ⟨n, rfl⟩ : ∃ n', n = n' + 1 := ⟨n - 1, by omega⟩
    have hi' : i < s 0 7 := by omega
    have x1 := E.rp.b1 hi'
    have ih' := ih (i + 1) n (by omega) (by omega)
    rw [cnt_s] at ih'
    unfold p16_L6 p16_j37
    rw [if_pos (nI_lt hi' (by omega)), ob, if_pos (show hT h 54 = 27 from E.w.t 54 (by decide)), show hN h 54 = 200 from E.w.n 54 (by decide), if_neg (nI_in (N := 200) (by omega) (by omega)), nI_clamp (by omega), E.rp.o hi', ob, if_pos (E.rp.t hi'), if_neg (show ¬ (nI i < 0 ∨ 200 ≤ i) from fun z => z.elim (nI_pos (by omega)) (by omega)), ob, if_pos (E.rp.t hi'), E.rp.f3 hi', k_R E hi' hd, ob, nI_1, nI_1]
    simp (disch := omega) only [eq_nI, b2_eq0]
    by_cases h1 : s 13 i = c
    · rw [if_pos h1]
      rw [decide_eq_true h1, Bool.true_and] at ih'
      cases h2 : knR s i d with
      | false => rw [if_pos rfl]; rw [h2] at ih'; exact ih'
      | true => rw [if_neg (by decide)]; rw [h2] at ih'; exact ih'
    · rw [if_neg h1]
      rw [decide_eq_false h1, Bool.false_and] at ih'
      exact ih'
theorem nRC (E : EV s h) {c d : Nat} (hc : c < 2147483648) (hd : d ≤ 3999) {F : Nat} (hF : 1000 ≤ F) : p14 F h (nI c) (nI d) = some (nI (nR s c d)) := by
  have c7 := E.cn.b7
  unfold p14 p16
  rw [E.cn.c7]
  have := nRC_L E hc hd F (s 0 7) 0 F (by omega) (by omega)
  rw [show (0 : Int32) = nI 0 from rfl]
  rw [show nI (cnt (fun r => decide (s 13 r = c) && knR s r d) 0) = nI 0 from rfl] at this
  rw [this]
  rfl
theorem nBC_L (E : EV s h) {c d : Nat} (hc : c < 2147483648) (hd : d ≤ 3999) (F : Nat) : ∀ (m i n : Nat), i + m = s 0 8 → m < n → p16_L6 F (some 55) (nI (s 0 8)) (nI c) (nI d) n h (nI (cnt (fun r => decide (s 22 r = c) && knB s r d) i)) (nI i) = some (nI (nB s c d)) := by
  have c7 := E.cn.b8
  have c6 := E.cn.b6
  intro m
  induction m with
  | zero =>
    intro i n hi hn
    obtain ⟨n, rfl⟩ : ∃ n', n = n' + 1 := ⟨n - 1, by omega⟩
    have e : i = s 0 8 := by omega
    subst e
    unfold p16_L6
    rw [if_neg Int32.lt_irrefl]
    rfl
  | succ m ih =>
    intro i n hi hn
    obtain ⟨n, rfl⟩ : ∃ n', n = n' + 1 := ⟨n - 1, by omega⟩
    have hi' : i < s 0 8 := by omega
    have x1 := E.bl.b1 hi'
    have ih' := ih (i + 1) n (by omega) (by omega)
    rw [cnt_s] at ih'
    unfold p16_L6 p16_j37
    rw [if_pos (nI_lt hi' (by omega)), ob, if_pos (show hT h 55 = 27 from E.w.t 55 (by decide)), show hN h 55 = 200 from E.w.n 55 (by decide), if_neg (nI_in (N := 200) (by omega) (by omega)), nI_clamp (by omega), E.bl.o hi', ob, if_pos (E.bl.t hi'), if_neg (show ¬ (nI i < 0 ∨ 200 ≤ i) from fun z => z.elim (nI_pos (by omega)) (by omega)), ob, if_pos (E.bl.t hi'), E.bl.f3 hi', k_B E hi' hd, ob, nI_1, nI_1]
    simp (disch := omega) only [eq_nI, b2_eq0]
    by_cases h1 : s 22 i = c
    · rw [if_pos h1]
      rw [decide_eq_true h1, Bool.true_and] at ih'
      cases h2 : knB s i d with
      | false => rw [if_pos rfl]; rw [h2] at ih'; exact ih'
      | true => rw [if_neg (by decide)]; rw [h2] at ih'; exact ih'
    · rw [if_neg h1]
      rw [decide_eq_false h1, Bool.false_and] at ih'
      exact ih'
theorem nBC (E : EV s h) {c d : Nat} (hc : c < 2147483648) (hd : d ≤ 3999) {F : Nat} (hF : 1000 ≤ F) : p15 F h (nI c) (nI d) = some (nI (nB s c d)) := by
  have c7 := E.cn.b8
  unfold p15 p16
  rw [E.cn.c8]
  have := nBC_L E hc hd F (s 0 8) 0 F (by omega) (by omega)
  rw [show (0 : Int32) = nI 0 from rfl]
  rw [show nI (cnt (fun r => decide (s 22 r = c) && knB s r d) 0) = nI 0 from rfl] at this
  rw [this]
  rfl
theorem nRM_L (E : EV s h) {c d : Nat} (hc : c < 2147483648) (hd : d ≤ 3999) (F : Nat) : ∀ (m i n : Nat), i + m = s 0 7 → m < n → p230_L5 F (nI c) (nI d) n h (nI (cnt (fun r => decide (s 13 r = c) && knR s r d) i)) (nI i) = some (nI (nR s c d)) := by
  have c7 := E.cn.b7
  have c6 := E.cn.b6
  intro m
  induction m with
  | zero =>
    intro i n hi hn
    obtain ⟨n, rfl⟩ : ∃ n', n = n' + 1 := ⟨n - 1, by omega⟩
    have e : i = s 0 7 := by omega
    subst e
    unfold p230_L5
    rw [E.cn.m7, if_neg Int32.lt_irrefl]
    rfl
  | succ m ih =>
    intro i n hi hn
    obtain ⟨n, rfl⟩ : ∃ n', n = n' + 1 := ⟨n - 1, by omega⟩
    have hi' : i < s 0 7 := by omega
    have x1 := E.rp.b1 hi'
    have ih' := ih (i + 1) n (by omega) (by omega)
    rw [cnt_s] at ih'
    unfold p230_L5 p230_j40 p230_j41
    rw [E.cn.m7, if_pos (nI_lt hi' (by omega)), if_neg (nI_in (by omega) (by omega)), nI_clamp (by omega), E.rp.m1 hi', m_R E hi' hd, ob, nI_1, nI_1, show (0 : Int32) = nI 0 from rfl, nI_add]
    rw [show nI 0 = (0 : Int32) from rfl]
    simp (disch := omega) only [eq_nI, b2_eq0]
    by_cases h1 : s 13 i = c
    · rw [if_pos h1]
      rw [decide_eq_true h1, Bool.true_and] at ih'
      cases h2 : knR s i d with
      | false => rw [if_pos rfl]; rw [h2] at ih'; exact ih'
      | true => rw [if_neg (by decide)]; rw [h2] at ih'; exact ih'
    · rw [if_neg h1]
      rw [decide_eq_false h1, Bool.false_and] at ih'
      exact ih'
theorem nRM (E : EV s h) {c d : Nat} (hc : c < 2147483648) (hd : d ≤ 3999) {F : Nat} (hF : 1000 ≤ F) : p230 F h (nI c) (nI d) = some (nI (nR s c d)) := by
  have c7 := E.cn.b7
  exact nRM_L E hc hd F (s 0 7) 0 F (by omega) (by omega)
theorem nBM_L (E : EV s h) {c d : Nat} (hc : c < 2147483648) (hd : d ≤ 3999) (F : Nat) : ∀ (m i n : Nat), i + m = s 0 8 → m < n → p231_L5 F (nI c) (nI d) n h (nI (cnt (fun r => decide (s 22 r = c) && knB s r d) i)) (nI i) = some (nI (nB s c d)) := by
  have c7 := E.cn.b8
  have c6 := E.cn.b6
  intro m
  induction m with
  | zero =>
    intro i n hi hn
    obtain ⟨n, rfl⟩ : ∃ n', n = n' + 1 := ⟨n - 1, by omega⟩
    have e : i = s 0 8 := by omega
    subst e
    unfold p231_L5
    rw [E.cn.m8, if_neg Int32.lt_irrefl]
    rfl
  | succ m ih =>
    intro i n hi hn
    obtain ⟨n, rfl⟩ : ∃ n', n = n' + 1 := ⟨n - 1, by omega⟩
    have hi' : i < s 0 8 := by omega
    have x1 := E.bl.b1 hi'
    have ih' := ih (i + 1) n (by omega) (by omega)
    rw [cnt_s] at ih'
    unfold p231_L5 p231_j40 p231_j41
    rw [E.cn.m8, if_pos (nI_lt hi' (by omega)), if_neg (nI_in (by omega) (by omega)), nI_clamp (by omega), E.bl.m1 hi', m_B E hi' hd, ob, nI_1, nI_1, show (0 : Int32) = nI 0 from rfl, nI_add]
    rw [show nI 0 = (0 : Int32) from rfl]
    simp (disch := omega) only [eq_nI, b2_eq0]
    by_cases h1 : s 22 i = c
    · rw [if_pos h1]
      rw [decide_eq_true h1, Bool.true_and] at ih'
      cases h2 : knB s i d with
      | false => rw [if_pos rfl]; rw [h2] at ih'; exact ih'
      | true => rw [if_neg (by decide)]; rw [h2] at ih'; exact ih'
    · rw [if_neg h1]
      rw [decide_eq_false h1, Bool.false_and] at ih'
      exact ih'
theorem nBM (E : EV s h) {c d : Nat} (hc : c < 2147483648) (hd : d ≤ 3999) {F : Nat} (hF : 1000 ≤ F) : p231 F h (nI c) (nI d) = some (nI (nB s c d)) := by
  have c7 := E.cn.b8
  exact nBM_L E hc hd F (s 0 8) 0 F (by omega) (by omega)
/-! the k-th of a set -/
/-- the place of the k-th (from 0) of those below n: some of it -/
def kth (P : Nat → Bool) (k : Nat) : Nat → Option Nat
  | 0 => none
  | n + 1 => match kth P k n with
    | some i => some i
    | none => if P n && decide (cnt P n = k) then some n else none
theorem kth_ge {P : Nat → Bool} {k n i : Nat} (h : kth P k n = some i) : ∀ m, kth P k (n + m) = some i
  | 0 => h
  | m + 1 => by
    show (match kth P k (n + m) with | some i => some i | none => _) = _
    rw [kth_ge h m]
theorem kth_step {P : Nat → Bool} {k i : Nat} (h : kth P k i = none) (hp : P i = true) (hc : cnt P i = k) : ∀ n, i < n → kth P k n = some i := by
  have h1 : kth P k (i + 1) = some i := by
    show (match kth P k i with | some i => some i | none => _) = _
    rw [h]
    simp only
    rw [hp, decide_eq_true hc]
    rfl
  intro n hn
  have := kth_ge h1 (n - (i + 1))
  rwa [show i + 1 + (n - (i + 1)) = n by omega] at this
theorem kth_no {P : Nat → Bool} {k i : Nat} (h : kth P k i = none) (hn : P i = true → ¬ cnt P i = k) : kth P k (i + 1) = none := by
  show (match kth P k i with | some i => some i | none => _) = _
  rw [h]
  simp only
  cases hp : P i with
  | false => rfl
  | true => rw [decide_eq_false (hn hp)]; rfl
theorem kth_beyond {P : Nat → Bool} {k n : Nat} (hP : ∀ i, n ≤ i → P i = false) : ∀ m, kth P k (n + m) = kth P k n
  | 0 => rfl
  | m + 1 => by
    show (match kth P k (n + m) with | some i => some i | none => _) = _
    rw [kth_beyond hP m, hP (n.add m) (Nat.le_add_right _ _)]
    cases kth P k n <;> rfl
theorem kth_congr {P Q : Nat → Bool} {k : Nat} : ∀ n, (∀ i, i < n → P i = Q i) → kth P k n = kth Q k n
  | 0, _ => rfl
  | n + 1, h => by
    show (match kth P k n with | some i => some i | none => _) = (match kth Q k n with | some i => some i | none => _)
    rw [kth_congr n (fun i hi => h i (by omega)), h n (by omega), cnt_congr (fun i hi => h i (by omega))]
theorem kthC_L {x : Int64} {k : Nat} (hk : k < 2147483648) (F : Nat) (h : HS) : ∀ (m i n : Nat), i + m = 64 → m < n → kth (b6 x) k i = none → p169_L5 F x (nI k) n h (nI (cnt (b6 x) i)) (nI i) = some (oI (kth (b6 x) k 64)) := by
  intro m
  induction m with
  | zero =>
    intro i n hi hn hb
    obtain ⟨n, rfl⟩ : ∃ n', n = n' + 1 := ⟨n - 1, by omega⟩
    have e : i = 64 := by omega
    subst e
    unfold p169_L5
    rw [if_neg (show ¬ nI 64 < 64 by decide), hb]
    rfl
  | succ m ih =>
    intro i n hi hn hb
    obtain ⟨n, rfl⟩ : ∃ n', n = n' + 1 := ⟨n - 1, by omega⟩
    have hle := cnt_le (b6 x) i
    unfold p169_L5 p169_j34
    rw [if_pos (show nI i < 64 from nI_lt (a := i) (b := 64) (by omega) (by omega)), nI_1, nI_1]
    simp (disch := omega) only [b6_tst, eq_nI]
    have ih' := ih (i + 1) n (by omega) (by omega)
    rw [cnt_s] at ih'
    cases h1 : b6 x i with
    | false =>
      rw [if_pos rfl]
      rw [h1] at ih'
      exact ih' (kth_no hb (fun z => by rw [h1] at z; cases z))
    | true =>
      rw [if_neg (by decide)]
      rw [h1] at ih'
      by_cases h2 : cnt (b6 x) i = k
      · rw [if_pos h2, kth_step hb h1 h2 64 (by omega)]
        rfl
      · rw [if_neg h2]
        exact ih' (kth_no hb (fun _ => h2))
theorem kthC_neg {x : Int64} {a : Int32} (ha : ∀ k, k < 2147483648 → ¬ a = nI k) (F : Nat) (h : HS) : ∀ (m i n : Nat), i + m = 64 → m < n → p169_L5 F x a n h (nI (cnt (b6 x) i)) (nI i) = some (-1) := by
  intro m
  induction m with
  | zero =>
    intro i n hi hn
    obtain ⟨n, rfl⟩ : ∃ n', n = n' + 1 := ⟨n - 1, by omega⟩
    have e : i = 64 := by omega
    subst e
    unfold p169_L5
    rw [if_neg (show ¬ nI 64 < 64 by decide)]
  | succ m ih =>
    intro i n hi hn
    obtain ⟨n, rfl⟩ : ∃ n', n = n' + 1 := ⟨n - 1, by omega⟩
    have hle := cnt_le (b6 x) i
    unfold p169_L5 p169_j34
    rw [if_pos (show nI i < 64 from nI_lt (a := i) (b := 64) (by omega) (by omega)), nI_1, nI_1]
    simp (disch := omega) only [b6_tst]
    have ih' := ih (i + 1) n (by omega) (by omega)
    rw [cnt_s] at ih'
    cases h1 : b6 x i with
    | false => rw [if_pos rfl]; rw [h1] at ih'; exact ih'
    | true => rw [if_neg (by decide), if_neg (fun z => ha _ (show cnt (b6 x) i < 2147483648 by omega) z.symm)]; rw [h1] at ih'; exact ih'
end EV3
