/-! a law's text: its tokens; the class's scan -/
def adv (p : Nat → Bool) : Nat → Nat → Nat
  | 0, q => q
  | f + 1, q => if p q then adv p f (q + 1) else q
def adn (n : Nat) (p : Nat → Bool) (q : Nat) : Nat := adv p (n - q) q
theorem adn_s {n q : Nat} {p : Nat → Bool} (h : q < n) : adn n p q = if p q then adn n p (q + 1) else q := by
  unfold adn
  obtain ⟨d, hd⟩ : ∃ d, n - q = d + 1 := ⟨n - q - 1, by omega⟩
  rw [hd, adv, show n - (q + 1) = d by omega]
theorem adn_n {n q : Nat} {p : Nat → Bool} (h : n ≤ q) : adn n p q = q := by
  unfold adn
  rw [show n - q = 0 by omega, adv]
theorem adn_b {n : Nat} {p : Nat → Bool} : ∀ (d q : Nat), n - q = d → q ≤ adn n p q ∧ (q ≤ n → adn n p q ≤ n) ∧ (adn n p q < n → p (adn n p q) = false) ∧ ∀ j, q ≤ j → j < adn n p q → p j = true := by
  intro d
  induction d with
  | zero =>
    intro q hq
    rw [adn_n (by omega)]
    exact ⟨Nat.le_refl _, fun z => z, fun z => by omega, fun j a b => by omega⟩
  | succ d ih =>
    intro q hq
    rw [adn_s (by omega)]
    cases hp : p q
    · rw [if_neg (by decide)]
      exact ⟨Nat.le_refl _, fun z => z, fun _ => hp, fun j a b => by omega⟩
    · rw [if_pos rfl]
      obtain ⟨i1, i2, i3, i4⟩ := ih (q + 1) (by omega)
      exact ⟨by omega, fun z => i2 (by omega), i3, fun j a b => by
        by_cases z : j = q
        · subst z; exact hp
        · exact i4 j (by omega) b⟩
def isD (x : Nat) : Bool := decide (48 ≤ x) && decide (x ≤ 57)
def isL (x : Nat) : Bool := decide (97 ≤ x) && decide (x ≤ 122)
/-- the words, as the class lists them -/
def WDS : List (List Nat) := [[115, 101, 108, 102], [116, 104, 105, 114, 100], [115, 111, 117, 114, 99, 101], [97, 103, 101], [108, 105, 110, 101, 115], [112, 114, 101, 115, 115], [119, 97, 105, 116, 115], [97, 115, 107, 101, 100], [114, 101, 112, 111, 114, 116, 115], [98, 105, 108, 108, 115], [100, 97, 121], [114, 101, 97, 100], [110, 101, 101, 100], [116, 117, 114, 110], [108, 101, 116], [98, 108, 97, 99, 107], [98, 97, 114], [105, 102], [111, 114], [97, 110, 100], [110, 111, 116]]
def wst (k : Nat) : List Nat := WDS.getD k []
def wln (k : Nat) : Nat := (wst k).length
def wch (k j : Nat) : Nat := (wst k).getD j 0
/-- where each begins -/
def wbg : Nat → Nat
  | 0 => 0
  | k + 1 => wbg k + wln k + 1
def wid (k : Nat) : Nat := [11, 12, 13, 14, 15, 16, 17, 18, 19, 20, 21, 3, 4, 5, 6, 7, 8, 9, 23, 22, 10].getD k 0
/-- what the strings hold -/
def STc (h : HS) : Prop := (∀ k, k < 21 → (∀ j, j < wln k → hI h 2 (wbg k + j) = nI (wch k j) ∧ hI h (wid k) j = nI (wch k j)) ∧ hN h (wid k) = wln k ∧ hT h (wid k) = 41 ∧ (k < 20 → hI h 2 (wbg k + wln k) = 32)) ∧ hN h 2 = 106
theorem wst_f : ∀ k, k < 21 → wln k ≤ 7 ∧ 2 ≤ wln k ∧ wbg k + wln k ≤ 106 ∧ (k < 20 → wbg k + wln k < 106) ∧ (∀ j, j < wln k → ¬ wch k j = 32 ∧ 97 ≤ wch k j ∧ wch k j ≤ 122) ∧ wid k < 24 ∧ 2 < wid k := by decide
theorem wst_e : wbg 20 + wln 20 = 106 := by decide
/-- the text: n bytes -/
def wEq (β : Nat → Nat) (q e k : Nat) : Bool := decide (e - q = wln k) && !anyN (fun j => !decide (β (q + j) = wch k j)) (wln k)
def sgT (x : Nat) (two : Bool) : Nat := if x = 40 then 10041 else if x = 41 then 10042 else if x = 42 then 10047 else if x = 43 then 10045 else if x = 45 then 10046 else if x = 59 then 10040 else if x = 60 then (if two then 10049 else 10048) else if x = 61 then 10050 else if x = 62 then (if two then 10051 else 10052) else if x = 91 then 10043 else if x = 93 then 10044 else 10001
def nuF (β : Nat → Nat) (q : Nat) : Nat → Nat
  | 0 => 0
  | k + 1 => nuF β q k * 10 + (β (q + k) - 48)
section TOK
variable (n : Nat) (β : Nat → Nat)
def skp (q : Nat) : Nat := adn n (fun j => decide (β j = 32)) q
def tEn (q : Nat) : Nat := if β q = 60 ∨ β q = 62 then (if q + 1 < n ∧ β (q + 1) = 61 then q + 2 else q + 1) else if isD (β q) then adn n (fun j => isD (β j)) (q + 1) else if isL (β q) then adn n (fun j => isL (β j)) (q + 1) else q + 1
def wIx (q : Nat) : Nat := fsN (wEq β q (tEn n β q)) 21
def tkn (q : Nat) : Nat := if isD (β q) then (if 4 < tEn n β q - q then 10000 else nuF β q (tEn n β q - q)) else if isL (β q) then (if wIx n β q = 21 then 10001 else 10010 + wIx n β q) else sgT (β q) (decide (tEn n β q = q + 2))
def tPl : Nat → Nat
  | 0 => skp n β 0
  | j + 1 => if tPl j < n then skp n β (tEn n β (tPl j)) else tPl j
def tTk (j : Nat) : Nat := if tPl n β j < n then tkn n β (tPl n β j) else 10002
def tMx : Nat := fsN (fun j => decide (n ≤ tPl n β j)) 401
end TOK
theorem skp_b {n : Nat} {β : Nat → Nat} (q : Nat) : q ≤ skp n β q ∧ (q ≤ n → skp n β q ≤ n) ∧ (skp n β q < n → ¬ β (skp n β q) = 32) := by
  obtain ⟨a, b, c, -⟩ := adn_b (n := n) (p := fun j => decide (β j = 32)) _ q rfl
  exact ⟨a, b, fun z => of_decide_eq_false (c z)⟩
theorem skp_i {n : Nat} {β : Nat → Nat} (q : Nat) (hq : q ≤ n) : skp n β (skp n β q) = skp n β q := by
  obtain ⟨-, b, c⟩ := skp_b (n := n) (β := β) q
  rcases Nat.lt_or_ge (skp n β q) n with z | z
  · show adn n _ (skp n β q) = _
    rw [adn_s z, decide_eq_false (c z)]
    rfl
  · exact adn_n z
theorem tEn_b {n : Nat} {β : Nat → Nat} {q : Nat} (h : q < n) : q < tEn n β q ∧ tEn n β q ≤ n := by
  unfold tEn
  obtain ⟨a1, b1, -, -⟩ := adn_b (n := n) (p := fun j => isD (β j)) _ (q + 1) rfl
  obtain ⟨a2, b2, -, -⟩ := adn_b (n := n) (p := fun j => isL (β j)) _ (q + 1) rfl
  have b1 := b1 h
  have b2 := b2 h
  repeat' split
  all_goals omega
theorem tPl_b {n : Nat} {β : Nat → Nat} : ∀ j, tPl n β j ≤ n ∧ skp n β (tPl n β j) = tPl n β j ∧ (tPl n β j < n → tPl n β j < tPl n β (j + 1)) := by
  intro j
  have lt : ∀ j, tPl n β j ≤ n ∧ skp n β (tPl n β j) = tPl n β j := by
    intro j
    induction j with
    | zero => exact ⟨(skp_b 0).2.1 (Nat.zero_le _), skp_i 0 (Nat.zero_le _)⟩
    | succ j ih =>
      rw [tPl]
      by_cases z : tPl n β j < n
      · rw [if_pos z]
        have := (tEn_b (n := n) (β := β) z).2
        exact ⟨(skp_b _).2.1 this, skp_i _ this⟩
      · rw [if_neg z]; exact ih
  refine ⟨(lt j).1, (lt j).2, fun z => ?_⟩
  rw [tPl, if_pos z]
  have := (tEn_b (n := n) (β := β) z).1
  have := (skp_b (n := n) (β := β) (tEn n β (tPl n β j))).1
  omega
theorem tPl_ge {n : Nat} {β : Nat → Nat} : ∀ j, j ≤ tPl n β j ∨ tPl n β j = n := by
  intro j
  induction j with
  | zero => exact Or.inl (Nat.zero_le _)
  | succ j ih =>
    obtain ⟨b1, -, b3⟩ := tPl_b (n := n) (β := β) j
    by_cases z : tPl n β j < n
    · have := b3 z
      rcases ih with y | y
      · exact Or.inl (by omega)
      · omega
    · right
      rw [tPl, if_neg z]
      omega
theorem tMx_b {n : Nat} {β : Nat → Nat} (hn : n ≤ 400) : tMx n β ≤ n ∧ tPl n β (tMx n β) = n ∧ ∀ j, j < tMx n β → tPl n β j < n := by
  have e : tPl n β n = n := by
    rcases tPl_ge (n := n) (β := β) n with z | z
    · have := (tPl_b (n := n) (β := β) n).1; omega
    · exact z
  obtain ⟨s1, s2⟩ := fsN_spec (P := fun j => decide (n ≤ tPl n β j)) (n := 401)
  have hle : tMx n β ≤ n := by
    rcases Nat.lt_or_ge n (tMx n β) with z | z
    · have := s2 n z
      rw [e] at this
      exact absurd (of_decide_eq_false this) (by omega)
    · exact z
  refine ⟨hle, ?_, fun j hj => ?_⟩
  · have h2 : n ≤ tPl n β (tMx n β) := of_decide_eq_true (s1 (show tMx n β < 401 by omega))
    exact Nat.le_antisymm (tPl_b (n := n) (β := β) (tMx n β)).1 h2
  · have := of_decide_eq_false (s2 j hj)
    omega
theorem tTk_m {n : Nat} {β : Nat → Nat} (hn : n ≤ 400) : tTk n β (tMx n β) = 10002 := by
  unfold tTk
  rw [(tMx_b hn).2.1, if_neg (Nat.lt_irrefl _)]
section SCN
variable {h : HS} {n : Nat} {β : Nat → Nat} {F : Nat}
def BYc (h : HS) (n : Nat) (β : Nat → Nat) : Prop := n ≤ 400 ∧ hI h 57 0 = nI n ∧ ∀ j, j < n → β j < 256 ∧ hI h 58 j = nI (β j)
theorem isDC (h : HS) {x : Nat} (hx : x < 256) : p105 h (nI x) = some (b2 (isD x)) := by
  unfold p105 isD
  by_cases a : 48 ≤ x
  · rw [if_neg (show ¬ nI x < 48 from nI_nlt (a := x) (b := 48) a (by omega)), decide_eq_true a]
    by_cases b : x ≤ 57
    · rw [if_neg (show ¬ (57 : Int32) < nI x from nI_nlt (a := 57) b (by decide)), decide_eq_true b]; rfl
    · rw [if_pos (show (57 : Int32) < nI x from nI_lt (a := 57) (by omega) (by omega)), decide_eq_false b]; rfl
  · rw [if_pos (show nI x < 48 from nI_lt (b := 48) (by omega) (by decide)), decide_eq_false a]; rfl
theorem isLC (h : HS) {x : Nat} (hx : x < 256) : p106 h (nI x) = some (b2 (isL x)) := by
  unfold p106 isL
  by_cases a : 97 ≤ x
  · rw [if_neg (show ¬ nI x < 97 from nI_nlt (a := x) (b := 97) a (by omega)), decide_eq_true a]
    by_cases b : x ≤ 122
    · rw [if_neg (show ¬ (122 : Int32) < nI x from nI_nlt (a := 122) b (by decide)), decide_eq_true b]; rfl
    · rw [if_pos (show (122 : Int32) < nI x from nI_lt (a := 122) (by omega) (by omega)), decide_eq_false b]; rfl
  · rw [if_pos (show nI x < 97 from nI_lt (b := 97) (by omega) (by decide)), decide_eq_false a]; rfl
theorem isDL {x : Nat} (h : isD x = true) : isL x = false := by
  unfold isD at h
  unfold isL
  rw [Bool.and_eq_true] at h
  have := of_decide_eq_true h.2
  rw [decide_eq_false (by omega)]
  rfl
theorem b2_n (b : Bool) : (b2 b = 0) = (b = false) := b2_eq0 b
/-- where a run of digits, or of letters, ends -/
theorem teL (B : BYc h n β) {a0 : Int32} {x : Nat} (hx : x < 256) : ∀ (f q : Nat), q ≤ n → n - q < f → p107_L50 F a0 f h (nI x) (nI q) = some (nI (if isD x then adn n (fun j => isD (β j)) q else if isL x then adn n (fun j => isL (β j)) q else q)) := by
  obtain ⟨hn, e0, eb⟩ := B
  intro f
  induction f with
  | zero => intro q _ z; omega
  | succ f ih =>
    intro q hq hf
    rw [p107_L50, e0]
    by_cases z : q < n
    · obtain ⟨b1, b2'⟩ := eb q z
      rw [if_pos (nI_lt z (by omega)), isDC h hx, ob, nI_clamp (by omega), if_neg (nI_in' (by omega) (by decide)), b2', isDC h b1, adn_s (p := fun j => isD (β j)) z, adn_s (p := fun j => isL (β j)) z]
      have hj77 : isD x = false ∨ isD (β q) = false → p107_j77 F a0 (p107_L50 F a0 f h) h (nI x) (nI q) = some (nI (if isL x then (if isL (β q) then adn n (fun j => isL (β j)) (q + 1) else q) else q)) ∨ (isD x = true) := by
        intro _
        cases hd : isD x
        · left
          have ih' := ih (q + 1) (by omega) (by omega)
          rw [hd, if_neg (by decide)] at ih'
          unfold p107_j77
          rw [isLC h hx, ob, nI_clamp (by omega), if_neg (nI_in' (by omega) (by decide)), b2', isLC h b1, b2_if]
          cases hl : isL x
          · rfl
          · rw [if_pos rfl, ob, b2_if]
            rw [hl, if_pos rfl] at ih'
            cases hq2 : isL (β q)
            · rfl
            · rw [if_pos rfl, if_pos rfl, if_pos rfl]
              unfold p107_j96
              rw [nI_1]
              exact ih'
        · exact Or.inr rfl
      cases hd : isD x
      · rw [b2_if, if_neg (by decide), if_neg (by decide)]
        rcases hj77 (Or.inl hd) with y | y
        · exact y
        · rw [hd] at y; cases y
      · have ih' := ih (q + 1) (by omega) (by omega)
        rw [hd, if_pos rfl] at ih'
        rw [b2_if, if_pos rfl, ob, b2_if, if_pos rfl]
        cases hq2 : isD (β q)
        · rw [if_neg (by decide), if_neg (by decide)]
          unfold p107_j77
          rw [isLC h hx, ob, isDL hd, b2_if, if_neg (by decide)]
        · rw [if_pos rfl, if_pos rfl]
          unfold p107_j96
          rw [nI_1]
          exact ih'
    · have : q = n := by omega
      subst this
      rw [if_neg Int32.lt_irrefl, adn_n (Nat.le_refl _), adn_n (Nat.le_refl _), ite_self, ite_self]
theorem tenC (B : BYc h n β) (hF : 1000 ≤ F) {q : Nat} (hq : q < n) : p107 F h (nI q) = some (nI (tEn n β q)) := by
  obtain ⟨hn, e0, eb⟩ := B
  obtain ⟨b1, b2'⟩ := eb q hq
  unfold p107
  rw [nI_clamp (by omega), if_neg (nI_in' (by omega) (by decide)), b2', nI_1]
  have j23 : p107_j23 F (nI q) h (nI (q + 1)) = some (nI (if q + 1 < n ∧ β (q + 1) = 61 then q + 2 else q + 1)) := by
    unfold p107_j23
    rw [e0]
    by_cases z : q + 1 < n
    · obtain ⟨c1, c2⟩ := eb (q + 1) z
      rw [if_pos (nI_lt z (by omega)), if_neg (nI_in (by omega) (by decide)), nI_clamp (by omega), c2, nI_1]
      by_cases y : β (q + 1) = 61
      · rw [if_pos (show nI (β (q + 1)) = 61 by rw [y]; rfl), if_pos ⟨z, y⟩]
      · rw [if_neg (show ¬ nI (β (q + 1)) = 61 from fun w => y ((nI_eq (b := 61) (by omega) (by decide)).mp w)), if_neg (fun w => y w.2)]
    · rw [if_neg (nI_nlt (by omega) (by omega)), if_neg (fun w => z w.1)]
  unfold tEn
  by_cases c1 : β q = 60
  · rw [if_pos (show nI (β q) = 60 by rw [c1]; rfl), j23, if_pos (Or.inl c1)]
  · rw [if_neg (show ¬ nI (β q) = 60 from fun w => c1 ((nI_eq (b := 60) (by omega) (by decide)).mp w))]
    by_cases c2 : β q = 62
    · rw [if_pos (show nI (β q) = 62 by rw [c2]; rfl), j23, if_pos (Or.inr c2)]
    · rw [if_neg (show ¬ nI (β q) = 62 from fun w => c2 ((nI_eq (b := 62) (by omega) (by decide)).mp w)), if_neg (fun w => w.elim c1 c2)]
      exact teL ⟨hn, e0, eb⟩ b1 F (q + 1) (by omega) (by omega)
theorem nuC (B : BYc h n β) {q e : Nat} (he : e ≤ n) (hq : q ≤ e) (h4 : e - q ≤ 4) (hd : ∀ j, q ≤ j → j < e → isD (β j) = true) : ∀ (f k : Nat), q + k ≤ e → e - (q + k) < f → p109_L16 F (nI q) (nI e) f h (nI (nuF β q k)) (nI (q + k)) = some (nI (nuF β q (e - q))) := by
  obtain ⟨hn, e0, eb⟩ := B
  have nb : ∀ k, k ≤ 4 → q + k ≤ e → nuF β q k < 10 ^ k := by
    intro k
    induction k with
    | zero => intro _ _; show 0 < 1; decide
    | succ k ih =>
      intro hk hq2
      have := ih (by omega) (by omega)
      have d := hd (q + k) (by omega) (by omega)
      unfold isD at d
      rw [Bool.and_eq_true] at d
      have := of_decide_eq_true d.1
      have := of_decide_eq_true d.2
      rw [nuF, Nat.pow_succ]
      omega
  intro f
  induction f with
  | zero => intro k _ z; omega
  | succ f ih =>
    intro k hk hf
    rw [p109_L16]
    by_cases z : q + k < e
    · obtain ⟨b1, b2'⟩ := eb (q + k) (by omega)
      have d := hd (q + k) (by omega) z
      unfold isD at d
      rw [Bool.and_eq_true] at d
      have d1 := of_decide_eq_true d.1
      rw [if_pos (nI_lt z (by omega)), if_neg (nI_in (by omega) (by decide)), nI_clamp (by omega), b2', nI_1, show (10 : Int32) = nI 10 from rfl, pk_mul, nI_add, show (48 : Int32) = nI 48 from rfl, pk_sub (by omega)]
      have := ih (k + 1) (by omega) (by omega)
      rw [nuF] at this
      rw [show nuF β q k * 10 + β (q + k) - 48 = nuF β q k * 10 + (β (q + k) - 48) by omega]
      exact this
    · have : q + k = e := by omega
      rw [this, if_neg Int32.lt_irrefl, show k = e - q by omega]
theorem nu_lt {q e : Nat} (h4 : e - q ≤ 4) (hd : ∀ j, q ≤ j → j < e → isD (β j) = true) (hq : q ≤ e) : nuF β q (e - q) < 10000 := by
  have nb : ∀ k, q + k ≤ e → nuF β q k < 10 ^ k := by
    intro k
    induction k with
    | zero => intro _; show 0 < 1; decide
    | succ k ih =>
      intro hq2
      have := ih (by omega)
      have d := hd (q + k) (by omega) (by omega)
      unfold isD at d
      rw [Bool.and_eq_true] at d
      have := of_decide_eq_true d.1
      have := of_decide_eq_true d.2
      rw [nuF, Nat.pow_succ]
      omega
  have := nb (e - q) (by omega)
  have : (10 : Nat) ^ (e - q) ≤ 10 ^ 4 := Nat.pow_le_pow_right (by decide) h4
  omega
theorem smL (B : BYc h n β) (A : STc h) {q e k : Nat} (hq : q ≤ e) (he : e ≤ n) (hk : k < 21) (hl : e - q = wln k) : ∀ (f j : Nat), j ≤ wln k → wln k - j < f → anyN (fun j => !decide (β (q + j) = wch k j)) j = false → p111_L3 F (nI (wbg k)) (nI q) (nI e) f h (nI j) = some (b2 (!anyN (fun j => !decide (β (q + j) = wch k j)) (wln k))) := by
  obtain ⟨hn, e0, eb⟩ := B
  obtain ⟨A1, A2⟩ := A
  obtain ⟨w1, w2, w3, w4, w5, -⟩ := wst_f k hk
  intro f
  induction f with
  | zero => intro j _ z; omega
  | succ f ih =>
    intro j hj hf ha
    rw [p111_L3, pk_sub hq, hl, A2]
    by_cases z : j < wln k
    · obtain ⟨b1, b2'⟩ := eb (q + j) (by omega)
      have wc := (w5 j z).2.2
      rw [if_pos (nI_lt z (by omega)), nI_add, if_neg (nI_in (by omega) (by decide)), nI_add, if_neg (nI_in (by omega) (by decide)), nI_clamp (by omega), nI_clamp (by omega), ((A1 k hk).1 j z).1, b2', nI_1]
      by_cases c : β (q + j) = wch k j
      · rw [c, if_pos rfl]
        exact ih (j + 1) (by omega) (by omega) (by rw [anyN_s, ha, decide_eq_true c]; rfl)
      · rw [if_neg (fun w => c ((nI_eq (by omega) (by omega)).mp w).symm), anyN_iff.mpr ⟨j, z, by rw [decide_eq_false c]; rfl⟩]
        rfl
    · have : j = wln k := by omega
      subst this
      rw [if_neg Int32.lt_irrefl, ha]
      rfl
theorem wfC (B : BYc h n β) (A : STc h) (hF : 1000 ≤ F) {q e : Nat} (hq : q ≤ e) (he : e ≤ n) : p110 F h (nI q) (nI e) = some (if fsN (wEq β q e) 21 = 21 then -1 else nI (fsN (wEq β q e) 21)) := by
  have A' := A
  obtain ⟨A1, A2⟩ := A
  obtain ⟨hn, e0, eb⟩ := B
  -- over the letters of a word
  have run : ∀ (k : Nat), k < 21 → ∀ (d j f : Nat), j + d = wln k → d < f → p110_L8 F (nI q) (nI e) f h (nI k) (nI (wbg k)) (nI (wbg k + j)) = p110_L8 F (nI q) (nI e) (f - d) h (nI k) (nI (wbg k)) (nI (wbg k + wln k)) := by
    intro k hk d
    obtain ⟨w1, w2, w3, w4, w5, -⟩ := wst_f k hk
    induction d with
    | zero => intro j f hj _; rw [show j = wln k by omega]; rfl
    | succ d ih =>
      intro j f hj hf
      obtain ⟨f, rfl⟩ : ∃ f', f = f' + 1 := ⟨f - 1, by omega⟩
      have wc := (w5 j (by omega)).2.2
      rw [p110_L8, A2, if_neg (show ¬ Int32.ofNat 106 < nI (wbg k + j) from nI_nlt (a := 106) (by omega) (by decide)), if_neg (show ¬ nI (wbg k + j) = Int32.ofNat 106 from fun z => by have := (nI_eq (b := 106) (by omega) (by decide)).mp z; omega), if_neg (nI_in (by omega) (by decide)), nI_clamp (by omega), ((A1 k hk).1 j (by omega)).1, if_neg (show ¬ nI (wch k j) = 32 from fun z => (w5 j (by omega)).1 ((nI_eq (b := 32) (by omega) (by decide)).mp z))]
      unfold p110_j73
      rw [nI_1, Nat.add_assoc, ih (j + 1) f (by omega) (by omega), show f + 1 - (d + 1) = f - d by omega]
  -- the end of a word
  have endW : ∀ (k f : Nat), k < 21 → p110_L8 F (nI q) (nI e) (f + 1) h (nI k) (nI (wbg k)) (nI (wbg k + wln k)) = if wEq β q e k then some (nI k) else p110_L8 F (nI q) (nI e) f h (nI (k + 1)) (nI (wbg (k + 1))) (nI (wbg (k + 1))) := by
    intro k f hk
    obtain ⟨w1, w2, w3, w4, w5, -⟩ := wst_f k hk
    have j40 : p110_j40 F (nI q) (nI e) (p110_L8 F (nI q) (nI e) f h) h (nI k) (nI (wbg k)) (nI (wbg k + wln k)) = if wEq β q e k then some (nI k) else p110_L8 F (nI q) (nI e) f h (nI (k + 1)) (nI (wbg (k + 1))) (nI (wbg (k + 1))) := by
      unfold p110_j40 p110_j64 p110_j73 wEq
      rw [pk_sub (by omega), pk_sub hq, show wbg k + wln k - wbg k = wln k by omega, nI_1, nI_1]
      by_cases z : e - q = wln k
      · rw [if_pos (show nI (wln k) = nI (e - q) by rw [z]), decide_eq_true z, Bool.true_and]
        unfold p111
        have := smL (F := F) ⟨hn, e0, eb⟩ A' hq he hk z F 0 (by omega) (by omega) rfl
        rw [show p111_L3 F (nI (wbg k)) (nI q) (nI e) F h 0 = _ from this, ob, b2_if]
        rfl
      · rw [if_neg (fun w => z ((nI_eq (by omega) (by omega)).mp w).symm), decide_eq_false z]
        rfl
    rw [p110_L8, A2, if_neg (show ¬ Int32.ofNat 106 < nI (wbg k + wln k) from nI_nlt (a := 106) (by omega) (by decide))]
    by_cases z : k < 20
    · rw [if_neg (show ¬ nI (wbg k + wln k) = Int32.ofNat 106 from fun y => by have := (nI_eq (b := 106) (by omega) (by decide)).mp y; have := w4 z; omega), if_neg (nI_in (by have := w4 z; omega) (by decide)), nI_clamp (by omega), (A1 k hk).2.2.2 z, if_pos rfl]
      exact j40
    · have : k = 20 := by omega
      subst this
      rw [if_pos (show nI (wbg 20 + wln 20) = Int32.ofNat 106 by rw [wst_e]; rfl)]
      exact j40
  have all : ∀ (d k f : Nat), k + d = 21 → d * 8 < f → (∀ j, j < k → wEq β q e j = false) → p110_L8 F (nI q) (nI e) f h (nI k) (nI (wbg k)) (nI (wbg k)) = some (if fsN (wEq β q e) 21 = 21 then -1 else nI (fsN (wEq β q e) 21)) := by
    intro d
    induction d with
    | zero =>
      intro k f hk hf ha
      obtain ⟨f, rfl⟩ : ∃ f', f = f' + 1 := ⟨f - 1, by omega⟩
      have e21 : k = 21 := by omega
      subst e21
      rw [p110_L8, A2, if_pos (show Int32.ofNat 106 < nI (wbg 21) by decide), if_pos (fsN_none ha)]
    | succ d ih =>
      intro k f hk hf ha
      have hk' : k < 21 := by omega
      have w1 := (wst_f k hk').1
      have := run k hk' (wln k) 0 f (by omega) (by omega)
      rw [Nat.add_zero] at this
      obtain ⟨f', hf'⟩ : ∃ f', f - wln k = f' + 1 := ⟨f - wln k - 1, by omega⟩
      rw [this, hf', endW k f' hk']
      cases hm : wEq β q e k
      · rw [if_neg (by decide)]
        exact ih (k + 1) f' (by omega) (by omega) (fun j hj => by
          by_cases z : j = k
          · subst z; exact hm
          · exact ha j (by omega))
      · have := fsN_first hk' hm ha
        rw [if_pos rfl, this, if_neg (by omega)]
  unfold p110
  exact all 21 0 F rfl (by omega) (fun j z => by omega)
theorem sgC (h : HS) {x : Nat} (hx : x < 256) (b : Bool) : p112 h (nI x) (b2 b) = some (nI (sgT x b)) := by
  have ne : ∀ c, c < 256 → (nI x = nI c) = (x = c) := fun c hc => eq_nI (by omega) (by omega)
  unfold p112 sgT
  rw [show (40 : Int32) = nI 40 from rfl, show (41 : Int32) = nI 41 from rfl, show (42 : Int32) = nI 42 from rfl, show (43 : Int32) = nI 43 from rfl, show (45 : Int32) = nI 45 from rfl, show (59 : Int32) = nI 59 from rfl, show (60 : Int32) = nI 60 from rfl, show (61 : Int32) = nI 61 from rfl, show (62 : Int32) = nI 62 from rfl, show (91 : Int32) = nI 91 from rfl, show (93 : Int32) = nI 93 from rfl]
  simp only [ne 40 (by decide), ne 41 (by decide), ne 42 (by decide), ne 43 (by decide), ne 45 (by decide), ne 59 (by decide), ne 60 (by decide), ne 61 (by decide), ne 62 (by decide), ne 91 (by decide), ne 93 (by decide), b2_if]
  repeat' split
  all_goals rfl
end SCN
