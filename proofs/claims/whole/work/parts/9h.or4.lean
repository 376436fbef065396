/-! order: the choice -/
section OR4
variable {H nd wt : Nat → Nat} {n A : Nat} {l : Nat → Nat}
def TT (H nd wt : Nat → Nat) (n A : Nat) : Nat → Nat := Rt H nd wt n A (2 ^ n)
abbrev gdP (H nd wt : Nat → Nat) (n A t i : Nat) : Prop := t.testBit i = false ∧ cst H nd wt n A (t ||| 2 ^ i) i + TT H nd wt n A (t ||| 2 ^ i) = TT H nd wt n A t
def chN (l H nd wt : Nat → Nat) (n A t : Nat) : Nat → Option Nat
  | 0 => none
  | i + 1 => if gdP H nd wt n A t i ∧ (∀ b, chN l H nd wt n A t i = some b → l i < l b) then some i else chN l H nd wt n A t i
def chB (l H nd wt : Nat → Nat) (n A t : Nat) : Nat := (chN l H nd wt n A t n).getD 0
def oT (l H nd wt : Nat → Nat) (n A : Nat) : Nat → Nat
  | 0 => 0
  | j + 1 => oT l H nd wt n A j ||| 2 ^ chB l H nd wt n A (oT l H nd wt n A j)
theorem b9_cnt : ∀ n, n < 10 → ∀ t, t < 2 ^ n → ∀ i, i < n → t.testBit i = false → cnt (fun q => (t ||| 2 ^ i).testBit q) n = cnt (fun q => t.testBit q) n + 1 := by decide +kernel
theorem b9_cfull : ∀ n, n < 10 → cnt (fun q => (2 ^ n - 1).testBit q) n = n := by decide +kernel
theorem Rt_keep : ∀ d j u, 2 ^ n ≤ u + j → j + d ≤ 2 ^ n → Rt H nd wt n A (j + d) u = Rt H nd wt n A j u := by
  intro d
  induction d with
  | zero => intro j u _ _; rfl
  | succ d ih =>
    intro j u hu hj
    rw [← Nat.add_assoc, Rt, u1_ne (by omega)]
    exact ih j u hu (by omega)
theorem mnO_cg {R R' : Nat → Nat} {t : Nat} (hn : n ≤ 9) (ht : t < 2 ^ n) (h : ∀ u, t < u → u < 2 ^ n → R u = R' u) : ∀ k, k ≤ n → mnO H nd wt n A R t k = mnO H nd wt n A R' t k := by
  intro k
  have p2 := (b9_pw n (by omega)).2.1
  induction k with
  | zero => intro _; rfl
  | succ k ih =>
    intro hk
    rw [mnO, mnO, ih (by omega)]
    cases hb : t.testBit k with
    | true => rfl
    | false => rw [h _ ((b9_or t (by omega) k (by omega)).2.2 hb) (b9_in n (by omega) t ht k (by omega))]
/-- the table is its own step -/
theorem TT_stp {t : Nat} (hn : n ≤ 9) (ht : t < 2 ^ n) : TT H nd wt n A t = stpo H nd wt n A (TT H nd wt n A) t := by
  unfold TT
  obtain ⟨j, hj⟩ : ∃ j, t = 2 ^ n - 1 - j ∧ j < 2 ^ n := ⟨2 ^ n - 1 - t, by omega, by omega⟩
  have e1 : Rt H nd wt n A (2 ^ n) t = Rt H nd wt n A (j + 1) t := by
    have := Rt_keep (H := H) (nd := nd) (wt := wt) (A := A) (n := n) (2 ^ n - (j + 1)) (j + 1) t (by omega) (by omega)
    rw [show j + 1 + (2 ^ n - (j + 1)) = 2 ^ n by omega] at this
    exact this
  rw [e1, Rt, ← hj.1, u1_eq]
  unfold stpo
  rw [mnO_cg hn ht (R' := Rt H nd wt n A (2 ^ n)) (fun u h1 h2 => by
    have := Rt_keep (H := H) (nd := nd) (wt := wt) (A := A) (n := n) (2 ^ n - j) j u (by omega) (by omega)
    rw [show j + (2 ^ n - j) = 2 ^ n by omega] at this
    exact this.symm) n (Nat.le_refl _)]
theorem mnO_at {R : Nat → Nat} {t : Nat} : ∀ k m, mnO H nd wt n A R t k = some m → ∃ i, i < k ∧ t.testBit i = false ∧ m = cst H nd wt n A (t ||| 2 ^ i) i + R (t ||| 2 ^ i) := by
  intro k
  induction k with
  | zero => intro m h; cases h
  | succ k ih =>
    intro m h
    rw [mnO] at h
    cases hb : t.testBit k with
    | true =>
      rw [hb, if_pos rfl] at h
      obtain ⟨i, h1, h2⟩ := ih m h
      exact ⟨i, by omega, h2⟩
    | false =>
      rw [hb, if_neg (by decide)] at h
      have h := Option.some.inj h
      cases hm : mnO H nd wt n A R t k with
      | none => rw [hm] at h; exact ⟨k, by omega, hb, h.symm⟩
      | some m' =>
        rw [hm] at h
        obtain ⟨i, h1, h2, h3⟩ := ih m' hm
        rcases Nat.le_total m' (cst H nd wt n A (t ||| 2 ^ k) k + R (t ||| 2 ^ k)) with z | z
        · exact ⟨i, by omega, h2, by rw [← h3, ← h]; exact (Nat.min_eq_left z)⟩
        · exact ⟨k, by omega, hb, by rw [← h]; exact (Nat.min_eq_right z)⟩
theorem gd_ex {t : Nat} (hn : n ≤ 9) (ht : t < 2 ^ n) (hf : ¬ t = 2 ^ n - 1) : ∃ i, i < n ∧ gdP H nd wt n A t i := by
  have e := TT_stp (H := H) (nd := nd) (wt := wt) (A := A) hn ht
  unfold stpo at e
  cases hm : mnO H nd wt n A (TT H nd wt n A) t n with
  | none =>
    exfalso
    have all : ∀ j, j ≤ n → mnO H nd wt n A (TT H nd wt n A) t j = none → ∀ i, i < j → t.testBit i = true := by
      intro j
      induction j with
      | zero => intro _ _ i hi; omega
      | succ j ih =>
        intro hj hn2 i hi
        rw [mnO] at hn2
        cases hb : t.testBit j with
        | false => rw [hb, if_neg (by decide)] at hn2; cases hn2
        | true =>
          rw [hb, if_pos rfl] at hn2
          by_cases z : i = j
          · subst z; exact hb
          · exact ih (by omega) hn2 i (by omega)
    exact hf (b9_full n (by omega) t ht (all n (Nat.le_refl _) hm))
  | some m =>
    rw [hm] at e
    obtain ⟨i, h1, h2, h3⟩ := mnO_at n m hm
    exact ⟨i, h1, h2, by rw [← h3]; exact e.symm⟩
theorem chN_sp {t : Nat} : ∀ i, (∀ b, chN l H nd wt n A t i = some b → b < i ∧ gdP H nd wt n A t b ∧ ∀ j, j < i → gdP H nd wt n A t j → l b ≤ l j) ∧ (chN l H nd wt n A t i = none → ∀ j, j < i → ¬ gdP H nd wt n A t j) := by
  intro i
  induction i with
  | zero => exact ⟨fun b h => (by cases h), fun _ j hj => absurd hj (Nat.not_lt_zero j)⟩
  | succ i ih =>
    obtain ⟨i1, i2⟩ := ih
    by_cases c : gdP H nd wt n A t i ∧ (∀ b, chN l H nd wt n A t i = some b → l i < l b)
    · have e : chN l H nd wt n A t (i + 1) = some i := by rw [chN, if_pos c]
      refine ⟨fun b hb => ?_, fun hb => by rw [e] at hb; cases hb⟩
      rw [e] at hb
      cases hb
      refine ⟨by omega, c.1, fun j hj hg => ?_⟩
      by_cases z : j = i
      · subst z; exact Nat.le_refl _
      · cases hq : chN l H nd wt n A t i with
        | none => exact absurd hg (i2 hq j (by omega))
        | some b' =>
          have := c.2 b' hq
          have := (i1 b' hq).2.2 j (by omega) hg
          omega
    · have e : chN l H nd wt n A t (i + 1) = chN l H nd wt n A t i := by rw [chN, if_neg c]
      rw [e]
      refine ⟨fun b hb => ?_, fun hb j hj hg => ?_⟩
      · obtain ⟨q1, q2, q3⟩ := i1 b hb
        refine ⟨by omega, q2, fun j hj hg => ?_⟩
        by_cases z : j = i
        · subst z
          rcases Nat.lt_or_ge (l j) (l b) with y | y
          · exact absurd ⟨hg, fun b' hb' => by rw [hb] at hb'; cases hb'; exact y⟩ c
          · exact y
        · exact q3 j (by omega) hg
      · by_cases z : j = i
        · subst z
          exact c ⟨hg, fun b' hb' => by rw [hb] at hb'; cases hb'⟩
        · exact i2 hb j (by omega) hg
theorem chB_sp {t : Nat} (hn : n ≤ 9) (ht : t < 2 ^ n) (hf : ¬ t = 2 ^ n - 1) : chN l H nd wt n A t n = some (chB l H nd wt n A t) ∧ chB l H nd wt n A t < n ∧ gdP H nd wt n A t (chB l H nd wt n A t) ∧ ∀ j, j < n → gdP H nd wt n A t j → l (chB l H nd wt n A t) ≤ l j := by
  obtain ⟨i, hi, hg⟩ := gd_ex (H := H) (nd := nd) (wt := wt) (A := A) hn ht hf
  cases hq : chN l H nd wt n A t n with
  | none => exact absurd hg ((chN_sp n).2 hq i hi)
  | some b =>
    have e : chB l H nd wt n A t = b := by unfold chB; rw [hq]; rfl
    rw [e]
    exact ⟨rfl, (chN_sp n).1 b hq⟩
theorem oT_sp (hn : n ≤ 9) : ∀ j, j ≤ n → oT l H nd wt n A j < 2 ^ n ∧ cnt (fun q => (oT l H nd wt n A j).testBit q) n = j := by
  intro j
  induction j with
  | zero =>
    intro _
    refine ⟨(b9_pw n (by omega)).2.2, cnt_false fun i _ => ?_⟩
    show (0 : Nat).testBit i = false
    exact Nat.zero_testBit i
  | succ j ih =>
    intro hj
    obtain ⟨h1, h2⟩ := ih (by omega)
    have nf : ¬ oT l H nd wt n A j = 2 ^ n - 1 := fun z => by
      rw [z, b9_cfull n (by omega)] at h2
      omega
    obtain ⟨-, c1, c2, -⟩ := chB_sp (l := l) (H := H) (nd := nd) (wt := wt) (A := A) hn h1 nf
    exact ⟨b9_in n (by omega) _ h1 _ c1, by rw [oT, b9_cnt n (by omega) _ h1 _ c1 c2.1, h2]⟩
theorem oT_nf (hn : n ≤ 9) {j : Nat} (hj : j < n) : ¬ oT l H nd wt n A j = 2 ^ n - 1 := fun z => by
  have h2 := (oT_sp (l := l) (H := H) (nd := nd) (wt := wt) (A := A) hn j (by omega)).2
  rw [z, b9_cfull n (by omega)] at h2
  omega
end OR4
