/-! tear: the class's papers -/
def trC (p : Nat → Bool) (ob : Nat → Nat) (now : Int32) : Nat → HS → HS
  | 0, h => h
  | m + 1, h => if p m = true then hsI (trC p ob now m h) (ob m) 2 now else trC p ob now m h
theorem trC_o (p : Nat → Bool) (ob : Nat → Nat) (now : Int32) (m : Nat) (h : HS) : hT (trC p ob now m h) = hT h ∧ hN (trC p ob now m h) = hN h ∧ hR (trC p ob now m h) = hR h ∧ hL (trC p ob now m h) = hL h ∧ (trC p ob now m h).1 = h.1 := by
  induction m with
  | zero => exact ⟨rfl, rfl, rfl, rfl, rfl⟩
  | succ m ih =>
    rw [trC]
    split
    · rw [hsI_ha, hT_I, hN_I, hR_I, hL_I, h1_I]; exact ih
    · exact ih
theorem trC_I (p : Nat → Bool) (ob : Nat → Nat) (now : Int32) (m : Nat) (h : HS) {x : Nat} (hx : ∀ k, k < m → ¬ x = ob k) : hI (trC p ob now m h) x = hI h x := by
  induction m with
  | zero => rfl
  | succ m ih =>
    rw [trC]
    split
    · rw [hsI_ha, hI_In (hx m (by omega))]; exact ih (fun k hk => hx k (by omega))
    · exact ih (fun k hk => hx k (by omega))
section W23
variable {s : SS} {h : HS}
def pR (s : SS) (i : Nat) (m : Nat) : Bool := decide (s 12 m = i ∧ s 20 m = 100000)
theorem rp_sh (E : EV s h) {i j : Nat} (hi : i < s 0 3) (hj : j < s 0 7) : ¬ s 30 i = s 32 j := fun z => by
  have q := E.sh.t hi
  rw [z, E.rp.t hj] at q
  exact absurd q (by decide)
theorem p9_2 {h0 : HS} (E : EV s h0) (D : DI s) (Q : hT h = hT h0 ∧ hR h = hR h0 ∧ (∀ x, (∀ k, k < s 0 3 → ¬ x = s 30 k) → hI h x = hI h0 x) ∧ ∀ k, k < s 0 3 → hI h (s 30 k) 0 = hI h0 (s 30 k) 0) {F f i m : Nat} {now : Int32} (hi : i < s 0 3) (hm : m ≤ s 0 7) (hf : s 0 7 - m < f) : p9_L2 F (nI i) now f (trC (pR s i) (s 32) now m h) (nI m) = p9_L42 F (nI i) now F (trC (pR s i) (s 32) now (s 0 7) h) 0 := by
  have b3 := E.cn.b3
  have b7 := E.cn.b7
  induction f generalizing m with
  | zero => omega
  | succ f ih =>
    have e50 : hI (trC (pR s i) (s 32) now m h) 50 3 = nI (s 0 7) := by
      rw [trC_I _ _ _ _ _ (fun k hk z => by have := E.rp.lo (i := k) (by omega); omega)]
      rw [Q.2.2.1 50 (fun k hk z => by have := E.sh.lo hk; omega)]
      exact E.cn.c7
    rw [p9_L2, e50]
    by_cases q : m = s 0 7
    · subst q; rw [if_neg Int32.lt_irrefl]
    · have hm' : m < s 0 7 := by omega
      have ih' := ih (m := m + 1) (by omega) (by omega)
      rw [trC] at ih'
      have g : ¬ (nI m < 0 ∨ 200 ≤ (nI m).toNatClampNeg) := nI_in (by omega) (by omega)
      obtain ⟨T, N, R, L, O⟩ := trC_o (pR s i) (s 32) now m h
      have eO : hI (trC (pR s i) (s 32) now m h) (s 32 m) = hI h (s 32 m) := trC_I _ _ _ _ _ (fun k hk z => by have := D.2.1 m k hm' (by omega) z; omega)
      have eS : hI (trC (pR s i) (s 32) now m h) (s 30 (s 12 m)) = hI h (s 30 (s 12 m)) := trC_I _ _ _ _ _ (fun k hk => rp_sh E (E.rp.b0 hm') (by omega))
      have b0 := E.rp.b0 hm'
      have e70 : p70 (trC (pR s i) (s 32) now m h) (s 32 m) (nI i) = if s 12 m = i then some 1 else some 0 := by
        unfold p70
        rw [R, Q.2.1, E.rp.r0 hm', if_neg (by intro z; cases z), ob, ob, T, Q.1, E.sh.t b0, if_pos rfl, eS, Q.2.2.2 _ b0, E.sh.f0 b0]
        by_cases c : s 12 m = i
        · rw [if_pos (by rw [c]), if_pos c]
        · rw [if_neg (fun z => c ((nI_eq (by omega) (by omega)).mp z)), if_neg c]
      have e68 : p68 (trC (pR s i) (s 32) now m h) (s 32 m) now = if s 20 m = 100000 then some (1, hsI (trC (pR s i) (s 32) now m h) (s 32 m) 2 now) else some (0, trC (pR s i) (s 32) now m h) := by
        unfold p68
        rw [eO, Q.2.2.1 (s 32 m) (fun k hk z => rp_sh E hk hm' z.symm), E.rp.f2 hm']
        by_cases c : s 20 m = 100000
        · rw [if_pos (by rw [c]; rfl), if_pos c]
        · have z0 := E.rp.b8 hm'
          rw [if_neg c, if_neg]
          intro z
          have z1 : s 20 m ≤ 3999 := by rcases z0 with z0 | z0 <;> omega
          rw [dC_now z1] at z
          have := (nI_eq (b := 4000) (by omega) (by omega)).mp z
          omega
      rw [if_pos (nI_lt hm' (by omega)), if_neg g, if_neg g, nI_clamp (by omega), R, Q.2.1, E.rp.o hm', ob, ob, T, Q.1, E.rp.t hm', if_pos rfl, if_pos rfl, e70, e68]
      unfold p9_j34
      rw [nI_1]
      by_cases c : s 12 m = i
      · rw [if_pos c, ob, if_neg (show ¬ (1 : Int32) = 0 by decide)]
        by_cases c2 : s 20 m = 100000
        · rw [if_pos (show pR s i m = true from decide_eq_true ⟨c, c2⟩)] at ih'
          rw [if_pos c2, ob]; exact ih'
        · rw [if_neg (show ¬ pR s i m = true from fun z => c2 (of_decide_eq_true z).2)] at ih'
          rw [if_neg c2, ob]; exact ih'
      · rw [if_neg (show ¬ pR s i m = true from fun z => c (of_decide_eq_true z).1)] at ih'
        rw [if_neg c, ob, if_pos rfl]; exact ih'
end W23
