/-! tear: the class's bills, and its whole call behind the guard -/
section W24
variable {s : SS} {h : HS}
def pB (s : SS) (i : Nat) (m : Nat) : Bool := decide (s 21 m = i ∧ s 25 m = 100000)
theorem bl_sh (E : EV s h) {i j : Nat} (hi : i < s 0 3) (hj : j < s 0 8) : ¬ s 30 i = s 33 j := fun z => by
  have q := E.sh.t hi
  rw [z, E.bl.t hj] at q
  exact absurd q (by decide)
/-- the class's heap when the papers of sheet i have fallen -/
def papF (s : SS) (i : Nat) (now : Int32) (m : Nat) (h : HS) : HS := trC (pB s i) (s 33) now m (trC (pR s i) (s 32) now (s 0 7) h)
theorem papF_o (s : SS) (i : Nat) (now : Int32) (m : Nat) (h : HS) : hT (papF s i now m h) = hT h ∧ hN (papF s i now m h) = hN h ∧ hR (papF s i now m h) = hR h ∧ hL (papF s i now m h) = hL h ∧ (papF s i now m h).1 = h.1 := by
  obtain ⟨a1, a2, a3, a4, a5⟩ := trC_o (pB s i) (s 33) now m (trC (pR s i) (s 32) now (s 0 7) h)
  obtain ⟨b1, b2, b3, b4, b5⟩ := trC_o (pR s i) (s 32) now (s 0 7) h
  exact ⟨a1.trans b1, a2.trans b2, a3.trans b3, a4.trans b4, a5.trans b5⟩
theorem papF_I {i m x : Nat} {now : Int32} (h1 : ∀ k, k < s 0 7 → ¬ x = s 32 k) (h2 : ∀ k, k < m → ¬ x = s 33 k) : hI (papF s i now m h) x = hI h x := by
  unfold papF
  rw [trC_I _ _ _ _ _ h2, trC_I _ _ _ _ _ h1]
theorem p9_42 {h0 : HS} (E : EV s h0) (D : DI s) (Q : hT h = hT h0 ∧ hR h = hR h0 ∧ (∀ x, (∀ k, k < s 0 3 → ¬ x = s 30 k) → hI h x = hI h0 x) ∧ ∀ k, k < s 0 3 → hI h (s 30 k) 0 = hI h0 (s 30 k) 0) {F f i m : Nat} {now : Int32} (hi : i < s 0 3) (hm : m ≤ s 0 8) (hf : s 0 8 - m < f) : p9_L42 F (nI i) now f (papF s i now m h) (nI m) = some (papF s i now (s 0 8) h) := by
  have b3 := E.cn.b3
  have b7 := E.cn.b8
  induction f generalizing m with
  | zero => omega
  | succ f ih =>
    have e50 : hI (papF s i now m h) 50 4 = nI (s 0 8) := by
      rw [papF_I (fun k hk z => by have := E.rp.lo hk; omega) (fun k hk z => by have := E.bl.lo (i := k) (by omega); omega)]
      rw [Q.2.2.1 50 (fun k hk z => by have := E.sh.lo hk; omega)]
      exact E.cn.c8
    rw [p9_L42, e50]
    by_cases q : m = s 0 8
    · subst q; rw [if_neg Int32.lt_irrefl]
    · have hm' : m < s 0 8 := by omega
      have ih' := ih (m := m + 1) (by omega) (by omega)
      have es : papF s i now (m + 1) h = if pB s i m = true then hsI (papF s i now m h) (s 33 m) 2 now else papF s i now m h := by
        unfold papF
        rw [trC]
      rw [es] at ih'
      have g : ¬ (nI m < 0 ∨ 200 ≤ (nI m).toNatClampNeg) := nI_in (by omega) (by omega)
      obtain ⟨T, N, R, L, O⟩ := papF_o s i now m h
      have eO : hI (papF s i now m h) (s 33 m) = hI h (s 33 m) := papF_I (fun k hk z => D.2.2.2.2.2.2 k m hk hm' z.symm) (fun k hk z => by have := D.2.2.1 m k hm' (by omega) z; omega)
      have b0 := E.bl.b0 hm'
      have eS : hI (papF s i now m h) (s 30 (s 21 m)) = hI h (s 30 (s 21 m)) := papF_I (fun k hk => rp_sh E b0 hk) (fun k hk => bl_sh E b0 (by omega))
      have e70 : p70 (papF s i now m h) (s 33 m) (nI i) = if s 21 m = i then some 1 else some 0 := by
        unfold p70
        rw [R, Q.2.1, E.bl.r0 hm', if_neg (by intro z; cases z), ob, ob, T, Q.1, E.sh.t b0, if_pos rfl, eS, Q.2.2.2 _ b0, E.sh.f0 b0]
        by_cases c : s 21 m = i
        · rw [if_pos (by rw [c]), if_pos c]
        · rw [if_neg (fun z => c ((nI_eq (by omega) (by omega)).mp z)), if_neg c]
      have e68 : p68 (papF s i now m h) (s 33 m) now = if s 25 m = 100000 then some (1, hsI (papF s i now m h) (s 33 m) 2 now) else some (0, papF s i now m h) := by
        unfold p68
        rw [eO, Q.2.2.1 (s 33 m) (fun k hk z => bl_sh E hk hm' z.symm), E.bl.f2 hm']
        by_cases c : s 25 m = 100000
        · rw [if_pos (by rw [c]; rfl), if_pos c]
        · have z0 := E.bl.b4 hm'
          rw [if_neg c, if_neg]
          intro z
          have z1 : s 25 m ≤ 3999 := by rcases z0 with z0 | z0 <;> omega
          rw [dC_now z1] at z
          have := (nI_eq (b := 4000) (by omega) (by omega)).mp z
          omega
      rw [if_pos (nI_lt hm' (by omega)), if_neg g, if_neg g, nI_clamp (by omega), R, Q.2.1, E.bl.o hm', ob, ob, T, Q.1, E.bl.t hm', if_pos rfl, if_pos rfl, e70, e68]
      unfold p9_j74
      rw [nI_1]
      by_cases c : s 21 m = i
      · rw [if_pos c, ob, if_neg (show ¬ (1 : Int32) = 0 by decide)]
        by_cases c2 : s 25 m = 100000
        · rw [if_pos (show pB s i m = true from decide_eq_true ⟨c, c2⟩)] at ih'
          rw [if_pos c2, ob]; exact ih'
        · rw [if_neg (show ¬ pB s i m = true from fun z => c2 (of_decide_eq_true z).2)] at ih'
          rw [if_neg c2, ob]; exact ih'
      · rw [if_neg (show ¬ pB s i m = true from fun z => c (of_decide_eq_true z).1)] at ih'
        rw [if_neg c, ob, if_pos rfl]; exact ih'
theorem fallC {h0 : HS} (E : EV s h0) (D : DI s) (Q : hT h = hT h0 ∧ hR h = hR h0 ∧ (∀ x, (∀ k, k < s 0 3 → ¬ x = s 30 k) → hI h x = hI h0 x) ∧ ∀ k, k < s 0 3 → hI h (s 30 k) 0 = hI h0 (s 30 k) 0) {F i : Nat} {now : Int32} (hF : 300 ≤ F) (hi : i < s 0 3) : p9 F h (nI i) now = some (papF s i now (s 0 8) h) := by
  have b7 := E.cn.b7
  have b8 := E.cn.b8
  have r := p9_2 E D Q (F := F) (f := F) (i := i) (m := 0) (now := now) hi (Nat.zero_le _) (by omega)
  rw [trC] at r
  unfold p9
  rw [show p9_L2 F (nI i) now F h 0 = p9_L2 F (nI i) now F h (nI 0) from rfl, r]
  exact p9_42 E D Q (F := F) (f := F) (i := i) (m := 0) (now := now) hi (Nat.zero_le _) (by omega)
end W24
