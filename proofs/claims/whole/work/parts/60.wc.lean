/-! sheets: what is read of a sheet -/
section W12
variable {s : SS} {h : HS}
def CTc (s : SS) (h : HS) : Prop := ∀ i, i < s 0 3 → hI h (s 30 i) 5 = nI (cnt (fun k => decide (s 12 k = i)) (s 0 7)) ∧ hI h (s 30 i) 6 = nI (cnt (fun k => decide (s 21 k = i)) (s 0 8))
theorem L100_ok (E : EV s h) {F f i m : Nat} {b : Int32} (hi : i < s 0 3) (hm : m ≤ s 0 7) (hf : s 0 7 - m < f) : p211_L100 F (nI i) b f h (nI (cnt (fun k => decide (s 12 k = i)) m)) (nI m) = some (nI (cnt (fun k => decide (s 12 k = i)) (s 0 7))) := by
  have b3 := E.cn.b3
  have b7 := E.cn.b7
  induction f generalizing m with
  | zero => omega
  | succ f ih =>
    rw [p211_L100, E.cn.m7]
    by_cases hq : m = s 0 7
    · subst hq
      rw [if_neg Int32.lt_irrefl]
    · have hm' : m < s 0 7 := by omega
      rw [if_pos (nI_lt hm' (by omega)), if_neg (nI_in (by omega) (by omega)), nI_clamp (by omega), E.rp.m0 hm']
      have b0 := E.rp.b0 hm'
      have ih' := ih (m := m + 1) (by omega) (by omega)
      rw [cnt] at ih'
      by_cases he : s 12 m = i
      · rw [decide_eq_true he, if_pos rfl, ← nI_1, ← nI_1] at ih'
        rw [if_pos (by rw [he])]
        unfold p211_j126
        exact ih'
      · rw [decide_eq_false he, if_neg (by decide), Nat.add_zero, ← nI_1] at ih'
        rw [if_neg (fun z => he ((nI_eq (by omega) (by omega)).mp z))]
        unfold p211_j126
        rw [Int32.add_zero]
        exact ih'
theorem L139_ok (E : EV s h) {F f i m : Nat} {b : Int32} (hi : i < s 0 3) (hm : m ≤ s 0 8) (hf : s 0 8 - m < f) : p211_L139 F (nI i) b f h (nI (cnt (fun k => decide (s 21 k = i)) m)) (nI m) = some (nI (cnt (fun k => decide (s 21 k = i)) (s 0 8))) := by
  have b3 := E.cn.b3
  have b7 := E.cn.b8
  induction f generalizing m with
  | zero => omega
  | succ f ih =>
    rw [p211_L139, E.cn.m8]
    by_cases hq : m = s 0 8
    · subst hq
      rw [if_neg Int32.lt_irrefl]
    · have hm' : m < s 0 8 := by omega
      rw [if_pos (nI_lt hm' (by omega)), if_neg (nI_in (by omega) (by omega)), nI_clamp (by omega), E.bl.m0 hm']
      have b0 := E.bl.b0 hm'
      have ih' := ih (m := m + 1) (by omega) (by omega)
      rw [cnt] at ih'
      by_cases he : s 21 m = i
      · rw [decide_eq_true he, if_pos rfl, ← nI_1, ← nI_1] at ih'
        rw [if_pos (by rw [he])]
        unfold p211_j165
        exact ih'
      · rw [decide_eq_false he, if_neg (by decide), Nat.add_zero, ← nI_1] at ih'
        rw [if_neg (fun z => he ((nI_eq (by omega) (by omega)).mp z))]
        unfold p211_j165
        rw [Int32.add_zero]
        exact ih'
theorem dyCM {x : Nat} (hx : okDy x 3999) : p168 h (nI (dC x)) = p210 h (nI x) := by
  unfold p168 p210 dC
  rcases hx with hx | rfl
  · rw [if_neg (show ¬ x = 100000 by omega), if_neg (fun z => by have := (nI_eq (b := 4000) (by omega) (by omega)).mp z; omega), if_neg (fun z => by have := (nI_eq (b := 100000) (by omega) (by omega)).mp z; omega)]
  · rfl
theorem dyM {x : Nat} : ∃ v, p210 h (nI x) = some v := by
  unfold p210
  split <;> exact ⟨_, rfl⟩
theorem q_sheets (E : EV s h) (C : CTc s h) {F : Nat} (hF : 300 ≤ F) (a b : Int32) : ∃ v, p126 h a b = some v ∧ p211 F h a b = some v := by
  have b3 := E.cn.b3
  have b7 := E.cn.b7
  have b8 := E.cn.b8
  rcases ixc a (s 0 3) (by omega) with ⟨h1, h2, -⟩ | ⟨i, hi, rfl, h1, h2⟩
  · refine ⟨-1, ?_, ?_⟩
    · unfold p126 p170; rw [E.cn.c3, h1, ob, if_pos rfl, ob, if_pos rfl]
    · unfold p211 p205; rw [E.cn.m3, h2, ob, if_pos (Or.inl rfl), ob, if_pos rfl]
  · have g : ¬ (nI i < 0 ∨ 200 ≤ (nI i).toNatClampNeg) := nI_in (by omega) (by omega)
    have g' : ¬ (nI i < 0 ∨ 200 ≤ i) := by rw [nI_clamp (by omega)] at g; exact g
    have t9 := E.sh.t hi
    obtain ⟨d2, e2⟩ := dyM (h := h) (x := s 2 i)
    obtain ⟨d3, e3⟩ := dyM (h := h) (x := s 3 i)
    have e2' := (dyCM (h := h) (E.sh.b2 hi)).trans e2
    have e3' := (dyCM (h := h) (E.sh.b3 hi)).trans e3
    have l1 := L100_ok E (F := F) (f := F) (b := b) hi (Nat.zero_le _) (by omega)
    have l2 := L139_ok E (F := F) (f := F) (b := b) hi (Nat.zero_le _) (by omega)
    unfold p126 p170 p211 p205
    rw [E.cn.c3, h1, E.cn.m3, h2, ob, ob, if_neg (show ¬ (1 : Int32) = 0 by decide), if_pos (Or.inr rfl), nI_clamp (by omega), if_neg g', E.sh.o hi, ob, if_neg (show ¬ some (s 30 i) = none by intro z; cases z), ob]
    by_cases k0 : b = 0
    · rw [if_pos k0, if_pos k0, if_pos t9, E.sh.f1 hi, E.sh.m1 hi, ob, if_neg (show ¬ (1 : Int32) = 0 by decide), if_neg g']; exact ⟨_, rfl, rfl⟩
    rw [if_neg k0, if_neg k0]
    by_cases k1 : b = 1
    · rw [if_pos k1, if_pos k1, if_pos t9, E.sh.f2 hi, E.sh.m2 hi, e2, e2', ob, ob, if_neg (show ¬ (1 : Int32) = 0 by decide), if_neg g']; exact ⟨_, rfl, rfl⟩
    rw [if_neg k1, if_neg k1]
    by_cases k2 : b = 2
    · rw [if_pos k2, if_pos k2, if_pos t9, E.sh.f3 hi, E.sh.m3 hi, e3, e3', ob, ob, if_neg (show ¬ (1 : Int32) = 0 by decide), if_neg g']; exact ⟨_, rfl, rfl⟩
    rw [if_neg k2, if_neg k2]
    by_cases k3 : b = 3
    · rw [if_pos k3, if_pos k3, if_pos t9, E.sh.f4 hi, E.sh.m4 hi, ob, if_neg (show ¬ (1 : Int32) = 0 by decide), if_neg g']; exact ⟨_, rfl, rfl⟩
    rw [if_neg k3, if_neg k3]
    by_cases k4 : b = 4
    · rw [if_pos k4, if_pos k4, if_pos t9, E.sh.f7 hi, E.sh.m5 hi, ob, if_neg (show ¬ (1 : Int32) = 0 by decide), if_neg g']; exact ⟨_, rfl, rfl⟩
    rw [if_neg k4, if_neg k4]
    by_cases k5 : b = 5
    · rw [if_pos k5, if_pos k5, if_pos t9, (C i hi).1]; exact ⟨_, rfl, l1⟩
    rw [if_neg k5, if_neg k5]
    by_cases k6 : b = 6
    · rw [if_pos k6, if_pos k6, if_pos t9, (C i hi).2]; exact ⟨_, rfl, l2⟩
    rw [if_neg k6, if_neg k6]
    exact ⟨_, rfl, rfl⟩
end W12
