/-! tear: the loops over scraps, and the model's over reports and bills -/
def tF (f g : Nat → Int32) (a now : Int32) (m k : Nat) : Int32 := if k < m ∧ g k = a ∧ f k = 100000 then now else f k
def sF (f : Nat → Int32) (a : Int32) (m k : Nat) : Int32 := if k < m ∧ f k = a then -1 else f k
theorem tF_z (f g : Nat → Int32) (a now : Int32) : tF f g a now 0 = f := funext fun k => if_neg (by omega)
theorem sF_z (f : Nat → Int32) (a : Int32) : sF f a 0 = f := funext fun k => if_neg (by omega)
theorem tF_m (f g : Nat → Int32) (a now : Int32) (m : Nat) : tF f g a now m m = f m := if_neg (by omega)
theorem sF_m (f : Nat → Int32) (a : Int32) (m : Nat) : sF f a m m = f m := if_neg (by omega)
theorem tF_s (f g : Nat → Int32) (a now v : Int32) (m : Nat) (hv : v = if g m = a ∧ f m = 100000 then now else f m) : u1 (tF f g a now m) m v = tF f g a now (m + 1) := by
  funext k
  by_cases e : k = m
  · subst e
    rw [u1_eq, hv]
    unfold tF
    by_cases c : g k = a ∧ f k = 100000
    · rw [if_pos c, if_pos ⟨by omega, c⟩]
    · rw [if_neg c, if_neg (fun z => c z.2)]
  · rw [u1_ne e]
    unfold tF
    by_cases c : k < m ∧ g k = a ∧ f k = 100000
    · rw [if_pos c, if_pos ⟨by omega, c.2⟩]
    · rw [if_neg c, if_neg (fun z => c ⟨by omega, z.2⟩)]
theorem sF_y (f : Nat → Int32) (a : Int32) (m : Nat) (hv : f m = a) : u1 (sF f a m) m (-1) = sF f a (m + 1) := by
  funext k
  by_cases e : k = m
  · subst e
    rw [u1_eq]
    exact (if_pos ⟨by omega, hv⟩).symm
  · rw [u1_ne e]
    unfold sF
    by_cases c : k < m ∧ f k = a
    · rw [if_pos c, if_pos ⟨by omega, c.2⟩]
    · rw [if_neg c, if_neg (fun z => c ⟨by omega, z.2⟩)]
theorem sF_n (f : Nat → Int32) (a : Int32) (m : Nat) (hv : ¬ f m = a) : sF f a m = sF f a (m + 1) := by
  funext k
  unfold sF
  by_cases c : k < m ∧ f k = a
  · rw [if_pos c, if_pos ⟨by omega, c.2⟩]
  · rw [if_neg c, if_neg (fun z => c ⟨by
      by_cases e : k = m
      · subst e; exact absurd z.2 hv
      · omega, z.2⟩)]
theorem p93_run {F f m n : Nat} {a : Int32} {h : HS} (e : hI h 33 1 = nI n) (hn : n ≤ 200) (hm : m ≤ n) (hf : n - m < f) : p93_L4 F a f (haI h 37 (sF (hI h 37) a m)) (nI (cnt (fun k => decide (hI h 37 k = a)) m)) (nI m) = some (nI (cnt (fun k => decide (hI h 37 k = a)) n), haI h 37 (sF (hI h 37) a n)) := by
  induction f generalizing m with
  | zero => omega
  | succ f ih =>
    rw [p93_L4, hI_In (show ¬ 33 = 37 by decide), e]
    by_cases q : m = n
    · subst q; rw [if_neg Int32.lt_irrefl]
    · have ih' := ih (m := m + 1) (by omega) (by omega)
      rw [cnt] at ih'
      rw [if_pos (nI_lt (by omega) (by omega)), if_neg (nI_in (by omega) (by omega)), if_neg (nI_in (by omega) (by omega)), nI_clamp (by omega), hI_I, sF_m]
      unfold p93_j32
      by_cases c : hI h 37 m = a
      · rw [decide_eq_true c, if_pos rfl] at ih'
        rw [if_pos c, hsI_ha, hI_I, haI_I, sF_y _ _ _ c, nI_1, nI_1]
        exact ih'
      · rw [decide_eq_false c, if_neg (by decide), Nat.add_zero] at ih'
        rw [if_neg c, sF_n _ _ _ c, nI_1]
        exact ih'
theorem p208_117 {F f m n : Nat} {a v : Int32} {h : HS} (e : hI h 86 33 = nI n) (hn : n ≤ 200) (hm : m ≤ n) (hf : n - m < f) : p208_L117 F a f (haI h 124 (tF (hI h 124) (hI h 120) a (hI h 86 1) m)) v (nI m) = some (v, haI h 124 (tF (hI h 124) (hI h 120) a (hI h 86 1) n)) := by
  induction f generalizing m with
  | zero => omega
  | succ f ih =>
    rw [p208_L117, hI_In (show ¬ 86 = 124 by decide), e]
    by_cases q : m = n
    · subst q; rw [if_neg Int32.lt_irrefl]
    · have g : ¬ (nI m < 0 ∨ 200 ≤ (nI m).toNatClampNeg) := nI_in (by omega) (by omega)
      have ih' := ih (m := m + 1) (by omega) (by omega)
      have st : ∀ w, (w = if hI h 120 m = a ∧ hI h 124 m = 100000 then hI h 86 1 else hI h 124 m) → p208_j165 F a (p208_L117 F a f) (haI h 124 (tF (hI h 124) (hI h 120) a (hI h 86 1) m)) v (nI m) w (nI m) = some (v, haI h 124 (tF (hI h 124) (hI h 120) a (hI h 86 1) n)) := by
        intro w hw
        unfold p208_j165
        rw [if_neg g, nI_clamp (by omega), hsI_ha, hI_I, haI_I, tF_s _ _ _ _ _ _ hw, nI_1]
        exact ih'
      rw [if_pos (nI_lt (by omega) (by omega)), if_neg g, if_neg g]
      unfold p208_j159
      simp only [if_neg g]
      rw [nI_clamp (by omega), hI_In (show ¬ 120 = 124 by decide), hI_I, tF_m]
      by_cases c1 : hI h 120 m = a
      · rw [if_pos c1]
        by_cases c2 : hI h 124 m = 100000
        · rw [if_pos c2]; exact st _ (by rw [if_pos ⟨c1, c2⟩])
        · rw [if_neg c2]; exact st _ (by rw [if_neg (fun z => c2 z.2)])
      · rw [if_neg c1]; exact st _ (by rw [if_neg (fun z => c1 z.1)])
