/-! tear: the model's whole call behind its guard -/
theorem p208_60 {F f m n B : Nat} {a v : Int32} {h : HS} (e : hI h 86 32 = nI n) (hn : n ≤ 200) (eb : hI h 86 33 = nI B) (hB : B ≤ 200) (hF : 300 ≤ F) (hm : m ≤ n) (hf : n - m < f) : p208_L60 F a f (haI h 119 (tF (hI h 119) (hI h 111) a (hI h 86 1) m)) v (nI m) = some (v, haI (haI h 119 (tF (hI h 119) (hI h 111) a (hI h 86 1) n)) 124 (tF (hI h 124) (hI h 120) a (hI h 86 1) B)) := by
  induction f generalizing m with
  | zero => omega
  | succ f ih =>
    rw [p208_L60, hI_In (show ¬ 86 = 119 by decide), e]
    by_cases q : m = n
    · subst q
      rw [if_neg Int32.lt_irrefl]
      have r := p208_117 (F := F) (f := F) (m := 0) (n := B) (a := a) (v := v) (h := haI h 119 (tF (hI h 119) (hI h 111) a (hI h 86 1) m)) (by rw [hI_In (show ¬ 86 = 119 by decide)]; exact eb) hB (Nat.zero_le _) (by omega)
      rw [tF_z, haI_self, hI_In (show ¬ 124 = 119 by decide), hI_In (show ¬ 120 = 119 by decide), hI_In (show ¬ 86 = 119 by decide)] at r
      exact r
    · have g : ¬ (nI m < 0 ∨ 200 ≤ (nI m).toNatClampNeg) := nI_in (by omega) (by omega)
      have ih' := ih (m := m + 1) (by omega) (by omega)
      have st : ∀ w, (w = if hI h 111 m = a ∧ hI h 119 m = 100000 then hI h 86 1 else hI h 119 m) → p208_j108 F a (p208_L60 F a f) (haI h 119 (tF (hI h 119) (hI h 111) a (hI h 86 1) m)) v (nI m) w (nI m) = some (v, haI (haI h 119 (tF (hI h 119) (hI h 111) a (hI h 86 1) n)) 124 (tF (hI h 124) (hI h 120) a (hI h 86 1) B)) := by
        intro w hw
        unfold p208_j108
        rw [if_neg g, nI_clamp (by omega), hsI_ha, hI_I, haI_I, tF_s _ _ _ _ _ _ hw, nI_1]
        exact ih'
      rw [if_pos (nI_lt (by omega) (by omega)), if_neg g, if_neg g]
      unfold p208_j102
      simp only [if_neg g]
      rw [nI_clamp (by omega), hI_In (show ¬ 111 = 119 by decide), hI_I, tF_m]
      by_cases c1 : hI h 111 m = a
      · rw [if_pos c1]
        by_cases c2 : hI h 119 m = 100000
        · rw [if_pos c2]; exact st _ (by rw [if_pos ⟨c1, c2⟩])
        · rw [if_neg c2]; exact st _ (by rw [if_neg (fun z => c2 z.2)])
      · rw [if_neg c1]; exact st _ (by rw [if_neg (fun z => c1 z.1)])
theorem p208_24 {F f m n R B : Nat} {a : Int32} {h : HS} (e : hI h 86 3 = nI n) (hn : n ≤ 200) (er : hI h 86 32 = nI R) (hR : R ≤ 200) (eb : hI h 86 33 = nI B) (hB : B ≤ 200) (hF : 300 ≤ F) (hm : m ≤ n) (hf : n - m < f) : p208_L24 F a f (haI h 91 (sF (hI h 91) a m)) (nI (cnt (fun k => decide (hI h 91 k = a)) m)) (nI m) = some (nI (cnt (fun k => decide (hI h 91 k = a)) n), haI (haI (haI h 91 (sF (hI h 91) a n)) 119 (tF (hI h 119) (hI h 111) a (hI h 86 1) R)) 124 (tF (hI h 124) (hI h 120) a (hI h 86 1) B)) := by
  induction f generalizing m with
  | zero => omega
  | succ f ih =>
    rw [p208_L24, hI_In (show ¬ 86 = 91 by decide), e]
    by_cases q : m = n
    · subst q
      rw [if_neg Int32.lt_irrefl]
      have r := p208_60 (F := F) (f := F) (m := 0) (n := R) (B := B) (a := a) (v := nI (cnt (fun k => decide (hI h 91 k = a)) m)) (h := haI h 91 (sF (hI h 91) a m)) (by rw [hI_In (show ¬ 86 = 91 by decide)]; exact er) hR (by rw [hI_In (show ¬ 86 = 91 by decide)]; exact eb) hB hF (Nat.zero_le _) (by omega)
      rw [tF_z, haI_self, hI_In (show ¬ 124 = 91 by decide), hI_In (show ¬ 120 = 91 by decide), hI_In (show ¬ 119 = 91 by decide), hI_In (show ¬ 111 = 91 by decide), hI_In (show ¬ 86 = 91 by decide)] at r
      exact r
    · have ih' := ih (m := m + 1) (by omega) (by omega)
      rw [cnt] at ih'
      rw [if_pos (nI_lt (by omega) (by omega)), if_neg (nI_in (by omega) (by omega)), if_neg (nI_in (by omega) (by omega)), nI_clamp (by omega), hI_I, sF_m]
      unfold p208_j52
      by_cases c : hI h 91 m = a
      · rw [decide_eq_true c, if_pos rfl] at ih'
        rw [if_pos c, hsI_ha, hI_I, haI_I, sF_y _ _ _ c, nI_1, nI_1]
        exact ih'
      · rw [decide_eq_false c, if_neg (by decide), Nat.add_zero] at ih'
        rw [if_neg c, sF_n _ _ _ c, nI_1]
        exact ih'
