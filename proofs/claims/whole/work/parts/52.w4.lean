/-! calls that change: what was seen, reports, bills -/
section W4
variable {s : SS} {h : HS}
theorem perc (E : EV s h) (a : Int32) : (p1 h a = some 0 ∧ (∀ h', hI h' 86 20 = nI (s 0 4) → p213 h' a = some 0)) ∨ ∃ q, q < s 0 4 ∧ a = nI q ∧ p1 h (nI q) = some 1 ∧ (∀ h', hI h' 86 20 = nI (s 0 4) → p213 h' (nI q) = some 1) := by
  have c4 := E.cn.b4
  rcases ixc a (s 0 4) (by omega) with ⟨h1, h2, -⟩ | ⟨q, hq, rfl, h1, h2⟩
  · left
    exact ⟨by unfold p1; rw [E.cn.c4, h1]; rfl, fun h' e => by unfold p213; rw [e, h2]; rfl⟩
  · right
    exact ⟨q, hq, rfl, by unfold p1; rw [E.cn.c4, h1]; rfl, fun h' e => by unfold p213; rw [e, h2]; rfl⟩
theorem covc (E : EV s h) (a : Int32) : (p2 h a = some 0 ∧ (∀ h', hI h' 86 31 = nI (s 0 6) → p218 h' a = some 0)) ∨ ∃ q, q < s 0 6 ∧ a = nI q ∧ p2 h (nI q) = some 1 ∧ (∀ h', hI h' 86 31 = nI (s 0 6) → p218 h' (nI q) = some 1) := by
  have c4 := E.cn.b6
  rcases ixc a (s 0 6) (by omega) with ⟨h1, h2, -⟩ | ⟨q, hq, rfl, h1, h2⟩
  · left
    exact ⟨by unfold p2; rw [E.cn.c6, h1]; rfl, fun h' e => by unfold p218; rw [e, h2]; rfl⟩
  · right
    exact ⟨q, hq, rfl, by unfold p2; rw [E.cn.c6, h1]; rfl, fun h' e => by unfold p218; rw [e, h2]; rfl⟩
theorem oldc (b : Int32) : ((∀ h, p166 h b 0 9999 = some 0) ∧ ∀ h, p189 h b = some 0) ∨ ∃ d, d ≤ 9999 ∧ b = nI d ∧ (∀ h, p166 h (nI d) 0 9999 = some 1) ∧ (∀ h, p189 h (nI d) = some 1) := by
  rcases rngN b 0 9999 (by decide) (by decide) with ⟨h1, h2⟩ | ⟨h1, h2, k, -, hk, rfl⟩
  · exact Or.inl ⟨h1, fun h => by unfold p189; rw [show p187 h b 0 9999 = some 0 from h2 h]; rfl⟩
  · exact Or.inr ⟨k, hk, rfl, h1, fun h => by unfold p189; rw [show p187 h (nI k) 0 9999 = some 1 from h2 h]; rfl⟩
/-- an old day not ahead of f -/
theorem frto (f : Nat) (hf : f ≤ 9999) (b : Int32) : ((∀ h, p166 h b (nI f) 9999 = some 0) ∧ ((∀ h, p189 h b = some 0) ∨ (∀ h, p189 h b = some 1) ∧ b < nI f)) ∨ ∃ t, f ≤ t ∧ t ≤ 9999 ∧ b = nI t ∧ (∀ h, p166 h (nI t) (nI f) 9999 = some 1) ∧ (∀ h, p189 h (nI t) = some 1) ∧ ¬ nI t < nI f := by
  have h0 := rngN b f 9999 (by omega) (by decide)
  rcases oldc b with ⟨h1, h2⟩ | ⟨t, ht, rfl, h1, h2⟩
  · rcases h0 with ⟨g1, -⟩ | ⟨g1, -, t, ht1, ht2, rfl⟩
    · exact Or.inl ⟨g1, Or.inl h2⟩
    · exfalso
      have := h1 (0, 0, fun _ => 0, fun _ => 0, fun _ _ => 0, fun _ _ => 0, fun _ _ => none)
      unfold p166 at this
      rw [if_neg (nI_pos (by omega)), if_neg (show ¬ 9999 < nI t from nI_nlt (a := 9999) (by omega) (by omega))] at this
      exact absurd this (by decide)
  · by_cases hft : f ≤ t
    · rcases h0 with ⟨g1, -⟩ | ⟨g1, -⟩
      · exfalso
        have := g1 (0, 0, fun _ => 0, fun _ => 0, fun _ _ => 0, fun _ _ => 0, fun _ _ => none)
        unfold p166 at this
        rw [if_neg (nI_nlt hft (by omega)), if_neg (nI_nlt ht (by omega))] at this
        exact absurd this (by decide)
      · exact Or.inr ⟨t, hft, ht, rfl, g1, h2, nI_nlt hft (by omega)⟩
    · rcases h0 with ⟨g1, -⟩ | ⟨-, -, k, hk1, hk2, hk3⟩
      · exact Or.inl ⟨g1, Or.inr ⟨h2, nI_lt (by omega) (by omega)⟩⟩
      · exfalso
        have := (nI_eq (by omega) (by omega)).mp hk3
        omega
theorem p01 {o : Option Int32} (h : (Option.bind o fun r1 => if r1 = (0 : Int32) ∨ r1 = (1 : Int32) then some r1 else none) = some 1) : o = some 1 := by
  cases o with
  | none => cases h
  | some r =>
    simp only [Option.bind] at h
    split at h
    · exact h
    · cases h
theorem w_seen (E : EV s h) (a b c d : Int32) : (∃ v, p128 h a b c d = some (v, h) ∧ p214 h a b c d = some (v, h)) ∨ ∃ q pl f t v, s 0 5 < 400 ∧ q < s 0 4 ∧ pl ≤ 99 ∧ f ≤ t ∧ t ≤ 9999 ∧ a = nI q ∧ b = nI pl ∧ c = nI f ∧ d = nI t ∧ p128 h a b c d = some (v, sc_seenC (s 0 5) h (nI q) (nI pl) (nI f) (nI t) (nI (s 0 0))) ∧ p214 (sc_seenC (s 0 5) h (nI q) (nI pl) (nI f) (nI t) (nI (s 0 0))) a b c d = some (v, sc_seenM (s 0 5) (sc_seenC (s 0 5) h (nI q) (nI pl) (nI f) (nI t) (nI (s 0 0))) (nI q) (nI pl) (nI f) (nI t) (nI (s 0 0))) := by
  have w1 : 160 ≤ h.1 := E.w.1
  have c5 := E.cn.b5
  have e1 := E.cn.c5
  have e2 := E.cn.m5
  have e4 := E.cn.m4
  have e5 := E.cn.c0
  have e6 := E.cn.m0
  by_cases hf : s 0 5 = 400
  · left
    refine ⟨-1, ?_, ?_⟩
    · unfold p128; rw [if_neg (show ¬ hI h 50 2 < 400 by rw [e1]; exact nI_nlt (b := 400) (by omega) (by omega))]
    · unfold p214; rw [if_pos (show hI h 86 21 = 400 by rw [e2, hf]; rfl)]
  · rcases perc E a with ⟨k1, k2⟩ | ⟨q, hq, rfl, k1, k2⟩
    · left
      refine ⟨-1, ?_, ?_⟩
      · unfold p128; rw [if_pos (show hI h 50 2 < 400 by rw [e1]; exact nI_lt (b := 400) (by omega) (by omega)), k1, ob, if_pos rfl]
      · unfold p214; rw [if_neg (show ¬ hI h 86 21 = 400 by rw [e2]; exact fun z => hf ((nI_eq (b := 400) (by omega) (by omega)).mp z)), (k2 _ e4), ob, if_pos rfl]
    · rcases rngc b 0 99 with ⟨k3, k4⟩ | ⟨k3, k4, y1, y2⟩
      · left
        refine ⟨-1, ?_, ?_⟩
        · unfold p128; rw [if_pos (show hI h 50 2 < 400 by rw [e1]; exact nI_lt (b := 400) (by omega) (by omega)), k1, ob, if_neg (show ¬ (1 : Int32) = 0 by decide), k3 _, ob, if_pos rfl]
        · unfold p214; rw [if_neg (show ¬ hI h 86 21 = 400 by rw [e2]; exact fun z => hf ((nI_eq (b := 400) (by omega) (by omega)).mp z)), (k2 _ e4), ob, if_neg (show ¬ (1 : Int32) = 0 by decide), k4 _, ob, if_pos rfl]
      · obtain ⟨pl, -, hpl, rfl⟩ := le_of_nI (m := 0) (n := 99) (by decide) (by decide) y1 y2
        rcases oldc c with ⟨k5, k6⟩ | ⟨f, hf1, rfl, k5, k6⟩
        · left
          refine ⟨-1, ?_, ?_⟩
          · unfold p128; rw [if_pos (show hI h 50 2 < 400 by rw [e1]; exact nI_lt (b := 400) (by omega) (by omega)), k1, ob, if_neg (show ¬ (1 : Int32) = 0 by decide), k3 _, ob, if_neg (show ¬ (1 : Int32) = 0 by decide), k5 _, ob, if_pos rfl]
          · unfold p214; rw [if_neg (show ¬ hI h 86 21 = 400 by rw [e2]; exact fun z => hf ((nI_eq (b := 400) (by omega) (by omega)).mp z)), (k2 _ e4), ob, if_neg (show ¬ (1 : Int32) = 0 by decide), k4 _, ob, if_neg (show ¬ (1 : Int32) = 0 by decide), k6 _, ob, if_pos rfl]
        · rcases frto f hf1 d with ⟨k7, k8 | ⟨k8, k9⟩⟩ | ⟨t, ht1, ht2, rfl, k7, k8, k9⟩
          · left
            refine ⟨-1, ?_, ?_⟩
            · unfold p128; rw [if_pos (show hI h 50 2 < 400 by rw [e1]; exact nI_lt (b := 400) (by omega) (by omega)), k1, ob, if_neg (show ¬ (1 : Int32) = 0 by decide), k3 _, ob, if_neg (show ¬ (1 : Int32) = 0 by decide), k5 _, ob, if_neg (show ¬ (1 : Int32) = 0 by decide), k7 _, ob, if_pos rfl]
            · unfold p214; rw [if_neg (show ¬ hI h 86 21 = 400 by rw [e2]; exact fun z => hf ((nI_eq (b := 400) (by omega) (by omega)).mp z)), (k2 _ e4), ob, if_neg (show ¬ (1 : Int32) = 0 by decide), k4 _, ob, if_neg (show ¬ (1 : Int32) = 0 by decide), k6 _, ob, if_neg (show ¬ (1 : Int32) = 0 by decide), k8 _, ob, if_pos rfl]
          · left
            refine ⟨-1, ?_, ?_⟩
            · unfold p128; rw [if_pos (show hI h 50 2 < 400 by rw [e1]; exact nI_lt (b := 400) (by omega) (by omega)), k1, ob, if_neg (show ¬ (1 : Int32) = 0 by decide), k3 _, ob, if_neg (show ¬ (1 : Int32) = 0 by decide), k5 _, ob, if_neg (show ¬ (1 : Int32) = 0 by decide), k7 _, ob, if_pos rfl]
            · unfold p214; rw [if_neg (show ¬ hI h 86 21 = 400 by rw [e2]; exact fun z => hf ((nI_eq (b := 400) (by omega) (by omega)).mp z)), (k2 _ e4), ob, if_neg (show ¬ (1 : Int32) = 0 by decide), k4 _, ob, if_neg (show ¬ (1 : Int32) = 0 by decide), k6 _, ob, if_neg (show ¬ (1 : Int32) = 0 by decide), k8 _, ob, if_neg (show ¬ (1 : Int32) = 0 by decide), if_pos k9]
          · right
            have kc : hI (sc_seenC (s 0 5) h (nI q) (nI pl) (nI f) (nI t) (nI (s 0 0))) 86 = hI h 86 := by
              have k : ¬ 86 = h.1 := by omega
              unfold sc_seenC
              simp (disch := omega) only [hsI_ha, hsR_ha, hI_In, hI_R, pap_In]
            exact ⟨q, pl, f, t, nI (s 0 5), by omega, hq, hpl, ht1, ht2, rfl, rfl, rfl, rfl, seenC_ok w1 (by omega) e1 e5 k1 (k3 _) (k5 _) (k7 _), seenM_ok (by omega) (by rw [kc]; exact e2) (by rw [kc]; exact e6) (k2 _ (by rw [kc]; exact e4)) (k4 _) (by have := k6 (sc_seenC (s 0 5) h (nI q) (nI pl) (nI f) (nI t) (nI (s 0 0))); unfold p189 at this; exact p01 this) (by have := k8 (sc_seenC (s 0 5) h (nI q) (nI pl) (nI f) (nI t) (nI (s 0 0))); unfold p189 at this; exact p01 this) k9⟩
end W4
