/-! tear -/
section W25
variable {s : SS} {h : HS}
def terG (s : SS) (i : Nat) (h : HS) : HS := papF s i (nI (s 0 0)) (s 0 8) (hsI h (s 30 i) 3 (nI (s 0 0)))
def terC (s : SS) (i : Nat) (h : HS) : HS := haI (terG s i h) 37 (sF (hI (terG s i h) 37) (nI i) (s 0 2))
def terM (s : SS) (i : Nat) (g : HS) : HS := haI (haI (haI (hsI g 97 i (hI g 86 1)) 91 (sF (hI (hsI g 97 i (hI g 86 1)) 91) (nI i) (s 0 2))) 119 (tF (hI (hsI g 97 i (hI g 86 1)) 119) (hI (hsI g 97 i (hI g 86 1)) 111) (nI i) (hI (hsI g 97 i (hI g 86 1)) 86 1) (s 0 7))) 124 (tF (hI (hsI g 97 i (hI g 86 1)) 124) (hI (hsI g 97 i (hI g 86 1)) 120) (nI i) (hI (hsI g 97 i (hI g 86 1)) 86 1) (s 0 8))
theorem terG_I (E : EV s h) {i x : Nat} (hi : i < s 0 3) (hx : x < 160) : hI (terG s i h) x = hI h x := by
  have lo := E.sh.lo hi
  unfold terG
  rw [papF_I (fun k hk z => by have := E.rp.lo hk; omega) (fun k hk z => by have := E.bl.lo hk; omega), hsI_ha, hI_In (by omega)]
theorem terC_I (E : EV s h) {i x : Nat} (hi : i < s 0 3) (hx : x < 160) (h37 : ¬ x = 37) : hI (terC s i h) x = hI h x := by
  unfold terC
  rw [hI_In h37, terG_I E hi hx]
theorem w_tear (E : EV s h) (D : DI s) (S : SCc s h) {F : Nat} (hF : 300 ≤ F) (a : Int32) : (∃ v, p124 F h a = some (v, h) ∧ p208 F h a = some (v, h)) ∨ ∃ i v, i < s 0 3 ∧ s 3 i = 100000 ∧ a = nI i ∧ p124 F h a = some (v, terC s i h) ∧ p208 F (terC s i h) a = some (v, terM s i (terC s i h)) := by
  have b2 := E.cn.b2
  have b3 := E.cn.b3
  have b7 := E.cn.b7
  have b8 := E.cn.b8
  rcases whc E a with ⟨k1, k2⟩ | ⟨i, hi, hti, rfl, k1, k2⟩
  · left
    refine ⟨-1, ?_, ?_⟩
    · unfold p124; rw [k1, ob, if_pos rfl]
    · unfold p208; rw [k2 h E.cn.m3 rfl, ob, if_pos rfl]
  · right
    have lo := E.sh.lo hi
    refine ⟨i, nI (cnt (fun k => decide (hI h 91 k = nI i)) (s 0 2)), hi, hti, rfl, ?_, ?_⟩
    · have Q : hT (hsI h (s 30 i) 3 (nI (s 0 0))) = hT h ∧ hR (hsI h (s 30 i) 3 (nI (s 0 0))) = hR h ∧ (∀ x, (∀ k, k < s 0 3 → ¬ x = s 30 k) → hI (hsI h (s 30 i) 3 (nI (s 0 0))) x = hI h x) ∧ ∀ k, k < s 0 3 → hI (hsI h (s 30 i) 3 (nI (s 0 0))) (s 30 k) 0 = hI h (s 30 k) 0 := by
        rw [hsI_ha, hT_I, hR_I]
        refine ⟨rfl, rfl, fun x hx => hI_In (hx i hi), fun k hk => ?_⟩
        by_cases e : k = i
        · subst e; rw [hI_I, u1_ne (by decide)]
        · have := D.2.2.2.1 k i hk hi e
          rw [hI_In (by omega)]
      have r := fallC E D Q (F := F) (i := i) (now := nI (s 0 0)) hF hi
      have q := p93_run (F := F) (f := F) (m := 0) (n := s 0 2) (a := nI i) (h := terG s i h) (by rw [terG_I E hi (by decide)]; exact E.cn.c2) b2 (Nat.zero_le _) (by omega)
      rw [sF_z, haI_self] at q
      have q' : p93 F (terG s i h) (nI i) = some (nI (cnt (fun k => decide (hI h 91 k = nI i)) (s 0 2)), terC s i h) := by
        unfold p93
        rw [terG_I E hi (by decide), S.2.2.2.1] at q
        unfold terC
        rw [terG_I E hi (by decide), S.2.2.2.1]
        exact q
      unfold p124
      rw [k1, ob, if_neg (by intro z; cases z), ob, if_pos (E.sh.t hi), show hI (hsI h (s 30 i) 3 (hI h 32 0)) 32 0 = nI (s 0 0) by rw [hsI_ha, hI_In (by omega)]; exact E.cn.c0, E.cn.c0, r, ob]
      show Option.bind (p93 F (terG s i h) (nI i)) _ = _
      rw [q', ob]
    · have g : ¬ (nI i < 0 ∨ 200 ≤ (nI i).toNatClampNeg) := nI_in (by omega) (by omega)
      have e86 := terC_I E (x := 86) hi (by decide) (by decide)
      have x86 : hI (hsI (terC s i h) 97 i (hI (terC s i h) 86 1)) 86 = hI h 86 := by rw [hsI_ha, hI_In (by decide), e86]
      have x91 : hI (hsI (terC s i h) 97 i (hI (terC s i h) 86 1)) 91 = hI h 91 := by rw [hsI_ha, hI_In (by decide), terC_I E hi (by decide) (by decide)]
      have r := p208_24 (F := F) (f := F) (m := 0) (n := s 0 2) (R := s 0 7) (B := s 0 8) (a := nI i) (h := hsI (terC s i h) 97 i (hI (terC s i h) 86 1)) (by rw [x86]; exact E.cn.m2) b2 (by rw [x86]; exact E.cn.m7) b7 (by rw [x86]; exact E.cn.m8) b8 hF (Nat.zero_le _) (by omega)
      rw [sF_z, haI_self] at r
      unfold p208
      rw [k2 (terC s i h) (by rw [e86]; exact E.cn.m3) (terC_I E hi (by decide) (by decide)), ob, if_neg (show ¬ (1 : Int32) = 0 by decide), if_neg g, nI_clamp (by omega)]
      unfold terM
      rw [x91] at r ⊢
      exact r
end W25
