/-! ask -/
def asC (s : SS) (h : HS) (i k : Nat) : HS := hsI (hsI (hsR h (s 35 i) 2 (some (s 30 k))) (s 35 i) 3 (nI (s 0 0))) (s 35 i) 4 (hI h (s 35 i) 4 + 1)
def asM (s : SS) (h : HS) (i k : Nat) : HS := hsI (hsI (hsI h 142 i (nI k)) 143 i (nI (s 0 0))) 144 i (hI h 144 i + 1)
section ASK
variable {s : SS} {h : HS}
theorem hR_s (h : HS) (a k : Nat) (v : Option Nat) : hR (hsR h a k v) a k = v := by
  show u2 (hR h) a k v a k = v
  exact if_pos ⟨rfl, rfl⟩
theorem hR_sn {h : HS} {a k x : Nat} {v : Option Nat} (e : ¬ x = a) (j : Nat) : hR (hsR h a k v) x j = hR h x j := by
  show u2 (hR h) a k v x j = hR h x j
  exact u2_ne e
theorem hI_sk {h : HS} {a k x j : Nat} {v : Int32} (e : ¬ j = k) : hI (hsI h a k v) x j = hI h x j := by
  show u2 (hI h) a k v x j = hI h x j
  exact if_neg (fun z => e z.2)
theorem w_ask (E : EV s h) (R : RDc s h) (a b : Int32) : (∃ v, p150 h a b = some (v, h) ∧ p285 h a b = some (v, h)) ∨ ∃ i k v, i < s 0 10 ∧ k < s 0 3 ∧ hI h 142 i = -1 ∧ p150 h a b = some (v, asC s h i k) ∧ p285 (asC s h i k) a b = some (v, asM s (asC s h i k) i k) := by
  have b10 := E.cn.b10
  have b3 := E.cn.b3
  have w := E.w.1
  rcases rdr E a with ⟨h1, h2⟩ | ⟨i, hi, rfl, h1, h2⟩
  · left
    refine ⟨0, ?_, ?_⟩
    · unfold p150
      rcases whc E b with ⟨h3, -⟩ | ⟨k, hk, -, rfl, h3, -⟩
      · rw [h3, ob, h1, ob, if_pos rfl]
      · rw [h3, ob, h1, ob, if_pos rfl]
    · unfold p285
      rw [h2 h E.cn.m10, ob, if_pos rfl]
  · obtain ⟨r1, r2, r3, r4, r5, r6, r7, r8⟩ := R.1 i hi
    rcases whc E b with ⟨h3, h4⟩ | ⟨k, hk, -, rfl, h3, h4⟩
    · left
      refine ⟨0, ?_, ?_⟩
      · unfold p150
        rw [h3, ob, h1, ob, if_neg n10, if_pos rfl]
      · unfold p285
        rw [h2 h E.cn.m10, ob, if_neg n10, h4 h E.cn.m3 rfl, ob, if_pos rfl]
    · rcases r6 with ⟨e1, e2⟩ | ⟨q, hq, e1, e2⟩
      · right
        have f : FR [] [] (fun x => x = s 35 i) h (asC s h i k) := by
          unfold asC
          have f0 : FR [] [] (fun x => x = s 35 i) h h := FR.rf (fun x z => by rw [z]; exact r3.1)
          exact (((f0.sR (Or.inr (Or.inl rfl))).sI (Or.inr (Or.inl rfl))).sI (Or.inr (Or.inl rfl)))
        have g1 : hI (asC s h i k) 86 72 = nI (s 0 10) := (f.fI w 86 72 (by decide)).trans E.cn.m10
        have g2 : hI (asC s h i k) 86 14 = nI (s 0 3) := (f.fI w 86 14 (by decide)).trans E.cn.m3
        have g3 : hI (asC s h i k) 97 = hI h 97 := f.fA w 97 (by decide)
        have g4 : hI (asC s h i k) 142 i = -1 := (f.fI w 142 i ⟨by decide, by decide, fun z => by cases z⟩).trans e1
        have g5 : hI (asC s h i k) 86 1 = nI (s 0 0) := (f.fI w 86 1 (by decide)).trans E.cn.m0
        refine ⟨i, k, 1, hi, hk, e1, ?_, ?_⟩
        · unfold p150
          have lo := r3.1
          have x1 : hR (hsR h (s 35 i) 2 (some (s 30 k))) 67 i = some (s 35 i) := (hR_sn (by omega) i).trans r1
          have x2 : hT (hsR h (s 35 i) 2 (some (s 30 k))) (s 35 i) = 6 := r2
          have x3 : hI (hsR h (s 35 i) 2 (some (s 30 k))) 32 0 = nI (s 0 0) := E.cn.c0
          have x4 : hR (hsI (hsR h (s 35 i) 2 (some (s 30 k))) (s 35 i) 3 (nI (s 0 0))) 67 i = some (s 35 i) := x1
          have x5 : hT (hsI (hsR h (s 35 i) 2 (some (s 30 k))) (s 35 i) 3 (nI (s 0 0))) (s 35 i) = 6 := r2
          have x6 : hI (hsI (hsR h (s 35 i) 2 (some (s 30 k))) (s 35 i) 3 (nI (s 0 0))) (s 35 i) 4 = hI h (s 35 i) 4 := hI_sk (by decide)
          rw [h3, ob, h1, ob, if_neg n10, if_neg (by intro z; cases z), ob, if_neg (nI_in (by omega) (by decide)), nI_clamp (by omega), r1, ob, if_pos r2, e2, if_pos rfl, if_neg (nI_in' (by omega) (by decide)), ob, if_pos r2, if_neg (nI_in' (by omega) (by decide)), x1, ob, if_pos x2, if_neg (nI_in' (by omega) (by decide)), x3, x4, ob, if_pos x5, x6, ob]
          rfl
        · unfold p285
          have y1 : hI (hsI (asC s h i k) 142 i (nI k)) 86 1 = nI (s 0 0) := (hI_sn (by decide) _).trans g5
          have y2 : hI (hsI (hsI (asC s h i k) 142 i (nI k)) 143 i (nI (s 0 0))) 144 i = hI (asC s h i k) 144 i := (hI_sn (by decide) _).trans (hI_sn (by decide) _)
          rw [h2 _ g1, ob, if_neg n10, h4 _ g2 g3, ob, if_neg n10, if_neg (nI_in (by omega) (by decide)), nI_clamp (by omega), g4, if_pos rfl, if_neg (nI_in' (by omega) (by decide)), if_neg (nI_in' (by omega) (by decide)), y1, ob, if_neg (nI_in' (by omega) (by decide)), if_neg (nI_in' (by omega) (by decide)), y2]
          rfl
      · left
        refine ⟨0, ?_, ?_⟩
        · unfold p150
          rw [h3, ob, h1, ob, if_neg n10, if_neg (by intro z; cases z), ob, if_neg (nI_in (by omega) (by decide)), nI_clamp (by omega), r1, ob, if_pos r2, e2, if_neg (by intro z; cases z), ob]
        · unfold p285
          rw [h2 h E.cn.m10, ob, if_neg n10, h4 h E.cn.m3 rfl, ob, if_neg n10, if_neg (nI_in (by omega) (by decide)), nI_clamp (by omega), e1, if_neg (fun z => by have := m1_nI (n := q) (by omega); rw [this] at z; exact z)]
def asW : List Nat := [142, 143, 144]
theorem ask_fr (R : RDc s h) {i k : Nat} (hi : i < s 0 10) : FR asW [] (fun x => x = s 35 i) h (asM s (asC s h i k) i k) := by
  obtain ⟨r1, r2, r3, r4, r5, r6, r7, r8⟩ := R.1 i hi
  unfold asM asC
  have f0 : FR asW [] (fun x => x = s 35 i) h h := FR.rf (fun x z => by rw [z]; exact r3.1)
  exact ((((((f0.sR (Or.inr (Or.inl rfl))).sI (Or.inr (Or.inl rfl))).sI (Or.inr (Or.inl rfl))).sI (Or.inl (by decide))).sI (Or.inl (by decide))).sI (Or.inl (by decide)))
theorem rdD (E : EV s h) {x : Nat} (t : hT h x = 6) : evD s (fun y => y = x) := by
  refine ⟨fun j hj z => ?_, fun j hj z => ?_, fun j hj z => ?_, fun j hj z => ?_⟩
  · have := E.sh.t hj; rw [z, t] at this; exact absurd this (by decide)
  · have := E.sn.t hj; rw [z, t] at this; exact absurd this (by decide)
  · have := E.rp.t hj; rw [z, t] at this; exact absurd this (by decide)
  · have := E.bl.t hj; rw [z, t] at this; exact absurd this (by decide)
theorem ev_ask (E : EV s h) (R : RDc s h) {i k : Nat} (hi : i < s 0 10) : EV s (asM s (asC s h i k) i k) := E.fr (ask_fr R hi) (by decide) (rdD E (R.1 i hi).2.1)
theorem rd_ask (E : EV s h) (R : RDc s h) {i k : Nat} (hi : i < s 0 10) (hk : k < s 0 3) : RDc s (asM s (asC s h i k) i k) := by
  have w := E.w.1
  have b0 := E.cn.b0
  have f := ask_fr (k := k) R hi
  obtain ⟨R1, R2, R3⟩ := R
  have b10 := E.cn.b10
  refine ⟨fun j hj => ?_, fun j hj => ?_, R3⟩
  · obtain ⟨r1, r2, r3, r4, r5, r6, r7, r8⟩ := R1 j hj
    obtain ⟨p1, p2, p3, p4, p5, p6, p7, p8⟩ := R1 i hi
    have lo := r3.1
    have li := p3.1
    by_cases e : j = i
    · subst e
      unfold asM asC
      simp (disch := omega) only [u2_u, u2_ne, hsI_ha, hsL_ha, hsR_ha, hI_I, hI_In, hL_L, hL_Ln, hR_R, hR_Rn, hL_I, hR_I, hT_I, hN_I, h1_I, h2_I, hI_L, hR_L, hT_L, hN_L, h1_L, h2_L, hI_R, hL_R, hT_R, hN_R, h1_R, h2_R, hI_W, hI_Wn, hL_W, hL_Wn, hR_W, hR_Wn, hT_W, hT_Wn, hN_W, hN_Wn, h1_W, h2_W, u1_eq, u1_ne, u1_u1, haI_I, u1_ne]
      exact ⟨r1, r2, ⟨lo, r3.2⟩, r4, r5, Or.inr ⟨k, hk, rfl, rfl⟩, ⟨trivial, s 0 0, b0, rfl⟩, by rw [r8]⟩
    · have ne : ¬ s 35 j = s 35 i := fun z => e (R3 j i hj hi z)
      unfold asM asC
      simp (disch := omega) only [u2_u, u2_ne, hsI_ha, hsL_ha, hsR_ha, hI_I, hI_In, hL_L, hL_Ln, hR_R, hR_Rn, hL_I, hR_I, hT_I, hN_I, h1_I, h2_I, hI_L, hR_L, hT_L, hN_L, h1_L, h2_L, hI_R, hL_R, hT_R, hN_R, h1_R, h2_R, hI_W, hI_Wn, hL_W, hL_Wn, hR_W, hR_Wn, hT_W, hT_Wn, hN_W, hN_Wn, h1_W, h2_W, u1_eq, u1_ne, u1_u1, haI_I, u1_ne]
      exact ⟨r1, r2, ⟨lo, r3.2⟩, r4, r5, r6, r7, r8⟩
  · have ne : ¬ j = i := by omega
    have li := (R1 i hi).2.2.1.1
    unfold asM asC
    simp (disch := omega) only [u2_u, u2_ne, hsI_ha, hsL_ha, hsR_ha, hI_I, hI_In, hL_L, hL_Ln, hR_R, hR_Rn, hL_I, hR_I, hT_I, hN_I, h1_I, h2_I, hI_L, hR_L, hT_L, hN_L, h1_L, h2_L, hI_R, hL_R, hT_R, hN_R, h1_R, h2_R, hI_W, hI_Wn, hL_W, hL_Wn, hR_W, hR_Wn, hT_W, hT_Wn, hN_W, hN_Wn, h1_W, h2_W, u1_eq, u1_ne, u1_u1, haI_I, u1_ne]
    exact R2 j hj
end ASK
