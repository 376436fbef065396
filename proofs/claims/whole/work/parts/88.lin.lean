/-! line -/
def lnC (n : Nat) (h : HS) (o : Nat) (x : Int64) (a b : Int32) : HS := hsI (hsI (hsI (hsL h (o + 1) n x) (o + 2) n a) (o + 3) n b) o 7 (nI (n + 1))
def lnM (n : Nat) (h : HS) (i : Nat) (x : Int64) (a b : Int32) : HS := hsI (hsI (hsI (hsL h 138 (20 * i + n) x) 139 (20 * i + n) a) 140 (20 * i + n) b) 99 i (nI (n + 1))
theorem b6_sr {x : Int64} {p : Nat} (hp : p < 64) (q : Nat) : b6 (x >>> ((nI p).toInt64 &&& 63)) q = if p + q < 64 then b6 x (p + q) else decide (q < 64) && b6 x 63 := by
  have e : ∀ k, k < 64 → (((nI k).toInt64 &&& 63).toBitVec.smod 64).toNat = k := by decide +kernel
  unfold b6
  rw [Int64.toBitVec_shiftRight]
  show (x.toBitVec.sshiftRight (((nI p).toInt64 &&& 63).toBitVec.smod 64).toNat).getLsbD q = _
  rw [e p hp, BitVec.getLsbD_sshiftRight]
  by_cases h1 : p + q < 64
  · rw [if_pos h1, if_pos h1, decide_eq_false (show ¬ 64 ≤ q by omega)]
    rfl
  · rw [if_neg h1, if_neg h1]
    congr 1
    by_cases h2 : q < 64
    · rw [decide_eq_true h2, decide_eq_false (show ¬ 64 ≤ q by omega)]; rfl
    · rw [decide_eq_false h2, decide_eq_true (show 64 ≤ q by omega)]; rfl
def ppl (s : SS) (x : Int64) : Prop := ∀ q, q < 64 → b6 x q = true → q < s 0 4
theorem b6_z {x : Int64} : (x = 0) ↔ ∀ q, q < 64 → b6 x q = false := ⟨fun h q _ => by rw [h]; exact b6_0 q, fun h => b6_ext fun q hq => by rw [h q hq, b6_0]⟩
theorem pplC {s : SS} {x : Int64} (h4 : s 0 4 ≤ 60) : (lg_cmp (x &&& ((((1 : Int64) <<< ((nI (s 0 4)).toInt64 &&& 63)) - 1) ^^^ ((-1 : Int64)))) 0 = 0) = ppl s x := by
  rw [lg0]
  apply propext
  rw [b6_z]
  constructor
  · intro h q hq hb
    have z := h q hq
    rw [b6_and, b6_not hq, b6_all _ (by omega) q hq, hb, Bool.true_and] at z
    by_cases y : q < s 0 4
    · exact y
    · rw [decide_eq_false y] at z; cases z
  · intro h q hq
    rw [b6_and, b6_not hq, b6_all _ (by omega) q hq]
    cases hb : b6 x q with
    | false => rfl
    | true => rw [decide_eq_true (h q hq hb)]; rfl
theorem pplM {s : SS} {x : Int64} (h4 : s 0 4 ≤ 60) : (lg_cmp (x >>> ((nI (s 0 4)).toInt64 &&& 63)) 0 = 0) = ppl s x := by
  rw [lg0]
  apply propext
  rw [b6_z]
  constructor
  · intro h q hq hb
    by_cases y : q < s 0 4
    · exact y
    · exfalso
      have z := h (q - s 0 4) (by omega)
      rw [b6_sr (by omega), if_pos (by omega), show s 0 4 + (q - s 0 4) = q by omega, hb] at z
      cases z
  · intro h q hq
    rw [b6_sr (by omega)]
    by_cases y : s 0 4 + q < 64
    · rw [if_pos y]
      cases hb : b6 x (s 0 4 + q) with
      | false => rfl
      | true => have := h _ y hb; omega
    · rw [if_neg y]
      cases hb : b6 x 63 with
      | false => exact Bool.and_false _
      | true => have := h _ (by decide) hb; omega
section LIN
variable {s : SS} {h : HS}
theorem lnC_ok {n o : Nat} {a b c : Int32} {x : Int64} (lo : 160 ≤ o) (hn : n < 20) (h0 : p171 h a = some (some o)) (t : hT h o = 9) (f7 : hI h o 7 = nI n) (r8 : hR h o 8 = some (o + 1)) (r9 : hR h o 9 = some (o + 2)) (r10 : hR h o 10 = some (o + 3)) (t1 : hT h (o + 1) = 23 ∧ hN h (o + 1) = 20) (t2 : hT h (o + 2) = 20 ∧ hN h (o + 2) = 20) (t3 : hT h (o + 3) = 20 ∧ hN h (o + 3) = 20) {y : Int64} (hy : p10 h = some y) (hp : lg_cmp (x &&& (y ^^^ (-1 : Int64))) 0 = 0) (h1 : p166 h b 1 200 = some 1) (h2 : p166 h c 0 999999 = some 1) : p146 h a x b c = some (nI n, lnC n h o x b c) := by
  have x1 : hR (hsL h (o + 1) n x) o 9 = some (o + 2) := r9
  have x2 : hT (hsL h (o + 1) n x) (o + 2) = 20 := t2.1
  have x3 : hI (hsL h (o + 1) n x) o 7 = nI n := f7
  have x4 : hN (hsL h (o + 1) n x) (o + 2) = 20 := t2.2
  have y1 : hR (hsI (hsL h (o + 1) n x) (o + 2) n b) o 10 = some (o + 3) := r10
  have y2 : hT (hsI (hsL h (o + 1) n x) (o + 2) n b) (o + 3) = 20 := t3.1
  have y3 : hI (hsI (hsL h (o + 1) n x) (o + 2) n b) o 7 = nI n := (hI_sn (by omega) _).trans f7
  have y4 : hN (hsI (hsL h (o + 1) n x) (o + 2) n b) (o + 3) = 20 := t3.2
  have z3 : hI (hsI (hsI (hsL h (o + 1) n x) (o + 2) n b) (o + 3) n c) o 7 = nI n := (hI_sn (by omega) _).trans y3
  have e96 : p96 h o x b c = some (nI n, lnC n h o x b c) := by
    unfold p96
    rw [r8, ob, if_pos t1.1, t1.2, f7, if_neg (nI_in hn (by decide)), nI_clamp (by omega), x1, ob, if_pos x2, x3, x4, if_neg (nI_in hn (by decide)), nI_clamp (by omega), ob, y1, ob, if_pos y2, y3, y4, if_neg (nI_in hn (by decide)), nI_clamp (by omega), z3, nI_1, ob]
    rfl
  unfold p146
  rw [h0, ob, if_neg (by intro z; cases z), ob, if_pos t, f7, if_pos (show nI n < 20 from nI_lt hn (by decide)), hy, ob, hp, if_pos rfl, h1, ob, if_neg n10, h2, ob, if_neg n10, e96, ob]
theorem lnM_ok {g : HS} {n i P : Nat} {b c : Int32} {x : Int64} (hn : n < 20) (hi : i < 200) (hP : P ≤ 60) (e20 : hI g 86 20 = nI P) (hp : lg_cmp (x >>> ((nI P).toInt64 &&& 63)) 0 = 0) (h206 : p206 g (nI i) = some 1) (g99 : hI g 99 i = nI n) (h1 : p187 g b 1 200 = some 1) (h2 : p187 g c 0 999999 = some 1) : p275 g (nI i) x b c = some (nI n, lnM n g i x b c) := by
  have lt64 : hI g 86 20 < 64 := by rw [e20]; exact nI_lt (b := 64) (by omega) (by decide)
  have ea : (20 : Int32) * nI i + nI n = nI (20 * i + n) := by rw [show (20 : Int32) = nI 20 from rfl, nI_mul, nI_add]
  have z3 : hI (hsI (hsI (hsL g 138 (20 * i + n) x) 139 (20 * i + n) b) 140 (20 * i + n) c) 99 i = nI n := (hI_sn (by decide) _).trans ((hI_sn (by decide) _).trans g99)
  have n20 : ¬ nI n = (20 : Int32) := fun z => by have := (nI_eq (b := 20) (by omega) (by decide)).mp z; omega
  have gi : ¬ (nI i < 0 ∨ 200 ≤ i) := nI_in' hi (by decide)
  have gA : ¬ (nI (20 * i + n) < 0 ∨ 4000 ≤ 20 * i + n) := nI_in' (by omega) (by decide)
  have ci : (nI i).toNatClampNeg = i := nI_clamp (by omega)
  have cA : (nI (20 * i + n)).toNatClampNeg = 20 * i + n := nI_clamp (by omega)
  unfold p275 p275_j24 p275_j25
  rw [if_pos lt64, e20, hp, if_pos rfl, h206, ob, if_neg n10, ci, if_neg gi, g99, if_neg n20, if_pos rfl, h1, ob, if_neg n10, h2, ob, if_neg n10, if_neg gi, ea, cA, if_neg gA, if_neg gA, ob, if_neg gA, if_neg gi, if_neg gi, z3, nI_1, ob, if_neg gi, hI_s, nI_pred]
  rfl
theorem lnX {i : Nat} {b c : Int32} {x : Int64} (lt64 : hI h 86 20 < 64) (hz : ∀ q, p275_j25 (nI i) x b c h q = some (-1, h)) : p275 h (nI i) x b c = some (-1, h) := by
  unfold p275 p275_j24
  rw [if_pos lt64, hz, hz, ite_self]
theorem w_line (E : EV s h) (a : Int32) (x : Int64) (b c : Int32) : (∃ v, p146 h a x b c = some (v, h) ∧ p275 h a x b c = some (v, h)) ∨ ∃ i v, i < s 0 3 ∧ s 5 i < 20 ∧ ppl s x ∧ p146 h a x b c = some (v, lnC (s 5 i) h (s 30 i) x b c) ∧ p275 (lnC (s 5 i) h (s 30 i) x b c) a x b c = some (v, lnM (s 5 i) (lnC (s 5 i) h (s 30 i) x b c) i x b c) := by
  have b3 := E.cn.b3
  have b4 := E.cn.b4
  have w := E.w.1
  have eC : p10 h = some (((1 : Int64) <<< ((nI (s 0 4)).toInt64 &&& 63)) - 1) := by unfold p10; rw [E.cn.c4]
  have lt64 : hI h 86 20 < 64 := by rw [E.cn.m4]; exact nI_lt (b := 64) (by omega) (by decide)
  rcases whc E a with ⟨h3, h4⟩ | ⟨i, hi, -, rfl, h3, h4⟩
  · left
    refine ⟨-1, ?_, ?_⟩
    · unfold p146
      rw [h3, ob, if_pos rfl]
    · have hz : ∀ q, p275_j25 a x b c h q = some (-1, h) := fun q => by
        unfold p275_j25
        rw [h4 h E.cn.m3 rfl, ob, if_pos rfl]
      unfold p275 p275_j24
      rw [if_pos lt64, hz, hz, ite_self]
  · have l5 := E.sh.b5 hi
    have lo := E.sh.lo hi
    have up := E.sh.hi hi
    have ci : (nI i).toNatClampNeg = i := nI_clamp (by omega)
    have gi : ¬ (nI i < 0 ∨ 200 ≤ i) := nI_in' (by omega) (by decide)
    have c0 : ∀ y z, p146 h (nI i) y z c = (if nI (s 5 i) < (20 : Int32) then (if lg_cmp (y &&& ((((1 : Int64) <<< ((nI (s 0 4)).toInt64 &&& 63)) - 1) ^^^ ((-1 : Int64)))) 0 = 0 then (Option.bind (p166 h z 1 200) fun r11 => if r11 = 0 then some (-1, h) else Option.bind (p166 h c 0 999999) fun r14 => if r14 = 0 then some (-1, h) else Option.bind (p96 h (s 30 i) y z c) fun r17 => some (r17.1, r17.2)) else some (-1, h)) else some (-1, h)) := fun y z => by
      unfold p146
      rw [h3, ob, if_neg (by intro z; cases z), ob, if_pos (E.sh.t hi), E.sh.f7 hi, eC, ob]
    by_cases hn : s 5 i < 20
    · have lt20 : nI (s 5 i) < (20 : Int32) := nI_lt hn (by decide)
      have n20 : ¬ nI (s 5 i) = (20 : Int32) := fun z => by have := (nI_eq (b := 20) (by omega) (by decide)).mp z; omega
      have j25 : ∀ q, p275_j25 (nI i) x b c h q = p275_j25 (nI i) x b c h q := fun q => rfl
      by_cases hp : ppl s x
      · have pC := (pplC b4).symm ▸ hp
        have pM := (pplM b4).symm ▸ hp
        rcases rngc b 1 200 with ⟨h5, h6⟩ | ⟨h5, h6, -, -⟩
        · left
          refine ⟨-1, ?_, ?_⟩
          · rw [c0, if_pos lt20, if_pos pC, h5, ob, if_pos rfl]
          · unfold p275 p275_j24 p275_j25
            rw [if_pos lt64, E.cn.m4, if_pos pM, h4 h E.cn.m3 rfl, ob, if_neg n10, ci, if_neg gi, E.sh.m5 hi, if_neg n20, if_pos rfl, h6, ob, if_pos rfl]
        · rcases rngc c 0 999999 with ⟨h7, h8⟩ | ⟨h7, h8, -, -⟩
          · left
            refine ⟨-1, ?_, ?_⟩
            · rw [c0, if_pos lt20, if_pos pC, h5, ob, if_neg n10, h7, ob, if_pos rfl]
            · unfold p275 p275_j24 p275_j25
              rw [if_pos lt64, E.cn.m4, if_pos pM, h4 h E.cn.m3 rfl, ob, if_neg n10, ci, if_neg gi, E.sh.m5 hi, if_neg n20, if_pos rfl, h6, ob, if_neg n10, h8, ob, if_pos rfl]
          · right
            have f : FR [] [] (fun y => y = s 30 i ∨ y = s 30 i + 1 ∨ y = s 30 i + 2 ∨ y = s 30 i + 3) h (lnC (s 5 i) h (s 30 i) x b c) := by
              have f0 : FR [] [] (fun y => y = s 30 i ∨ y = s 30 i + 1 ∨ y = s 30 i + 2 ∨ y = s 30 i + 3) h h := FR.rf (fun y z => by omega)
              unfold lnC
              exact (((f0.sL (Or.inr (Or.inl (Or.inr (Or.inl rfl))))).sI (Or.inr (Or.inl (Or.inr (Or.inr (Or.inl rfl)))))).sI (Or.inr (Or.inl (Or.inr (Or.inr (Or.inr rfl)))))).sI (Or.inr (Or.inl (Or.inl rfl)))
            exact ⟨i, nI (s 5 i), hi, hn, hp, lnC_ok lo hn h3 (E.sh.t hi) (E.sh.f7 hi) (E.sh.r8 hi) (E.sh.r9 hi) (E.sh.r10 hi) (E.sh.t1 hi) (E.sh.t2 hi) (E.sh.t3 hi) eC pC (h5 _) (h7 _), lnM_ok hn (by omega) b4 ((f.fI w 86 20 (by decide)).trans E.cn.m4) pM (h4 _ ((f.fI w 86 14 (by decide)).trans E.cn.m3) (f.fA w 97 (by decide))) ((congrFun (f.fA w 99 (by decide)) i).trans (E.sh.m5 hi)) (h6 _) (h8 _)⟩
      · left
        have pC : ¬ lg_cmp (x &&& ((((1 : Int64) <<< ((nI (s 0 4)).toInt64 &&& 63)) - 1) ^^^ ((-1 : Int64)))) 0 = 0 := fun z => hp ((pplC b4) ▸ z)
        have pM : ¬ lg_cmp (x >>> ((nI (s 0 4)).toInt64 &&& 63)) 0 = 0 := fun z => hp ((pplM b4) ▸ z)
        refine ⟨-1, ?_, ?_⟩
        · rw [c0, if_pos lt20, if_neg pC]
        · unfold p275 p275_j25
          rw [if_pos lt64, E.cn.m4, if_neg pM, h4 h E.cn.m3 rfl, ob, if_neg n10, ci, if_neg gi, E.sh.m5 hi, if_neg n20, if_neg n10]
    · left
      have e20 : s 5 i = 20 := by omega
      refine ⟨-1, ?_, ?_⟩
      · rw [c0, e20, if_neg (by decide)]
      · refine lnX lt64 fun q => ?_
        unfold p275_j25
        rw [h4 h E.cn.m3 rfl, ob, if_neg n10, ci, if_neg gi, E.sh.m5 hi, e20, if_pos (show nI 20 = (20 : Int32) from rfl)]
def lnD (s : SS) (i : Nat) (y : Nat) : Prop := y = s 30 i ∨ y = s 30 i + 1 ∨ y = s 30 i + 2 ∨ y = s 30 i + 3
def lnW : List Nat := [138, 139, 140, 99]
theorem line_fr (E : EV s h) {i n : Nat} (hi : i < s 0 3) {x : Int64} {b c : Int32} : FR lnW [] (lnD s i) h (lnM n (lnC n h (s 30 i) x b c) i x b c) := by
  have lo := E.sh.lo hi
  have f0 : FR lnW [] (lnD s i) h h := FR.rf (fun y z => by unfold lnD at z; omega)
  unfold lnM lnC
  exact (((((((f0.sL (Or.inr (Or.inl (Or.inr (Or.inl rfl))))).sI (Or.inr (Or.inl (Or.inr (Or.inr (Or.inl rfl)))))).sI (Or.inr (Or.inl (Or.inr (Or.inr (Or.inr rfl)))))).sI (Or.inr (Or.inl (Or.inl rfl)))).sL (Or.inl (by decide))).sI (Or.inl (by decide))).sI (Or.inl (by decide))).sI (Or.inl (by decide))
theorem lnD_sh (E : EV s h) (D : DI s) {i k : Nat} (hi : i < s 0 3) (hk : k < s 0 3) (ne : ¬ k = i) {j : Nat} (hj : j < 6) : ¬ lnD s i (s 30 k + j) := by
  have := D.2.2.2.1 k i hk hi ne
  unfold lnD
  omega
theorem lnD_p (E : EV s h) {i o : Nat} (hi : i < s 0 3) (t : hT h o = 5 ∨ hT h o = 6) : ¬ lnD s i o := by
  have t0 := E.sh.t hi
  have t1 := (E.sh.t1 hi).1
  have t2 := (E.sh.t2 hi).1
  have t3 := (E.sh.t3 hi).1
  rintro (z | z | z | z)
  · rw [z, t0] at t; exact absurd t (by decide)
  · rw [z, t1] at t; exact absurd t (by decide)
  · rw [z, t2] at t; exact absurd t (by decide)
  · rw [z, t3] at t; exact absurd t (by decide)
theorem line_o (E : EV s h) {i n : Nat} (hi : i < s 0 3) {x : Int64} {b c : Int32} : (∀ j, ¬ j = 7 → hI (lnM n (lnC n h (s 30 i) x b c) i x b c) (s 30 i) j = hI h (s 30 i) j) ∧ hI (lnM n (lnC n h (s 30 i) x b c) i x b c) (s 30 i) 7 = nI (n + 1) ∧ (∀ j, hR (lnM n (lnC n h (s 30 i) x b c) i x b c) (s 30 i) j = hR h (s 30 i) j) ∧ (∀ j, ¬ j = i → hI (lnM n (lnC n h (s 30 i) x b c) i x b c) 99 j = hI h 99 j) ∧ hI (lnM n (lnC n h (s 30 i) x b c) i x b c) 99 i = nI (n + 1) := by
  have lo := E.sh.lo hi
  unfold lnM lnC
  refine ⟨fun j hj => ?_, ?_, fun j => ?_, fun j hj => ?_, ?_⟩
  · simp (disch := omega) only [u2_u, u2_ne, hsI_ha, hsL_ha, hsR_ha, hI_I, hI_In, hL_L, hL_Ln, hR_R, hR_Rn, hL_I, hR_I, hT_I, hN_I, h1_I, h2_I, hI_L, hR_L, hT_L, hN_L, h1_L, h2_L, hI_R, hL_R, hT_R, hN_R, h1_R, h2_R, hI_W, hI_Wn, hL_W, hL_Wn, hR_W, hR_Wn, hT_W, hT_Wn, hN_W, hN_Wn, h1_W, h2_W, u1_eq, u1_ne, u1_u1, haI_I, u1_ne]
  · simp (disch := omega) only [u2_u, u2_ne, hsI_ha, hsL_ha, hsR_ha, hI_I, hI_In, hL_L, hL_Ln, hR_R, hR_Rn, hL_I, hR_I, hT_I, hN_I, h1_I, h2_I, hI_L, hR_L, hT_L, hN_L, h1_L, h2_L, hI_R, hL_R, hT_R, hN_R, h1_R, h2_R, hI_W, hI_Wn, hL_W, hL_Wn, hR_W, hR_Wn, hT_W, hT_Wn, hN_W, hN_Wn, h1_W, h2_W, u1_eq, u1_ne, u1_u1, haI_I, u1_ne]
  · simp (disch := omega) only [u2_u, u2_ne, hsI_ha, hsL_ha, hsR_ha, hI_I, hI_In, hL_L, hL_Ln, hR_R, hR_Rn, hL_I, hR_I, hT_I, hN_I, h1_I, h2_I, hI_L, hR_L, hT_L, hN_L, h1_L, h2_L, hI_R, hL_R, hT_R, hN_R, h1_R, h2_R, hI_W, hI_Wn, hL_W, hL_Wn, hR_W, hR_Wn, hT_W, hT_Wn, hN_W, hN_Wn, h1_W, h2_W, u1_eq, u1_ne, u1_u1, haI_I, u1_ne]
  · simp (disch := omega) only [u2_u, u2_ne, hsI_ha, hsL_ha, hsR_ha, hI_I, hI_In, hL_L, hL_Ln, hR_R, hR_Rn, hL_I, hR_I, hT_I, hN_I, h1_I, h2_I, hI_L, hR_L, hT_L, hN_L, h1_L, h2_L, hI_R, hL_R, hT_R, hN_R, h1_R, h2_R, hI_W, hI_Wn, hL_W, hL_Wn, hR_W, hR_Wn, hT_W, hT_Wn, hN_W, hN_Wn, h1_W, h2_W, u1_eq, u1_ne, u1_u1, haI_I, u1_ne]
  · simp (disch := omega) only [u2_u, u2_ne, hsI_ha, hsL_ha, hsR_ha, hI_I, hI_In, hL_L, hL_Ln, hR_R, hR_Rn, hL_I, hR_I, hT_I, hN_I, h1_I, h2_I, hI_L, hR_L, hT_L, hN_L, h1_L, h2_L, hI_R, hL_R, hT_R, hN_R, h1_R, h2_R, hI_W, hI_Wn, hL_W, hL_Wn, hR_W, hR_Wn, hT_W, hT_Wn, hN_W, hN_Wn, h1_W, h2_W, u1_eq, u1_ne, u1_u1, haI_I, u1_ne]
theorem ev_line (E : EV s h) (D : DI s) {i : Nat} (hi : i < s 0 3) (hn : s 5 i < 20) {x : Int64} {b c : Int32} : EV (u2 s 5 i (s 5 i + 1)) (lnM (s 5 i) (lnC (s 5 i) h (s 30 i) x b c) i x b c) := by
  have w := E.w.1
  have f := line_fr (n := s 5 i) (x := x) (b := b) (c := c) E hi
  obtain ⟨o1, o2, o3, o4, o5⟩ := line_o (n := s 5 i) (x := x) (b := b) (c := c) E hi
  generalize lnM (s 5 i) (lnC (s 5 i) h (s 30 i) x b c) i x b c = g at *
  have ow : wl lnW [] := by decide
  have dp : ∀ k, k < s 0 7 → ¬ lnD s i (s 32 k) := fun k hk => lnD_p E hi (Or.inl (E.rp.t hk))
  have C : CN s g := CN.fx E.cn w f [] (fun j hj _ => ⟨rfl, List.not_mem_nil, List.not_mem_nil⟩) (by decide) (fun j hj => absurd hj List.not_mem_nil)
  refine ⟨E.w.fr f (by decide), C, ?_, ?_, ?_, ?_⟩
  · intro k hk
    have hk : k < s 0 3 := hk
    have lo := E.sh.lo hk
    have up := E.sh.hi hk
    have a95 : hI g 95 = hI h 95 := f.fA w 95 (by decide)
    have a96 : hI g 96 = hI h 96 := f.fA w 96 (by decide)
    have a97 : hI g 97 = hI h 97 := f.fA w 97 (by decide)
    have a98 : hI g 98 = hI h 98 := f.fA w 98 (by decide)
    have r49 : hR g 49 = hR h 49 := f.fR w 49 (by decide)
    have oI : ∀ j, ¬ j = 7 → hI g (s 30 k) j = hI h (s 30 k) j := fun j hj => by
      by_cases e : k = i
      · subst e; exact o1 j hj
      · exact f.oI ow.1 ow.2 lo (by omega) (lnD_sh E D hi hk e (j := 0) (by decide)) j
    have oR : ∀ j, hR g (s 30 k) j = hR h (s 30 k) j := fun j => by
      by_cases e : k = i
      · subst e; exact o3 j
      · exact f.oR ow.1 lo (by omega) (lnD_sh E D hi hk e (j := 0) (by decide)) j
    have v5 : hI g (s 30 k) 7 = nI ((u2 s 5 i (s 5 i + 1)) 5 k) ∧ hI g 99 k = nI ((u2 s 5 i (s 5 i + 1)) 5 k) ∧ (u2 s 5 i (s 5 i + 1)) 5 k ≤ 20 := by
      rw [u2_u]
      by_cases e : k = i
      · subst e
        rw [u1_eq]
        exact ⟨o2, o5, by omega⟩
      · rw [u1_ne e, o4 k e]
        exact ⟨(f.oI ow.1 ow.2 lo (by omega) (lnD_sh E D hi hk e (j := 0) (by decide)) 7).trans (E.sh.f7 hk), E.sh.m5 hk, E.sh.b5 hk⟩
    rw [u2_rowne (x := 1) (by decide), u2_rowne (x := 2) (by decide), u2_rowne (x := 3) (by decide), u2_rowne (x := 4) (by decide), u2_rowne (x := 30) (by decide), a95, a96, a97, a98, r49, oI 0 (by decide), oI 1 (by decide), oI 2 (by decide), oI 3 (by decide), oI 4 (by decide), oR, oR, oR, oR, oR, f.T (by omega), f.T (by omega), f.T (by omega), f.T (by omega), f.T (by omega), f.T (by omega), f.N (by omega), f.N (by omega), f.N (by omega), f.N (by omega), f.N (by omega)]
    have H := E.sh
    exact ⟨H.m1 hk, H.m2 hk, H.m3 hk, H.m4 hk, v5.2.1, H.o hk, H.t hk, H.f0 hk, H.f1 hk, H.f2 hk, H.f3 hk, H.f4 hk, v5.1, H.b1 hk, H.b2 hk, H.b3 hk, H.b4 hk, v5.2.2, H.r8 hk, H.r9 hk, H.r10 hk, H.r11 hk, H.r12 hk, H.t1 hk, H.t2 hk, H.t3 hk, H.t4 hk, H.t5 hk, lo, Nat.le_trans up f.1⟩
  · exact E.sn.fr w f (by decide) (fun k hk => lnD_p E hi (Or.inl (E.sn.t hk)))
  · exact E.rp.fr w f (by decide) (fun k hk => lnD_p E hi (Or.inl (E.rp.t hk)))
  · exact E.bl.fr w f (by decide) (fun k hk => lnD_p E hi (Or.inl (E.bl.t hk)))
theorem ln_line (E : EV s h) (D : DI s) (L : LNc s h) {i : Nat} (hi : i < s 0 3) (hn : s 5 i < 20) {x : Int64} (hp : ppl s x) {b c : Int32} : LNc (u2 s 5 i (s 5 i + 1)) (lnM (s 5 i) (lnC (s 5 i) h (s 30 i) x b c) i x b c) := by
  have w := E.w.1
  have b3 := E.cn.b3
  obtain ⟨L1, L2, L3⟩ := L
  have lo := E.sh.lo hi
  have ow : wl lnW [] := by decide
  have f := line_fr (n := s 5 i) (x := x) (b := b) (c := c) E hi
  have n1 : ∀ j, hL (lnM (s 5 i) (lnC (s 5 i) h (s 30 i) x b c) i x b c) (s 30 i + 1) j = u1 (hL h (s 30 i + 1)) (s 5 i) x j := fun j => by unfold lnM lnC; simp (disch := omega) only [u2_u, u2_ne, hsI_ha, hsL_ha, hsR_ha, hI_I, hI_In, hL_L, hL_Ln, hR_R, hR_Rn, hL_I, hR_I, hT_I, hN_I, h1_I, h2_I, hI_L, hR_L, hT_L, hN_L, h1_L, h2_L, hI_R, hL_R, hT_R, hN_R, h1_R, h2_R, hI_W, hI_Wn, hL_W, hL_Wn, hR_W, hR_Wn, hT_W, hT_Wn, hN_W, hN_Wn, h1_W, h2_W, u1_eq, u1_ne, u1_u1, haI_I, u1_ne]
  have n2 : ∀ j, hI (lnM (s 5 i) (lnC (s 5 i) h (s 30 i) x b c) i x b c) (s 30 i + 2) j = u1 (hI h (s 30 i + 2)) (s 5 i) b j := fun j => by unfold lnM lnC; simp (disch := omega) only [u2_u, u2_ne, hsI_ha, hsL_ha, hsR_ha, hI_I, hI_In, hL_L, hL_Ln, hR_R, hR_Rn, hL_I, hR_I, hT_I, hN_I, h1_I, h2_I, hI_L, hR_L, hT_L, hN_L, h1_L, h2_L, hI_R, hL_R, hT_R, hN_R, h1_R, h2_R, hI_W, hI_Wn, hL_W, hL_Wn, hR_W, hR_Wn, hT_W, hT_Wn, hN_W, hN_Wn, h1_W, h2_W, u1_eq, u1_ne, u1_u1, haI_I, u1_ne]
  have n3 : ∀ j, hI (lnM (s 5 i) (lnC (s 5 i) h (s 30 i) x b c) i x b c) (s 30 i + 3) j = u1 (hI h (s 30 i + 3)) (s 5 i) c j := fun j => by unfold lnM lnC; simp (disch := omega) only [u2_u, u2_ne, hsI_ha, hsL_ha, hsR_ha, hI_I, hI_In, hL_L, hL_Ln, hR_R, hR_Rn, hL_I, hR_I, hT_I, hN_I, h1_I, h2_I, hI_L, hR_L, hT_L, hN_L, h1_L, h2_L, hI_R, hL_R, hT_R, hN_R, h1_R, h2_R, hI_W, hI_Wn, hL_W, hL_Wn, hR_W, hR_Wn, hT_W, hT_Wn, hN_W, hN_Wn, h1_W, h2_W, u1_eq, u1_ne, u1_u1, haI_I, u1_ne]
  have n4 : ∀ j, hI (lnM (s 5 i) (lnC (s 5 i) h (s 30 i) x b c) i x b c) (s 30 i + 4) j = hI h (s 30 i + 4) j := fun j => by unfold lnM lnC; simp (disch := omega) only [u2_u, u2_ne, hsI_ha, hsL_ha, hsR_ha, hI_I, hI_In, hL_L, hL_Ln, hR_R, hR_Rn, hL_I, hR_I, hT_I, hN_I, h1_I, h2_I, hI_L, hR_L, hT_L, hN_L, h1_L, h2_L, hI_R, hL_R, hT_R, hN_R, h1_R, h2_R, hI_W, hI_Wn, hL_W, hL_Wn, hR_W, hR_Wn, hT_W, hT_Wn, hN_W, hN_Wn, h1_W, h2_W, u1_eq, u1_ne, u1_u1, haI_I, u1_ne]
  have n5 : ∀ j, hI (lnM (s 5 i) (lnC (s 5 i) h (s 30 i) x b c) i x b c) (s 30 i + 5) j = hI h (s 30 i + 5) j := fun j => by unfold lnM lnC; simp (disch := omega) only [u2_u, u2_ne, hsI_ha, hsL_ha, hsR_ha, hI_I, hI_In, hL_L, hL_Ln, hR_R, hR_Rn, hL_I, hR_I, hT_I, hN_I, h1_I, h2_I, hI_L, hR_L, hT_L, hN_L, h1_L, h2_L, hI_R, hL_R, hT_R, hN_R, h1_R, h2_R, hI_W, hI_Wn, hL_W, hL_Wn, hR_W, hR_Wn, hT_W, hT_Wn, hN_W, hN_Wn, h1_W, h2_W, u1_eq, u1_ne, u1_u1, haI_I, u1_ne]
  have m1 : ∀ j, hL (lnM (s 5 i) (lnC (s 5 i) h (s 30 i) x b c) i x b c) 138 j = u1 (hL h 138) (20 * i + s 5 i) x j := fun j => by unfold lnM lnC; simp (disch := omega) only [u2_u, u2_ne, hsI_ha, hsL_ha, hsR_ha, hI_I, hI_In, hL_L, hL_Ln, hR_R, hR_Rn, hL_I, hR_I, hT_I, hN_I, h1_I, h2_I, hI_L, hR_L, hT_L, hN_L, h1_L, h2_L, hI_R, hL_R, hT_R, hN_R, h1_R, h2_R, hI_W, hI_Wn, hL_W, hL_Wn, hR_W, hR_Wn, hT_W, hT_Wn, hN_W, hN_Wn, h1_W, h2_W, u1_eq, u1_ne, u1_u1, haI_I, u1_ne]
  have m2 : ∀ j, hI (lnM (s 5 i) (lnC (s 5 i) h (s 30 i) x b c) i x b c) 139 j = u1 (hI h 139) (20 * i + s 5 i) b j := fun j => by unfold lnM lnC; simp (disch := omega) only [u2_u, u2_ne, hsI_ha, hsL_ha, hsR_ha, hI_I, hI_In, hL_L, hL_Ln, hR_R, hR_Rn, hL_I, hR_I, hT_I, hN_I, h1_I, h2_I, hI_L, hR_L, hT_L, hN_L, h1_L, h2_L, hI_R, hL_R, hT_R, hN_R, h1_R, h2_R, hI_W, hI_Wn, hL_W, hL_Wn, hR_W, hR_Wn, hT_W, hT_Wn, hN_W, hN_Wn, h1_W, h2_W, u1_eq, u1_ne, u1_u1, haI_I, u1_ne]
  have m3 : ∀ j, hI (lnM (s 5 i) (lnC (s 5 i) h (s 30 i) x b c) i x b c) 140 j = u1 (hI h 140) (20 * i + s 5 i) c j := fun j => by unfold lnM lnC; simp (disch := omega) only [u2_u, u2_ne, hsI_ha, hsL_ha, hsR_ha, hI_I, hI_In, hL_L, hL_Ln, hR_R, hR_Rn, hL_I, hR_I, hT_I, hN_I, h1_I, h2_I, hI_L, hR_L, hT_L, hN_L, h1_L, h2_L, hI_R, hL_R, hT_R, hN_R, h1_R, h2_R, hI_W, hI_Wn, hL_W, hL_Wn, hR_W, hR_Wn, hT_W, hT_Wn, hN_W, hN_Wn, h1_W, h2_W, u1_eq, u1_ne, u1_u1, haI_I, u1_ne]
  have m4 : hI (lnM (s 5 i) (lnC (s 5 i) h (s 30 i) x b c) i x b c) 146 = hI h 146 := f.fA w 146 (by decide)
  generalize lnM (s 5 i) (lnC (s 5 i) h (s 30 i) x b c) i x b c = g at *
  have v5 : ∀ k, (u2 s 5 i (s 5 i + 1)) 5 k = if k = i then s 5 i + 1 else s 5 k := fun k => u2_u
  have oth : ∀ k, k < s 0 3 → ¬ k = i → ∀ d, d < 6 → (∀ j, hI g (s 30 k + d) j = hI h (s 30 k + d) j) ∧ ∀ j, hL g (s 30 k + d) j = hL h (s 30 k + d) j := fun k hk e d hd =>
    ⟨fun j => f.oI ow.1 ow.2 (by have := E.sh.lo hk; omega) (by have := E.sh.hi hk; omega) (lnD_sh E D hi hk e hd) j, fun j => f.oLo ow.1 (by have := E.sh.lo hk; omega) (by have := E.sh.hi hk; omega) (lnD_sh E D hi hk e hd) j⟩
  refine ⟨fun k hk j hj => ?_, fun k hk j hj r hr => ?_, fun k hk h2 j hj r hr => ?_⟩
  · have hk : k < s 0 3 := hk
    have l5 := E.sh.b5 hk
    rw [v5] at hj
    rw [u2_rowne (x := 30) (by decide), m1, m2, m3]
    by_cases e : k = i
    · subst e
      rw [if_pos rfl] at hj
      rw [n1, n2, n3]
      by_cases ej : j = s 5 k
      · subst ej
        rw [u1_eq, u1_eq, u1_eq, u1_eq, u1_eq, u1_eq]
        exact ⟨rfl, rfl, rfl, hp⟩
      · rw [u1_ne ej, u1_ne ej, u1_ne ej, u1_ne (by omega), u1_ne (by omega), u1_ne (by omega)]
        exact L1 k hk j (by omega)
    · rw [if_neg e] at hj
      rw [(oth k hk e 1 (by decide)).2, (oth k hk e 2 (by decide)).1, (oth k hk e 3 (by decide)).1, u1_ne (by omega), u1_ne (by omega), u1_ne (by omega)]
      exact L1 k hk j hj
  · have hk : k < s 0 3 := hk
    rw [u2_rowne (x := 30) (by decide), m4]
    by_cases e : k = i
    · subst e
      rw [n4, n5]
      exact L2 k hk j hj r hr
    · rw [(oth k hk e 4 (by decide)).1, (oth k hk e 5 (by decide)).1]
      exact L2 k hk j hj r hr
  · rw [m4]
    exact L3 k hk h2 j hj r hr
end LIN
