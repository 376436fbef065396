/-! readers -/
def RDc (s : SS) (h : HS) : Prop := (∀ i, i < s 0 10 → hR h 67 i = some (s 35 i) ∧ hT h (s 35 i) = 6 ∧ (160 ≤ s 35 i ∧ s 35 i < h.1) ∧ (hI h (s 35 i) 0 = hI h 141 i ∧ (hI h 141 i = -1 ∨ ∃ q, q < s 0 4 ∧ hI h 141 i = nI q)) ∧ (hI h (s 35 i) 1 = hI h 145 i ∧ (hI h 145 i = 0 ∨ hI h 145 i = 1)) ∧ ((hI h 142 i = -1 ∧ hR h (s 35 i) 2 = none) ∨ ∃ k, k < s 0 3 ∧ hI h 142 i = nI k ∧ hR h (s 35 i) 2 = some (s 30 k)) ∧ (hI h (s 35 i) 3 = hI h 143 i ∧ ∃ d, d ≤ 3999 ∧ hI h 143 i = nI d) ∧ hI h (s 35 i) 4 = hI h 144 i) ∧ (∀ i, s 0 10 ≤ i → hI h 143 i = 0 ∧ hI h 144 i = 0) ∧ ∀ i j, i < s 0 10 → j < s 0 10 → s 35 i = s 35 j → i = j
theorem ixm (a : Int32) (n : Nat) (hn : n < 2147483648) : (a = -1 ∧ ∀ h, p187 h a (-1) (nI n - 1) = some 1) ∨ (∃ i, i < n ∧ a = nI i ∧ ¬ nI i = -1 ∧ (∀ h, p187 h (nI i) (-1) (nI n - 1) = some 1) ∧ (∀ h, p166 h (nI i) 0 (nI n - 1) = some 1)) ∨ (¬ a = -1 ∧ (∀ h, p187 h a (-1) (nI n - 1) = some 0) ∧ (∀ h, p166 h a 0 (nI n - 1) = some 0)) := by
  have hs := sub1_nI hn
  have hm : (-1 : Int32).toInt = -1 := by decide
  by_cases h0 : a = -1
  · left
    refine ⟨h0, fun h => ?_⟩
    subst h0
    unfold p187
    rw [if_neg Int32.lt_irrefl, if_neg]
    rw [Int32.lt_iff_toInt_lt, hs, hm]
    omega
  · right
    rcases ixc a n hn with ⟨h1, h2, h3⟩ | ⟨i, hi, rfl, h1, h2⟩
    · right
      refine ⟨h0, fun h => ?_, h1⟩
      have e := h2 h
      unfold p187 at e ⊢
      by_cases z : a < -1
      · rw [if_pos z]
      · rw [if_neg z]
        by_cases z2 : a < 0
        · exfalso
          apply h0
          apply Int32.toInt_inj.mp
          rw [Int32.lt_iff_toInt_lt, hm] at z
          rw [Int32.lt_iff_toInt_lt, show (0 : Int32).toInt = 0 from rfl] at z2
          rw [hm]
          omega
        · rw [if_neg z2] at e
          exact e
    · left
      refine ⟨i, hi, rfl, h0, fun h => ?_, h1⟩
      have e := h2 h
      unfold p187 at e ⊢
      rw [if_neg]
      · rw [if_neg (nI_pos (by omega))] at e
        exact e
      · rw [Int32.lt_iff_toInt_lt, hm, nI_toInt (by omega)]
        omega
def rdC (n : Nat) (h : HS) (a b : Int32) : HS := hsI (hsR (hsI (hsI (hnew h 6 5 (fun _ => 0)) h.1 0 a) h.1 1 b) 67 n (some h.1)) 32 4 (nI (n + 1))
def rdM (n : Nat) (h : HS) (a b : Int32) : HS := hsI (hsI (hsI (hsI h 141 n a) 145 n b) 142 n (-1)) 86 72 (nI (n + 1))
theorem hI_s (h : HS) (a k : Nat) (v : Int32) : hI (hsI h a k v) a k = v := by
  show u2 (hI h) a k v a k = v
  exact if_pos ⟨rfl, rfl⟩
theorem hI_sn {h : HS} {a k x : Nat} {v : Int32} (e : ¬ x = a) (j : Nat) : hI (hsI h a k v) x j = hI h x j := by
  show u2 (hI h) a k v x j = hI h x j
  exact u2_ne e
section RDS
variable {s : SS} {h : HS}
theorem rdC_ok {n : Nat} {a b : Int32} (w : 160 ≤ h.1) (hn : n < 30) (e : hI h 32 4 = nI n) (hb : b = 0 ∨ b = 1) : p147_j27 a b h = some (nI n, rdC n h a b) := by
  unfold p147_j27 p72
  have t : hT (hsI (hsI (hnew h 6 5 fun x => 0) h.1 0 a) h.1 1 b) h.1 = 6 := if_pos rfl
  have e1 : hI (hsR (hsI (hsI (hnew h 6 5 fun x => 0) h.1 0 a) h.1 1 b) 67 n (some h.1)) 32 4 = nI n := by
    show hI (hsI (hsI (hnew h 6 5 fun x => 0) h.1 0 a) h.1 1 b) 32 4 = nI n
    rw [hsI_ha, hI_In (by omega), hsI_ha, hI_In (by omega), hI_Wn (by omega), e]
  rw [ob, if_pos hb, ob, if_pos t, e, if_neg (nI_in hn (by decide)), nI_clamp (by omega), ob, e1, nI_1]
  rfl
theorem rdM_ok {n : Nat} {a b : Int32} (hn : n < 30) (e : hI h 86 72 = nI n) (hb : b = 0 ∨ b = 1) (hp : p187 h a (-1) (hI h 86 20 - 1) = some 1) : p276 h a b = some (nI n, rdM n h a b) := by
  have vb : vp_nar .boolean b = b := by rcases hb with rfl | rfl <;> rfl
  have e1 : hI (hsI h 141 n a) 86 72 = nI n := (hI_sn (by decide) _).trans e
  have e2 : hI (hsI (hsI h 141 n a) 145 n b) 86 72 = nI n := (hI_sn (by decide) _).trans e1
  have e3 : hI (hsI (hsI (hsI h 141 n a) 145 n b) 142 n (-1)) 86 72 = nI n := (hI_sn (by decide) _).trans e2
  have e4 : hI (hsI (hsI (hsI (hsI h 141 n a) 145 n b) 142 n (-1)) 86 72 (nI (n + 1))) 86 72 = nI (n + 1) := hI_s _ _ _ _
  unfold p276
  rw [e, if_neg (fun z => by have := (nI_eq (a := n) (b := 30) (by omega) (by decide)).mp z; omega), hp, ob, if_neg (by decide), if_neg (nI_in hn (by decide)), nI_clamp (by omega), e1, if_neg (nI_in hn (by decide)), nI_clamp (by omega), vb, ob, e2, if_neg (nI_in hn (by decide)), nI_clamp (by omega), e3, nI_1, ob, e4, nI_pred]
  rfl
theorem w_reader (E : EV s h) (a b : Int32) (hb : b = 0 ∨ b = 1) : (∃ v, p147 h a b = some (v, h) ∧ p276 h a b = some (v, h)) ∨ ∃ v, s 0 10 < 30 ∧ (a = -1 ∨ ∃ q, q < s 0 4 ∧ a = nI q) ∧ p147 h a b = some (v, rdC (s 0 10) h a b) ∧ p276 (rdC (s 0 10) h a b) a b = some (v, rdM (s 0 10) (rdC (s 0 10) h a b) a b) := by
  have b10 := E.cn.b10
  have b4 := E.cn.b4
  have w := E.w.1
  by_cases hn : s 0 10 < 30
  · have k20 : hI (rdC (s 0 10) h a b) 86 20 = nI (s 0 4) := by
      unfold rdC
      simp (disch := omega) only [hsI_ha, hsL_ha, hsR_ha, hI_I, hI_In, hL_L, hL_Ln, hR_R, hR_Rn, hL_I, hR_I, hT_I, hN_I, h1_I, h2_I, hI_L, hR_L, hT_L, hN_L, h1_L, h2_L, hI_R, hL_R, hT_R, hN_R, h1_R, h2_R, hI_W, hI_Wn, hL_W, hL_Wn, hR_W, hR_Wn, hT_W, hT_Wn, hN_W, hN_Wn, h1_W, h2_W, u1_eq, u1_ne, u1_u1, haI_I]
      exact E.cn.m4
    have k72 : hI (rdC (s 0 10) h a b) 86 72 = nI (s 0 10) := by
      unfold rdC
      simp (disch := omega) only [hsI_ha, hsL_ha, hsR_ha, hI_I, hI_In, hL_L, hL_Ln, hR_R, hR_Rn, hL_I, hR_I, hT_I, hN_I, h1_I, h2_I, hI_L, hR_L, hT_L, hN_L, h1_L, h2_L, hI_R, hL_R, hT_R, hN_R, h1_R, h2_R, hI_W, hI_Wn, hL_W, hL_Wn, hR_W, hR_Wn, hT_W, hT_Wn, hN_W, hN_Wn, h1_W, h2_W, u1_eq, u1_ne, u1_u1, haI_I]
      exact E.cn.m10
    have g : hI h 32 4 < 30 := by rw [E.cn.c10]; exact nI_lt hn (by decide)
    rcases ixm a (s 0 4) (by omega) with ⟨rfl, h1⟩ | ⟨i, hi, rfl, h0, h1, h2⟩ | ⟨h0, h1, h2⟩
    · right
      refine ⟨nI (s 0 10), hn, Or.inl rfl, ?_, rdM_ok hn k72 hb (by rw [k20]; exact h1 _)⟩
      unfold p147
      rw [if_pos g, if_pos rfl]
      exact rdC_ok w hn E.cn.c10 hb
    · right
      refine ⟨nI (s 0 10), hn, Or.inr ⟨i, hi, rfl⟩, ?_, rdM_ok hn k72 hb (by rw [k20]; exact h1 _)⟩
      unfold p147 p1
      rw [if_pos g, if_neg h0, E.cn.c4, h2, ob, if_pos (Or.inr rfl), ob, if_neg (by decide)]
      exact rdC_ok w hn E.cn.c10 hb
    · left
      refine ⟨-1, ?_, ?_⟩
      · unfold p147 p1
        rw [if_pos g, if_neg h0, E.cn.c4, h2, ob, if_pos (Or.inl rfl), ob, if_pos rfl]
      · unfold p276
        rw [E.cn.m10, if_neg (fun z => by have := (nI_eq (a := s 0 10) (b := 30) (by omega) (by decide)).mp z; omega), E.cn.m4, h1, ob, if_pos rfl]
  · left
    have e30 : s 0 10 = 30 := by omega
    refine ⟨-1, ?_, ?_⟩
    · unfold p147
      rw [E.cn.c10, e30, if_neg (by decide)]
    · unfold p276
      rw [E.cn.m10, e30, if_pos (show nI 30 = (30 : Int32) from rfl)]
def rdFW : List Nat := [31, 67, 141, 142, 145]
def rdFK : List (Nat × Nat) := [(32, 4), (86, 72)]
theorem reader_fr {n : Nat} {a b : Int32} (w : 160 ≤ h.1) : FR rdFW rdFK nD h (rdM n (rdC n h a b) a b) := by
  unfold rdM rdC
  exact (((((((((FR.rf nD160).nw).sI (Or.inr (Or.inr (Or.inr (Nat.le_refl _))))).sI (Or.inr (Or.inr (Or.inr (Nat.le_refl _))))).sR (Or.inl (by decide))).sI (Or.inr (Or.inr (Or.inl (by decide))))).sI (Or.inl (by decide))).sI (Or.inl (by decide))).sI (Or.inl (by decide))).sI (Or.inr (Or.inr (Or.inl (by decide))))
def st_reader (s : SS) (h : HS) : SS := u2 (u2 s 35 (s 0 10) h.1) 0 10 (s 0 10 + 1)
theorem st_reader0 {j : Nat} (hj : ¬ j = 10) : st_reader s h 0 j = s 0 j := by
  unfold st_reader
  rw [u2_u, u1_ne hj, u2_ne (by decide)]
theorem st_readerR {r : Nat} (h0 : ¬ r = 0) (h35 : ¬ r = 35) : st_reader s h r = s r := by
  unfold st_reader
  rw [u2_rowne h0, u2_rowne h35]
theorem ev_reader (E : EV s h) (hn : s 0 10 < 30) {a b : Int32} : EV (st_reader s h) (rdM (s 0 10) (rdC (s 0 10) h a b) a b) := by
  have w := E.w.1
  refine E.fx (reader_fr w) (X := [10]) (by decide) evD_n (fun r l u => st_readerR (by omega) (by omega)) (fun j _ m => st_reader0 (fun z => m (by rw [z]; decide))) (fun j m => ?_)
  have ej : j = 10 := List.mem_singleton.mp m
  subst ej
  have q : st_reader s h 0 10 = s 0 10 + 1 := by unfold st_reader; rw [u2_u, u1_eq]
  rw [q]
  refine ⟨?_, ?_, by show s 0 10 + 1 ≤ 30; omega⟩
  · show hI (rdM (s 0 10) (rdC (s 0 10) h a b) a b) 32 4 = _
    unfold rdM rdC
    simp (disch := omega) only [hsI_ha, hsL_ha, hsR_ha, hI_I, hI_In, hL_L, hL_Ln, hR_R, hR_Rn, hL_I, hR_I, hT_I, hN_I, h1_I, h2_I, hI_L, hR_L, hT_L, hN_L, h1_L, h2_L, hI_R, hL_R, hT_R, hN_R, h1_R, h2_R, hI_W, hI_Wn, hL_W, hL_Wn, hR_W, hR_Wn, hT_W, hT_Wn, hN_W, hN_Wn, h1_W, h2_W, u1_eq, u1_ne, u1_u1, haI_I]
  · show hI (rdM (s 0 10) (rdC (s 0 10) h a b) a b) 86 72 = _
    unfold rdM rdC
    simp (disch := omega) only [hsI_ha, hsL_ha, hsR_ha, hI_I, hI_In, hL_L, hL_Ln, hR_R, hR_Rn, hL_I, hR_I, hT_I, hN_I, h1_I, h2_I, hI_L, hR_L, hT_L, hN_L, h1_L, h2_L, hI_R, hL_R, hT_R, hN_R, h1_R, h2_R, hI_W, hI_Wn, hL_W, hL_Wn, hR_W, hR_Wn, hT_W, hT_Wn, hN_W, hN_Wn, h1_W, h2_W, u1_eq, u1_ne, u1_u1, haI_I]
theorem rd_reader (E : EV s h) (R : RDc s h) (hn : s 0 10 < 30) {a b : Int32} (ha : a = -1 ∨ ∃ q, q < s 0 4 ∧ a = nI q) (hb : b = 0 ∨ b = 1) : RDc (st_reader s h) (rdM (s 0 10) (rdC (s 0 10) h a b) a b) := by
  have w := E.w.1
  obtain ⟨R1, R2, R3⟩ := R
  have q : st_reader s h 0 10 = s 0 10 + 1 := by unfold st_reader; rw [u2_u, u1_eq]
  have q35 : ∀ i, ¬ i = s 0 10 → st_reader s h 35 i = s 35 i := fun i hi => by unfold st_reader; rw [u2_ne (by decide), u2_u, u1_ne hi]
  have q35n : st_reader s h 35 (s 0 10) = h.1 := by unfold st_reader; rw [u2_ne (by decide), u2_u, u1_eq]
  have f := reader_fr (n := s 0 10) (a := a) (b := b) w
  refine ⟨fun i hi => ?_, fun i hi => ?_, fun i j hi hj hij => ?_⟩
  · rw [q] at hi
    rw [st_reader0 (by decide), st_reader0 (by decide), st_readerR (r := 30) (by decide) (by decide)]
    by_cases e : i = s 0 10
    · subst e
      rw [q35n]
      have z := R2 (s 0 10) (Nat.le_refl _)
      unfold rdM rdC
      simp (disch := omega) only [hsI_ha, hsL_ha, hsR_ha, hI_I, hI_In, hL_L, hL_Ln, hR_R, hR_Rn, hL_I, hR_I, hT_I, hN_I, h1_I, h2_I, hI_L, hR_L, hT_L, hN_L, h1_L, h2_L, hI_R, hL_R, hT_R, hN_R, h1_R, h2_R, hI_W, hI_Wn, hL_W, hL_Wn, hR_W, hR_Wn, hT_W, hT_Wn, hN_W, hN_Wn, h1_W, h2_W, u1_eq, u1_ne, u1_u1, haI_I]
      refine ⟨trivial, trivial, ⟨w, by omega⟩, ⟨trivial, ha⟩, ⟨trivial, hb⟩, Or.inl ⟨trivial, trivial⟩, ⟨z.1.symm, 0, by omega, z.1⟩, z.2.symm⟩
    · obtain ⟨r1, r2, r3, r4, r5, r6, r7, r8⟩ := R1 i (by omega)
      have up := r3.2
      have ne : ¬ s 35 i = h.1 := by omega
      rw [q35 i e]
      unfold rdM rdC
      simp (disch := omega) only [hsI_ha, hsL_ha, hsR_ha, hI_I, hI_In, hL_L, hL_Ln, hR_R, hR_Rn, hL_I, hR_I, hT_I, hN_I, h1_I, h2_I, hI_L, hR_L, hT_L, hN_L, h1_L, h2_L, hI_R, hL_R, hT_R, hN_R, h1_R, h2_R, hI_W, hI_Wn, hL_W, hL_Wn, hR_W, hR_Wn, hT_W, hT_Wn, hN_W, hN_Wn, h1_W, h2_W, u1_eq, u1_ne, u1_u1, haI_I]
      exact ⟨r1, r2, ⟨r3.1, by omega⟩, r4, r5, r6, r7, r8⟩
  · rw [q] at hi
    have z := R2 i (by omega)
    rw [f.fI w 143 i ⟨by decide, by decide, by intro y; simp [rdFK] at y⟩, f.fI w 144 i ⟨by decide, by decide, by intro y; simp [rdFK] at y⟩]
    exact z
  · rw [q] at hi hj
    by_cases ei : i = s 0 10
    · by_cases ej : j = s 0 10
      · omega
      · rw [ei, q35n, q35 j ej] at hij
        have := (R1 j (by omega)).2.2.1.2
        omega
    · by_cases ej : j = s 0 10
      · rw [ej, q35n, q35 i ei] at hij
        have := (R1 i (by omega)).2.2.1.2
        omega
      · rw [q35 i ei, q35 j ej] at hij
        exact R3 i j (by omega) (by omega) hij
/-- readers go on -/
theorem RDc.fr (R : RDc s h) {s1 : SS} {W : List Nat} {K : List (Nat × Nat)} {D : Nat → Prop} {h1 : HS} (w : 160 ≤ h.1) (f : FR W K D h h1) (ok : wl W K ∧ ¬ 67 ∈ W ∧ frO [141, 142, 143, 144, 145] W K) (dd : ∀ i, i < s 0 10 → ¬ D (s 35 i)) (e10 : s1 0 10 = s 0 10) (e35 : s1 35 = s 35) (e4 : s 0 4 ≤ s1 0 4) (e3 : s 0 3 ≤ s1 0 3) (e30 : ∀ k, k < s 0 3 → s1 30 k = s 30 k) : RDc s1 h1 := by
  obtain ⟨R1, R2, R3⟩ := R
  have k : ∀ a, a ∈ [141, 142, 143, 144, 145] → hI h1 a = hI h a := fun a m => f.fA w a (ok.2.2 a m)
  refine ⟨fun i hi => ?_, fun i hi => ?_, fun i j hi hj hij => ?_⟩
  · rw [e10] at hi
    obtain ⟨r1, r2, r3, r4, r5, r6, r7, r8⟩ := R1 i hi
    rw [e35, k 141 (by decide), k 142 (by decide), k 143 (by decide), k 144 (by decide), k 145 (by decide)]
    have o : ∀ j, hI h1 (s 35 i) j = hI h (s 35 i) j := fun j => f.oI ok.1.1 ok.1.2 r3.1 r3.2 (dd i hi) j
    rw [o, o, o, o, f.oR ok.1.1 r3.1 r3.2 (dd i hi) 2]
    refine ⟨(congrFun (f.fR w 67 ⟨by decide, ok.2.1⟩) i).trans r1, (f.T r3.2).trans r2, ⟨r3.1, Nat.lt_of_lt_of_le r3.2 f.1⟩, ⟨r4.1, ?_⟩, r5, ?_, r7, r8⟩
    · exact r4.2.imp id (fun ⟨q, hq, e⟩ => ⟨q, by omega, e⟩)
    · exact r6.imp id (fun ⟨q, hq, e, e2⟩ => ⟨q, by omega, e, by rw [e30 q hq]; exact e2⟩)
  · rw [e10] at hi
    rw [k 143 (by decide), k 144 (by decide)]
    exact R2 i hi
  · rw [e10] at hi hj
    rw [e35] at hij
    exact R3 i j hi hj hij
end RDS
