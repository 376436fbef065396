/-! lines, what was told; told, ask, together -/
def bt (w : Int32) (r : Nat) : Bool := w.toBitVec.getLsbD r
theorem bt_ext {x y : Int32} (h : ∀ q, q < 32 → bt x q = bt y q) : x = y := Int32.toBitVec_inj.mp (BitVec.eq_of_getLsbD_eq (fun i hi => h i hi))
theorem bt_and (x y : Int32) (q : Nat) : bt (x &&& y) q = (bt x q && bt y q) := by unfold bt; rw [Int32.toBitVec_and, BitVec.getLsbD_and]
theorem bt_or (x y : Int32) (q : Nat) : bt (x ||| y) q = (bt x q || bt y q) := by unfold bt; rw [Int32.toBitVec_or, BitVec.getLsbD_or]
theorem bt_0 (q : Nat) : bt 0 q = false := by unfold bt; exact BitVec.getLsbD_zero
theorem bt_1s : ∀ k, k < 32 → ∀ q, q < 32 → bt ((1 : Int32) <<< ((nI k) &&& 31)) q = decide (q = k) := by decide +kernel
theorem bt_and1 (x : Int32) : (x &&& 1 = 0) = (bt x 0 = false) := by
  apply propext
  constructor
  · intro h
    have h2 : bt (x &&& 1) 0 = false := by rw [h]; exact bt_0 0
    rw [bt_and, show bt 1 0 = true by decide, Bool.and_true] at h2
    exact h2
  · intro h
    apply bt_ext
    intro q hq
    rw [bt_and, bt_0]
    have h1 : ∀ q, q < 32 → bt 1 q = decide (q = 0) := by decide +kernel
    rw [h1 q hq]
    by_cases e : q = 0
    · subst e; rw [h]; rfl
    · rw [decide_eq_false e, Bool.and_false]
theorem bt_cu : ∀ k, k < 32 → ((nI k).toUInt32 &&& Int32.toUInt32 31).toBitVec.toNat % 32 = k ∧ ((nI k &&& 31).toBitVec.smod 32).toNat = k := by decide +kernel
theorem bt_tst {w : Int32} {k : Nat} (hk : k < 32) : ((w.toUInt32 >>> ((nI k).toUInt32 &&& Int32.toUInt32 31)).toInt32 &&& 1 = 0) = (bt w k = false) := by
  rw [bt_and1]
  have : bt ((w.toUInt32 >>> ((nI k).toUInt32 &&& Int32.toUInt32 31)).toInt32) 0 = bt w k := by
    unfold bt
    show (w.toUInt32 >>> ((nI k).toUInt32 &&& Int32.toUInt32 31)).toBitVec.getLsbD 0 = w.toBitVec.getLsbD k
    rw [UInt32.toBitVec_shiftRight]
    show (w.toBitVec >>> (((nI k).toUInt32 &&& Int32.toUInt32 31).toBitVec % 32#32)).getLsbD 0 = _
    have e : (((nI k).toUInt32 &&& Int32.toUInt32 31).toBitVec % 32#32).toNat = k := by
      rw [BitVec.toNat_umod]
      exact (bt_cu k hk).1
    rw [BitVec.ushiftRight_eq', e, BitVec.getLsbD_ushiftRight, Nat.add_zero]
  rw [this]
theorem bt_tsA {w : Int32} {k : Nat} (hk : k < 32) : ((w >>> (nI k &&& 31)) &&& 1 = 0) = (bt w k = false) := by
  rw [bt_and1]
  have : bt (w >>> (nI k &&& 31)) 0 = bt w k := by
    unfold bt
    rw [Int32.toBitVec_shiftRight]
    show (w.toBitVec.sshiftRight ((nI k &&& 31).toBitVec.smod 32).toNat).getLsbD 0 = _
    rw [(bt_cu k hk).2, BitVec.getLsbD_sshiftRight, if_pos (by omega), Nat.add_zero]
    rfl
  rw [this]
def thw (w l : Int32) (r : Nat) : Int32 := if bt w r then 2 else if bt l r then 1 else 0
theorem thw2 (w l : Int32) (r : Nat) : (thw w l r = 2) = (bt w r = true) := by
  unfold thw
  cases bt w r <;> cases bt l r <;> exact propext ⟨fun z => by first | rfl | exact absurd z (by decide), fun z => by first | rfl | cases z⟩
theorem if_F {α : Type} (b : Bool) (x y : α) : (if b = false then x else y) = if b then y else x := by cases b <;> rfl
def LNc (s : SS) (h : HS) : Prop := (∀ i, i < s 0 3 → ∀ j, j < s 5 i → hL h (s 30 i + 1) j = hL h 138 (20 * i + j) ∧ hI h (s 30 i + 2) j = hI h 139 (20 * i + j) ∧ hI h (s 30 i + 3) j = hI h 140 (20 * i + j) ∧ ∀ q, q < 64 → b6 (hL h 138 (20 * i + j)) q = true → q < s 0 4) ∧ (∀ i, i < s 0 3 → ∀ j, j < 20 → ∀ r, r < 30 → hI h 146 (4000 * r + 20 * i + j) = thw (hI h (s 30 i + 4) j) (hI h (s 30 i + 5) j) r) ∧ ∀ i, s 0 3 ≤ i → i < 200 → ∀ j, j < 20 → ∀ r, r < 30 → hI h 146 (4000 * r + 20 * i + j) = 0
def LN1 (s : SS) (h : HS) : Prop := ∀ i, i < s 0 3 → ∀ j, j < s 5 i → hL h (s 30 i + 1) j = hL h 138 (20 * i + j) ∧ hI h (s 30 i + 2) j = hI h 139 (20 * i + j) ∧ hI h (s 30 i + 3) j = hI h 140 (20 * i + j) ∧ ∀ q, q < 64 → b6 (hL h 138 (20 * i + j)) q = true → q < s 0 4
def whl (s : SS) (h : HS) (r i : Nat) : Bool := decide (0 < s 5 i) && !anyN (fun j => !bt (hI h (s 30 i + 4) j) r) (s 5 i)
theorem n10 : ¬ (1 : Int32) = 0 := by decide
theorem b201 (b : Bool) : b2 b = 0 ∨ b2 b = 1 := by cases b; exact Or.inl rfl; exact Or.inr rfl
section LNS
variable {s : SS} {h : HS}
theorem rdr (E : EV s h) (a : Int32) : (p173 h a = some 0 ∧ ∀ g, hI g 86 72 = nI (s 0 10) → p277 g a = some 0) ∨ ∃ i, i < s 0 10 ∧ a = nI i ∧ p173 h (nI i) = some 1 ∧ ∀ g, hI g 86 72 = nI (s 0 10) → p277 g (nI i) = some 1 := by
  have b10 := E.cn.b10
  unfold p173 p277
  rw [E.cn.c10]
  rcases ixc a (s 0 10) (by omega) with ⟨h1, h2, -⟩ | ⟨i, hi, rfl, h1, h2⟩
  · left
    refine ⟨?_, fun g hg => ?_⟩
    · rw [h1]; rfl
    · rw [hg, h2]; rfl
  · right
    refine ⟨i, hi, rfl, ?_, fun g hg => ?_⟩
    · rw [h1]; rfl
    · rw [hg, h2]; rfl
theorem q_told (E : EV s h) (L : LNc s h) (a b c : Int32) : ∃ v, p153 h a b c = some v ∧ p289 h a b c = some v := by
  have b10 := E.cn.b10
  have b3 := E.cn.b3
  unfold p153 p289 p282
  rcases rdr E a with ⟨h1, h2⟩ | ⟨r, hr, rfl, h1, h2⟩
  · rcases shc E b with ⟨h3, h4⟩ | ⟨i, hi, rfl, h3, h4⟩
    · refine ⟨-1, ?_, ?_⟩
      · rw [h3, ob, h1, ob, if_pos rfl]
      · rw [h2 h E.cn.m10, ob, if_pos rfl]
    · refine ⟨-1, ?_, ?_⟩
      · rw [h3, ob, h1, ob, if_pos rfl]
      · rw [h2 h E.cn.m10, ob, if_pos rfl]
  · rcases shc E b with ⟨h3, h4⟩ | ⟨i, hi, rfl, h3, h4⟩
    · refine ⟨-1, ?_, ?_⟩
      · rw [h3, ob, h1, ob, if_neg (by decide), if_pos rfl]
      · rw [h2 h E.cn.m10, ob, if_neg (by decide), h4 h E.cn.m3, ob, if_pos rfl, ob, if_pos rfl]
    · have l5 := E.sh.b5 hi
      rw [h3, ob, h1, ob, if_neg (by decide), if_neg (by intro z; cases z), ob, if_pos (E.sh.t hi), h2 h E.cn.m10, ob, if_neg (by decide), h4 h E.cn.m3, ob, if_neg (by decide), if_neg (nI_in (by omega) (by decide)), nI_clamp (by omega), E.sh.m5 hi]
      unfold p95
      rw [E.sh.f7 hi]
      rcases ixc c (s 5 i) (by omega) with ⟨h5, h6, -⟩ | ⟨j, hj, rfl, h5, h6⟩
      · refine ⟨-1, ?_, ?_⟩
        · rw [h5, ob, if_pos (Or.inl rfl), ob, if_pos rfl]
        · rw [h6, ob, if_pos rfl, ob, if_pos rfl]
      · obtain ⟨q1, q2, q3, -⟩ := L.1 i hi j hj
        have q4 := L.2.1 i hi j (by omega) r (by omega)
        have e1 : (4000 : Int32) * nI r + 20 * nI i + nI j = nI (4000 * r + 20 * i + j) := by
          rw [show (4000 : Int32) = nI 4000 from rfl, show (20 : Int32) = nI 20 from rfl, nI_mul, nI_mul, nI_add, nI_add]
        have e2 : (20 : Int32) * nI i + nI j = nI (20 * i + j) := by
          rw [show (20 : Int32) = nI 20 from rfl, nI_mul, nI_add]
        rw [h5, ob, if_pos (Or.inr rfl), ob, if_neg (by decide), h6, ob, if_neg (by decide), ob, if_neg (by decide), e1, e2, if_neg (nI_in (by omega) (by decide)), nI_clamp (by omega), q4]
        unfold p98
        rw [E.sh.r11 hi, ob, if_pos (E.sh.t4 hi).1, (E.sh.t4 hi).2, if_neg (nI_in (by omega) (by decide)), nI_clamp (by omega)]
        simp only [bt_tst (w := hI h (s 30 i + 4) j) (k := r) (by omega)]
        rw [if_F]
        cases hw : bt (hI h (s 30 i + 4) j) r with
        | true =>
          have q5 : thw (hI h (s 30 i + 4) j) (hI h (s 30 i + 5) j) r = 2 := by unfold thw; rw [hw]; rfl
          rw [q5, if_pos rfl, if_pos (show (2 : Int32) = 2 from rfl), E.sh.r10 hi, ob, if_pos (E.sh.t3 hi).1, (E.sh.t3 hi).2, if_neg (nI_in' (by omega) (by decide)), if_neg (nI_in (by omega) (by decide)), nI_clamp (by omega), q3, ob]
          exact ⟨_, rfl, rfl⟩
        | false =>
          rw [if_neg (by decide), E.sh.r12 hi, ob, if_pos (E.sh.t5 hi).1, (E.sh.t5 hi).2, if_neg (nI_in' (by omega) (by decide))]
          simp only [bt_tst (w := hI h (s 30 i + 5) j) (k := r) (by omega)]
          rw [if_F]
          cases hl : bt (hI h (s 30 i + 5) j) r with
          | true =>
            have q5 : thw (hI h (s 30 i + 4) j) (hI h (s 30 i + 5) j) r = 1 := by unfold thw; rw [hw, hl]; rfl
            rw [q5, if_pos rfl, if_neg (show ¬ (1 : Int32) = 2 by decide), if_pos (show (1 : Int32) = 1 from rfl), E.sh.r9 hi, ob, if_pos (E.sh.t2 hi).1, (E.sh.t2 hi).2, if_neg (nI_in' (by omega) (by decide)), if_neg (nI_in (by omega) (by decide)), nI_clamp (by omega), q2, ob]
            exact ⟨_, rfl, rfl⟩
          | false =>
            have q5 : thw (hI h (s 30 i + 4) j) (hI h (s 30 i + 5) j) r = 0 := by unfold thw; rw [hw, hl]; rfl
            rw [q5, if_neg (by decide), if_neg (show ¬ (0 : Int32) = 2 by decide), if_neg (show ¬ (0 : Int32) = 1 by decide), ob]
            exact ⟨_, rfl, rfl⟩
/-- a sheet told whole: the class -/
theorem whlC (E : EV s h) {r i : Nat} (hr : r < 30) (hi : i < s 0 3) (F : Nat) : ∀ (m j n : Nat), j + m = s 5 i → m < n → anyN (fun j => !bt (hI h (s 30 i + 4) j) r) j = false → p99_L2 F (s 30 i) (nI r) n h (nI j) = some (b2 (whl s h r i)) := by
  have l5 := E.sh.b5 hi
  intro m
  induction m with
  | zero =>
    intro j n hj hn ha
    obtain ⟨n, rfl⟩ : ∃ n', n = n' + 1 := ⟨n - 1, by omega⟩
    have e : j = s 5 i := by omega
    subst e
    rw [p99_L2, E.sh.f7 hi, if_neg Int32.lt_irrefl]
    unfold whl
    rw [ha]
    by_cases z : 0 < s 5 i
    · rw [if_pos (show (0 : Int32) < nI (s 5 i) from nI_lt z (by omega)), decide_eq_true z]
      rfl
    · rw [if_neg (show ¬ (0 : Int32) < nI (s 5 i) from nI_nlt (a := 0) (by omega) (by decide)), decide_eq_false z]
      rfl
  | succ m ih =>
    intro j n hj hn ha
    obtain ⟨n, rfl⟩ : ∃ n', n = n' + 1 := ⟨n - 1, by omega⟩
    rw [p99_L2, E.sh.f7 hi, if_pos (nI_lt (by omega) (by omega)), E.sh.r11 hi, ob, if_pos (E.sh.t4 hi).1, (E.sh.t4 hi).2, if_neg (nI_in (by omega) (by decide)), nI_clamp (by omega), nI_1]
    simp only [bt_tst (w := hI h (s 30 i + 4) j) (k := r) (by omega)]
    rw [if_F]
    cases hb : bt (hI h (s 30 i + 4) j) r with
    | true =>
      rw [if_pos rfl]
      exact ih (j + 1) n (by omega) (by omega) (by rw [anyN_s, ha, hb]; rfl)
    | false =>
      rw [if_neg (by decide)]
      unfold whl
      rw [anyN_iff.mpr ⟨j, by omega, by rw [hb]; rfl⟩, Bool.not_true, Bool.and_false]
      rfl
theorem whlM_L (E : EV s h) (L : LNc s h) {r i : Nat} (hr : r < 30) (hi : i < s 0 3) (F : Nat) : ∀ (m j n : Nat), j + m = s 5 i → m < n → p290_L18 F (nI r) (nI i) n h (b2 (decide (0 < s 5 i) && !anyN (fun j => !bt (hI h (s 30 i + 4) j) r) j)) (nI j) = some (b2 (whl s h r i)) := by
  have l5 := E.sh.b5 hi
  have b3 := E.cn.b3
  have g : ¬ (nI i < 0 ∨ 200 ≤ (nI i).toNatClampNeg) := nI_in (by omega) (by decide)
  intro m
  induction m with
  | zero =>
    intro j n hj hn
    obtain ⟨n, rfl⟩ : ∃ n', n = n' + 1 := ⟨n - 1, by omega⟩
    have e : j = s 5 i := by omega
    subst e
    rw [p290_L18, if_neg g, nI_clamp (by omega), E.sh.m5 hi, if_neg Int32.lt_irrefl]
    exact if_pos (b201 _)
  | succ m ih =>
    intro j n hj hn
    obtain ⟨n, rfl⟩ : ∃ n', n = n' + 1 := ⟨n - 1, by omega⟩
    have ih' := ih (j + 1) n (by omega) (by omega)
    have e1 : (4000 : Int32) * nI r + 20 * nI i + nI j = nI (4000 * r + 20 * i + j) := by
      rw [show (4000 : Int32) = nI 4000 from rfl, show (20 : Int32) = nI 20 from rfl, nI_mul, nI_mul, nI_add, nI_add]
    rw [p290_L18, if_neg g, nI_clamp (by omega), E.sh.m5 hi, if_pos (nI_lt (by omega) (by omega)), b2_if, e1, if_neg (nI_in (by omega) (by decide)), nI_clamp (by omega), L.2.1 i hi j (by omega) r hr]
    unfold p290_j59 p290_j60
    rw [nI_1]
    simp only [thw2]
    have st : (decide (0 < s 5 i) && !anyN (fun j => !bt (hI h (s 30 i + 4) j) r) (j + 1)) = ((decide (0 < s 5 i) && !anyN (fun j => !bt (hI h (s 30 i + 4) j) r) j) && bt (hI h (s 30 i + 4) j) r) := by
      rw [anyN_s, Bool.not_or, Bool.not_not, Bool.and_assoc]
    rw [st] at ih'
    cases hx : (decide (0 < s 5 i) && !anyN (fun j => !bt (hI h (s 30 i + 4) j) r) j) with
    | false =>
      rw [hx] at ih'
      exact ih'
    | true =>
      rw [hx, Bool.true_and] at ih'
      rw [if_pos rfl]
      cases hb : bt (hI h (s 30 i + 4) j) r with
      | true => rw [hb] at ih'; exact ih'
      | false => rw [hb] at ih'; exact ih'
theorem whlM (E : EV s h) (L : LNc s h) {r i : Nat} (hr : r < 30) (hi : i < s 0 3) {F : Nat} (hF : 100 ≤ F) : p290 F h (nI r) (nI i) = some (b2 (whl s h r i)) := by
  have l5 := E.sh.b5 hi
  have b3 := E.cn.b3
  have k := whlM_L E L hr hi F (s 5 i) 0 F (by omega) (by omega)
  have g : ¬ (nI i < 0 ∨ 200 ≤ (nI i).toNatClampNeg) := nI_in (by omega) (by decide)
  unfold p290 p290_j14
  rw [if_neg g, nI_clamp (by omega), E.sh.m5 hi]
  rw [show anyN (fun j => !bt (hI h (s 30 i + 4) j) r) 0 = false from rfl, Bool.not_false, Bool.and_true] at k
  by_cases z : 0 < s 5 i
  · rw [if_pos (show (0 : Int32) < nI (s 5 i) from nI_lt z (by omega))]
    rw [decide_eq_true z] at k
    exact k
  · rw [if_neg (show ¬ (0 : Int32) < nI (s 5 i) from nI_nlt (a := 0) (by omega) (by decide))]
    rw [decide_eq_false z] at k
    exact k
/-- which reports count for what is put together -/
def tg (s : SS) (h : HS) (r c : Nat) (a : Int32) (k : Nat) : Bool := decide (s 13 k = c) && ((knR s k (s 0 0) && whl s h r (s 12 k)) || (decide (nI (s 12 k) = a) && decide (s 20 k = 100000)))
def tgl (s : SS) (h : HS) (r c : Nat) (a : Int32) (i q : Nat) : Bool := !anyN (fun k => tg s h r c a k && brs s k q (s 0 0)) i
theorem tgl_s {r c i q : Nat} {a : Int32} : tgl s h r c a (i + 1) q = (tgl s h r c a i q && !(tg s h r c a i && brs s i q (s 0 0))) := by
  unfold tgl
  rw [anyN_s, Bool.not_or]
theorem tgC_L (E : EV s h) {r c : Nat} {a : Int32} (hr : r < 30) (hc : c < 2147483648) {F : Nat} (hF : 1000 ≤ F) : ∀ (m i n : Nat) (v : Int64), i + m = s 0 7 → m < n → (∀ q, q < 64 → b6 v q = (decide (q < s 0 4) && tgl s h r c a i q)) → ∃ x, p23_L9 F (nI r) (nI c) a (nI (s 0 0)) n h v (nI i) = some x ∧ ∀ q, q < 64 → b6 x q = (decide (q < s 0 4) && tgl s h r c a (s 0 7) q) := by
  have c7 := E.cn.b7
  have c6 := E.cn.b6
  have b3 := E.cn.b3
  have b0 := E.cn.b0
  intro m
  induction m with
  | zero =>
    intro i n v hi hn hb
    obtain ⟨n, rfl⟩ : ∃ n', n = n' + 1 := ⟨n - 1, by omega⟩
    have e : i = s 0 7 := by omega
    subst e
    rw [p23_L9, E.cn.c7, if_neg Int32.lt_irrefl]
    exact ⟨_, rfl, hb⟩
  | succ m ih =>
    intro i n v hi hn hb
    obtain ⟨n, rfl⟩ : ∃ n', n = n' + 1 := ⟨n - 1, by omega⟩
    have hi' : i < s 0 7 := by omega
    have hS := E.rp.b0 hi'
    have x1 := E.rp.b1 hi'
    have l5 := E.sh.b5 hS
    obtain ⟨x, hx, hxb⟩ := ruled E hi' (d := s 0 0) b0 hF
    obtain ⟨-, -, z3, z4⟩ := dC_b (Nat.le_refl 3999) (E.rp.b8 hi') b0
    have d1 : dC (s 20 i) ≤ 4000 := by have := (dC_b (Nat.le_refl 3999) (E.rp.b8 hi') b0).1; omega
    have w99 : p99 F h (s 30 (s 12 i)) (nI r) = some (b2 (whl s h r (s 12 i))) := whlC E hr hS F (s 5 (s 12 i)) 0 F (by omega) (by omega) rfl
    have no : tg s h r c a i = false → ∃ x, p23_L9 F (nI r) (nI c) a (nI (s 0 0)) n h v (nI (i + 1)) = some x ∧ ∀ q, q < 64 → b6 x q = (decide (q < s 0 4) && tgl s h r c a (s 0 7) q) := fun hz =>
      ih (i + 1) n v (by omega) (by omega) (fun q hq => by rw [hb q hq, tgl_s, hz, Bool.false_and, Bool.not_false, Bool.and_true])
    have yes : tg s h r c a i = true → ∃ x, p23_j98 F (nI r) (nI c) a (nI (s 0 0)) (p23_L9 F (nI r) (nI c) a (nI (s 0 0)) n h) h v (nI i) (some (s 32 i)) = some x ∧ ∀ q, q < 64 → b6 x q = (decide (q < s 0 4) && tgl s h r c a (s 0 7) q) := fun hz => by
      unfold p23_j98 p23_j115
      rw [hx, ob, nI_1]
      refine ih (i + 1) n _ (by omega) (by omega) (fun q hq => ?_)
      rw [b6_and, b6_not hq, hb q hq, hxb q hq, tgl_s, hz, Bool.true_and, Bool.and_assoc]
    have j70 : whl s h r (s 12 i) = false ∨ knR s i (s 0 0) = false → s 13 i = c → ∃ x, p23_j70 F (nI r) (nI c) a (nI (s 0 0)) (p23_L9 F (nI r) (nI c) a (nI (s 0 0)) n h) h v (nI i) (some (s 32 i)) = some x ∧ ∀ q, q < 64 → b6 x q = (decide (q < s 0 4) && tgl s h r c a (s 0 7) q) := fun hz h1 => by
      have ez : (knR s i (s 0 0) && whl s h r (s 12 i)) = false := by
        rcases hz with z | z
        · rw [z, Bool.and_false]
        · rw [z, Bool.false_and]
      have tz : tg s h r c a i = (decide (nI (s 12 i) = a) && decide (s 20 i = 100000)) := by
        unfold tg
        rw [decide_eq_true h1, ez, Bool.true_and, Bool.false_or]
      unfold p23_j70 p23_j71 p70
      rw [if_pos rfl, ob, if_pos (E.rp.t hi'), E.rp.r0 hi', if_neg (by intro z; cases z), ob, ob, if_pos (E.sh.t hS), E.sh.f0 hS]
      unfold p23_j115
      rw [nI_1]
      by_cases h2 : nI (s 12 i) = a
      · rw [if_pos h2, ob, if_neg (by decide), E.rp.f2 hi']
        by_cases h3 : s 20 i = 100000
        · rw [if_pos (by rw [z3.mpr h3]; rfl)]
          exact yes (by rw [tz, decide_eq_true h2, decide_eq_true h3]; rfl)
        · rw [if_neg (fun z : nI (dC (s 20 i)) = (4000 : Int32) => h3 (z3.mp ((nI_eq (b := 4000) (by omega) (by decide)).mp z)))]
          exact no (by rw [tz, decide_eq_false h3, Bool.and_false])
      · rw [if_neg h2, ob, if_pos rfl]
        exact no (by rw [tz, decide_eq_false h2, Bool.false_and])
    rw [p23_L9, E.cn.c7, if_pos (nI_lt hi' (by omega)), if_neg (nI_in (by omega) (by decide)), nI_clamp (by omega), E.rp.o hi', ob, if_pos (E.rp.t hi'), E.rp.f3 hi', E.rp.r0 hi', ob, ob, k_R E hi' b0, ob, if_pos (E.sh.t hS), w99, ob, b2_if, b2_if]
    by_cases h1 : s 13 i = c
    · rw [h1, if_pos rfl, if_neg (by intro z; cases z)]
      cases hk : knR s i (s 0 0) with
      | false =>
        rw [if_neg (by decide)]
        exact j70 (Or.inr hk) h1
      | true =>
        rw [if_pos rfl]
        cases hw : whl s h r (s 12 i) with
        | false =>
          rw [if_neg (by decide)]
          exact j70 (Or.inl hw) h1
        | true =>
          rw [if_pos rfl]
          unfold p23_j71
          rw [if_neg (by decide)]
          exact yes (by unfold tg; rw [decide_eq_true h1, hk, hw]; rfl)
    · rw [if_neg (fun z => h1 ((nI_eq (by omega) hc).mp z))]
      unfold p23_j115
      rw [nI_1]
      exact no (by unfold tg; rw [decide_eq_false h1, Bool.false_and])
theorem tgM_I (E : EV s h) {g : HS} {r c q : Nat} {a : Int32} (hw : ∀ k, k < s 0 3 → hI h 148 k = b2 (whl s g r k)) (hc : c < 2147483648) (hq : q < s 0 4) {F : Nat} (hF : 1000 ≤ F) {K : HS → Int32 → Int32 → Option (Int32 × HS)} {v4 : Int32} : ∀ (m i n : Nat), i + m = s 0 7 → m < n → p291_L85 F (nI r) (nI c) a K n h v4 (nI q) (b2 (tgl s g r c a i q)) (nI i) = K h (v4 + b2 (tgl s g r c a (s 0 7) q)) (nI (q + 1)) := by
  have b7 := E.cn.b7
  have b6' := E.cn.b6
  have b3 := E.cn.b3
  have b4 := E.cn.b4
  have b0 := E.cn.b0
  have fin : ∀ b : Bool, p291_j202 F (nI r) (nI c) a K h v4 (nI q) (b2 b) = K h (v4 + b2 b) (nI (q + 1)) := fun b => by
    unfold p291_j202 p291_j214
    rw [nI_1]
    cases b <;> rfl
  have stop : ∀ i, i ≤ s 0 7 → tgl s g r c a i q = false → tgl s g r c a (s 0 7) q = false := by
    intro i hi hz
    unfold tgl at hz ⊢
    cases ha : anyN (fun k => tg s g r c a k && brs s k q (s 0 0)) i with
    | false => rw [ha] at hz; cases hz
    | true =>
      obtain ⟨j, hj, hp⟩ := anyN_iff.mp ha
      rw [anyN_iff.mpr ⟨j, by omega, hp⟩]
      rfl
  intro m
  induction m with
  | zero =>
    intro i n hi hn
    obtain ⟨n, rfl⟩ : ∃ n', n = n' + 1 := ⟨n - 1, by omega⟩
    have e : i = s 0 7 := by omega
    subst e
    rw [p291_L85, E.cn.m7, if_neg Int32.lt_irrefl, fin]
  | succ m ih =>
    intro i n hi hn
    obtain ⟨n, rfl⟩ : ∃ n', n = n' + 1 := ⟨n - 1, by omega⟩
    have hi' : i < s 0 7 := by omega
    have ih' := ih (i + 1) n (by omega) (by omega)
    have hS2 := E.rp.b0 hi'
    have x1 := E.rp.b1 hi'
    obtain ⟨-, -, -, z4⟩ := dC_b (Nat.le_refl 3999) (E.rp.b8 hi') b0
    rw [p291_L85, E.cn.m7, if_pos (nI_lt hi' (by omega))]
    cases hl : tgl s g r c a i q with
    | false =>
      rw [show b2 false = 0 from rfl, if_pos rfl, show (0 : Int32) = b2 false from rfl, fin, stop i (by omega) hl]
    | true =>
      have st := tgl_s (s := s) (h := g) (r := r) (c := c) (a := a) (i := i) (q := q)
      rw [hl, Bool.true_and] at st
      have fl : tg s g r c a i = false → p291_j166 F (nI r) (nI c) a K (p291_L85 F (nI r) (nI c) a K n) h v4 (nI q) (nI i) = K h (v4 + b2 (tgl s g r c a (s 0 7) q)) (nI (q + 1)) := fun hz => by
        unfold p291_j166 p291_j167 p291_j189 p291_j194
        rw [if_pos rfl, nI_1]
        rw [st, hz] at ih'
        exact ih'
      have tr : tg s g r c a i = true → p291_j162 F (nI r) (nI c) a K (p291_L85 F (nI r) (nI c) a K n) h v4 (nI q) (nI i) = K h (v4 + b2 (tgl s g r c a (s 0 7) q)) (nI (q + 1)) := fun hz => by
        unfold p291_j162 p291_j167 p291_j189 p291_j194
        rw [if_neg (by decide), E.cn.m0, brsM E hi' (by omega) b0 hF, ob, b2_if, nI_1]
        rw [st, hz, Bool.true_and] at ih'
        cases hb : brs s i q (s 0 0) with
        | false => rw [hb] at ih'; exact ih'
        | true => rw [hb] at ih'; exact ih'
      have j138 : (knR s i (s 0 0) && whl s g r (s 12 i)) = false → s 13 i = c → p291_j138 F (nI r) (nI c) a K (p291_L85 F (nI r) (nI c) a K n) h v4 (nI q) (nI i) = K h (v4 + b2 (tgl s g r c a (s 0 7) q)) (nI (q + 1)) := fun ez h1 => by
        have tz : tg s g r c a i = (decide (nI (s 12 i) = a) && decide (s 20 i = 100000)) := by
          unfold tg
          rw [decide_eq_true h1, ez, Bool.true_and, Bool.false_or]
        unfold p291_j138
        rw [if_neg (nI_in (by omega) (by decide)), nI_clamp (by omega), E.rp.m0 hi', E.rp.m8 hi']
        by_cases h2 : nI (s 12 i) = a
        · rw [if_pos h2, if_neg (nI_in' (by omega) (by decide))]
          by_cases h3 : s 20 i = 100000
          · rw [if_pos (show nI (s 20 i) = (100000 : Int32) by rw [h3]; rfl)]
            exact tr (by rw [tz, decide_eq_true h2, decide_eq_true h3]; rfl)
          · rw [if_neg (fun z : nI (s 20 i) = (100000 : Int32) => h3 ((nI_eq (b := 100000) (by omega) (by decide)).mp z))]
            exact fl (by rw [tz, decide_eq_false h3, Bool.and_false])
        · rw [if_neg h2]
          exact fl (by rw [tz, decide_eq_false h2, Bool.false_and])
      rw [show b2 true = 1 from rfl, if_neg (by decide), if_neg (nI_in (by omega) (by decide)), nI_clamp (by omega), E.rp.m0 hi', E.rp.m1 hi', if_neg (nI_in (N := 200) (c := s 12 i) (by omega) (by decide)), nI_clamp (n := s 12 i) (by omega), hw _ hS2, E.cn.m0, m_R E hi' b0, ob, b2_if, b2_if]
      by_cases h1 : s 13 i = c
      · rw [h1, if_pos rfl, if_neg (nI_in' (by omega) (by decide))]
        cases hww : whl s g r (s 12 i) with
        | false =>
          rw [if_neg (by decide)]
          exact j138 (by rw [hww, Bool.and_false]) h1
        | true =>
          rw [if_pos rfl]
          cases hk : knR s i (s 0 0) with
          | false =>
            rw [if_neg (by decide)]
            exact j138 (by rw [hk, Bool.false_and]) h1
          | true =>
            rw [if_pos rfl]
            exact tr (by unfold tg; rw [decide_eq_true h1, hk, hww]; rfl)
      · rw [if_neg (fun z => h1 ((nI_eq (by omega) hc).mp z))]
        exact fl (by unfold tg; rw [decide_eq_false h1, Bool.false_and])
theorem tgM_L (E : EV s h) {g : HS} {r c : Nat} {a : Int32} (hw : ∀ k, k < s 0 3 → hI h 148 k = b2 (whl s g r k)) (hc : c < 2147483648) {F : Nat} (hF : 1000 ≤ F) : ∀ (m i n : Nat), i + m = s 0 4 → m < n → p291_L70 F (nI r) (nI c) a n h (nI (cnt (tgl s g r c a (s 0 7)) i)) (nI i) = some (nI (cnt (tgl s g r c a (s 0 7)) (s 0 4)), h) := by
  have b4 := E.cn.b4
  have b7 := E.cn.b7
  intro m
  induction m with
  | zero =>
    intro i n hi hn
    obtain ⟨n, rfl⟩ : ∃ n', n = n' + 1 := ⟨n - 1, by omega⟩
    have e : i = s 0 4 := by omega
    subst e
    rw [p291_L70, E.cn.m4, if_neg Int32.lt_irrefl]
  | succ m ih =>
    intro i n hi hn
    obtain ⟨n, rfl⟩ : ∃ n', n = n' + 1 := ⟨n - 1, by omega⟩
    have hi' : i < s 0 4 := by omega
    have ih' := ih (i + 1) n (by omega) (by omega)
    rw [p291_L70, E.cn.m4, if_pos (nI_lt hi' (by omega))]
    have := tgM_I E (g := g) (r := r) (a := a) hw hc hi' hF (K := p291_L70 F (nI r) (nI c) a n) (v4 := nI (cnt (tgl s g r c a (s 0 7)) i)) (s 0 7) 0 F (by omega) (by omega)
    rw [show tgl s g r c a 0 i = true from rfl] at this
    rw [show p291_L85 F (nI r) (nI c) a (p291_L70 F (nI r) (nI c) a n) F h (nI (cnt (tgl s g r c a (s 0 7)) i)) (nI i) 1 0 = _ from this]
    rw [cnt_ss] at ih'
    cases hl : tgl s g r c a (s 0 7) i with
    | false =>
      rw [hl] at ih'
      rw [show b2 false = nI 0 from rfl, nI_add]
      exact ih'
    | true =>
      rw [hl] at ih'
      rw [show b2 true = nI 1 from rfl, nI_add]
      exact ih'
theorem whl_fr (E : EV s h) {W : List Nat} {K : List (Nat × Nat)} {D : Nat → Prop} {g : HS} (f : FR W K D h g) (ok : wl W K) (dd : ∀ i, i < s 0 3 → ¬ D (s 30 i + 4)) {r i : Nat} (hi : i < s 0 3) : whl s g r i = whl s h r i := by
  have lo := E.sh.lo hi
  have up := E.sh.hi hi
  have : ∀ j, hI g (s 30 i + 4) j = hI h (s 30 i + 4) j := fun j => f.oI ok.1 ok.2 (by omega) (by omega) (dd i hi) j
  unfold whl
  simp only [this]
theorem LNc.fr (L : LNc s h) (E : EV s h) {s1 : SS} {W : List Nat} {K : List (Nat × Nat)} {D : Nat → Prop} {g : HS} (f : FR W K D h g) (ok : wl W K ∧ ¬ 138 ∈ W ∧ frO [139, 140, 146] W K) (dd : ∀ i, i < s 0 3 → ∀ k, k < 6 → ¬ D (s 30 i + k)) (e3 : s1 0 3 = s 0 3) (e5 : s1 5 = s 5) (e30 : s1 30 = s 30) (e4 : s 0 4 ≤ s1 0 4) : LNc s1 g := by
  obtain ⟨L1, L2, L3⟩ := L
  have w := E.w.1
  have k1 := f.fL w 138 ⟨by decide, ok.2.1⟩
  have k2 := f.fA w 139 (ok.2.2 139 (by decide))
  have k3 := f.fA w 140 (ok.2.2 140 (by decide))
  have k4 := f.fA w 146 (ok.2.2 146 (by decide))
  have oI : ∀ i, i < s 0 3 → ∀ k, k < 6 → ∀ j, hI g (s 30 i + k) j = hI h (s 30 i + k) j := fun i hi k hk j => f.oI ok.1.1 ok.1.2 (by have := E.sh.lo hi; omega) (by have := E.sh.hi hi; omega) (dd i hi k hk) j
  have oLo : ∀ i, i < s 0 3 → ∀ k, k < 6 → ∀ j, hL g (s 30 i + k) j = hL h (s 30 i + k) j := fun i hi k hk j => f.oLo ok.1.1 (by have := E.sh.lo hi; omega) (by have := E.sh.hi hi; omega) (dd i hi k hk) j
  refine ⟨fun i hi j hj => ?_, fun i hi j hj r hr => ?_, fun i hi h2 j hj r hr => ?_⟩
  · rw [e3] at hi
    rw [e5] at hj
    rw [e30, oLo i hi 1 (by decide), oI i hi 2 (by decide), oI i hi 3 (by decide), k1, k2, k3]
    obtain ⟨q1, q2, q3, q4⟩ := L1 i hi j hj
    exact ⟨q1, q2, q3, fun q hq hb => Nat.lt_of_lt_of_le (q4 q hq hb) e4⟩
  · rw [e3] at hi
    rw [e30, oI i hi 4 (by decide), oI i hi 5 (by decide), k4]
    exact L2 i hi j hj r hr
  · rw [e3] at hi
    rw [k4]
    exact L3 i hi h2 j hj r hr
theorem tgM_W (E : EV s h) (L : LNc s h) {r c : Nat} {a : Int32} (hr : r < 30) (hc : c < 2147483648) {F : Nat} (hF : 1000 ≤ F) : ∀ (m i n : Nat) (g : HS), i + m = s 0 3 → m < n → FR [148] [] nD h g → (∀ k, k < i → hI g 148 k = b2 (whl s h r k)) → ∃ g', FR [148] [] nD h g' ∧ p291_L35 F (nI r) (nI c) a n g (nI i) = some (nI (cnt (tgl s h r c a (s 0 7)) (s 0 4)), g') := by
  have b4 := E.cn.b4
  have b7 := E.cn.b7
  have b3 := E.cn.b3
  intro m
  induction m with
  | zero =>
    intro i n g hi hn fg hk
    obtain ⟨n, rfl⟩ : ∃ n', n = n' + 1 := ⟨n - 1, by omega⟩
    have E2 : EV s g := E.fr fg (by decide) evD_n
    have e : i = s 0 3 := by omega
    subst e
    rw [p291_L35, E2.cn.m3, if_neg Int32.lt_irrefl]
    exact ⟨g, fg, tgM_L E2 hk hc hF (s 0 4) 0 F (by omega) (by omega)⟩
  | succ m ih =>
    intro i n g hi hn fg hk
    obtain ⟨n, rfl⟩ : ∃ n', n = n' + 1 := ⟨n - 1, by omega⟩
    have E2 : EV s g := E.fr fg (by decide) evD_n
    have hi' : i < s 0 3 := by omega
    have vb : vp_nar .boolean (b2 (whl s h r i)) = b2 (whl s h r i) := by cases whl s h r i <;> rfl
    rw [p291_L35, E2.cn.m3, if_pos (nI_lt hi' (by omega)), whlM E2 (L.fr E fg (by decide) (fun _ _ _ _ => id) rfl rfl rfl (Nat.le_refl _)) hr hi' (by omega), ob, if_neg (nI_in (by omega) (by decide)), nI_clamp (by omega), whl_fr E fg (by decide) (fun _ _ => id) hi', vb, nI_1]
    exact ih (i + 1) n _ (by omega) (by omega) (fg.sI (Or.inl (by decide))) (fun k hk2 => by
      by_cases z : k = i
      · subst z; exact hI_s _ _ _ _
      · exact (if_neg (fun y => z y.2)).trans (hk k (by omega)))
theorem w_together (E : EV s h) (L : LNc s h) {F : Nat} (hF : 1000 ≤ F) (a b c : Int32) : ∃ v g, p154 F h a b c = some v ∧ p291 F h a b c = some (v, g) ∧ FR [148] [] nD h g := by
  have c6 := E.cn.b6
  have c10 := E.cn.b10
  have c3 := E.cn.b3
  have c7 := E.cn.b7
  have c4 := E.cn.b4
  unfold p154 p291 p2 p218
  rw [E.cn.c6, E.cn.m6]
  rcases rdr E a with ⟨h1, h2⟩ | ⟨r, hr, rfl, h1, h2⟩
  · refine ⟨-1, h, ?_, ?_, FR.rf nD160⟩
    · rw [h1, ob, if_pos rfl]
    · rw [h2 h E.cn.m10, ob, if_pos rfl]
  · rw [h1, ob, if_neg n10, h2 h E.cn.m10, ob, if_neg n10]
    rcases ixc b (s 0 6) (by omega) with ⟨h3, h4, -⟩ | ⟨i, hi, rfl, h3, h4⟩
    · refine ⟨-1, h, ?_, ?_, FR.rf nD160⟩
      · rw [h3]; rfl
      · rw [h4]; rfl
    · rw [h3, ob, if_pos (Or.inr rfl), ob, if_neg n10, h4, ob, if_pos (Or.inr rfl), ob, if_neg n10, E.cn.m3]
      have yes : ∀ a : Int32, ∃ v g, p154_j34 F (nI r) (nI i) a h = some v ∧ p291_L35 F (nI r) (nI i) a F h 0 = some (v, g) ∧ FR [148] [] nD h g := fun a => by
        obtain ⟨g, fg, e⟩ := tgM_W E L (r := r) (c := i) (a := a) (by omega) (by omega) hF (s 0 3) 0 F h (by omega) (by omega) (FR.rf nD160) (fun k z => by omega)
        have hall := b6_all (s 0 4) (by omega)
        obtain ⟨x, hx, hxb⟩ := tgC_L E (r := r) (c := i) (a := a) (by omega) (by omega) hF (s 0 7) 0 F (((1 : Int64) <<< ((nI (s 0 4)).toInt64 &&& 63)) - 1) (by omega) (by omega) (fun q hq => by rw [hall q hq]; exact (Bool.and_true _).symm)
        refine ⟨nI (cnt (tgl s h r i a (s 0 7)) (s 0 4)), g, ?_, e, fg⟩
        unfold p154_j34 p23 p10
        rw [E.cn.c4, E.cn.c0, ob, show p23_L9 F (nI r) (nI i) a (nI (s 0 0)) F h (((1 : Int64) <<< ((nI (s 0 4)).toInt64 &&& 63)) - 1) 0 = some x from hx, ob, popE, cnt_congr (Q := fun q => decide (q < s 0 4) && tgl s h r i a (s 0 7) q) hxb, cnt_cut (by omega), ob]
      rcases ixm c (s 0 3) (by omega) with ⟨rfl, h5⟩ | ⟨j, hj, rfl, h0, h5, h6⟩ | ⟨h0, h5, h6⟩
      · rw [if_pos rfl, h5, ob, if_neg n10]
        exact yes _
      · unfold p170
        rw [if_neg h0, E.cn.c3, h6, ob, if_neg n10, if_neg (nI_in (by omega) (by decide)), nI_clamp (by omega), ob, E.sh.o hj, if_neg (by intro z; cases z), ob, h5, ob, if_neg n10]
        exact yes _
      · unfold p170
        rw [if_neg h0, E.cn.c3, h6, ob, if_pos rfl, ob, if_pos rfl, h5, ob, if_pos rfl]
        exact ⟨-1, h, rfl, rfl, FR.rf nD160⟩
theorem LN1.fr (L1 : LN1 s h) (E : EV s h) {W : List Nat} {K : List (Nat × Nat)} {D : Nat → Prop} {g : HS} (f : FR W K D h g) (ok : wl W K ∧ ¬ 138 ∈ W ∧ frO [139, 140] W K) (dd : ∀ i, i < s 0 3 → ∀ k, k < 4 → ¬ D (s 30 i + k)) : LN1 s g := by
  have w := E.w.1
  have k1 := f.fL w 138 ⟨by decide, ok.2.1⟩
  have k2 := f.fA w 139 (ok.2.2 139 (by decide))
  have k3 := f.fA w 140 (ok.2.2 140 (by decide))
  have oI : ∀ i, i < s 0 3 → ∀ k, k < 4 → ∀ j, hI g (s 30 i + k) j = hI h (s 30 i + k) j := fun i hi k hk j => f.oI ok.1.1 ok.1.2 (by have := E.sh.lo hi; omega) (by have := E.sh.hi hi; omega) (dd i hi k hk) j
  have oLo : ∀ i, i < s 0 3 → ∀ k, k < 4 → ∀ j, hL g (s 30 i + k) j = hL h (s 30 i + k) j := fun i hi k hk j => f.oLo ok.1.1 (by have := E.sh.lo hi; omega) (by have := E.sh.hi hi; omega) (dd i hi k hk) j
  intro i hi j hj
  rw [oLo i hi 1 (by decide), oI i hi 2 (by decide), oI i hi 3 (by decide), k1, k2, k3]
  exact L1 i hi j hj
end LNS
