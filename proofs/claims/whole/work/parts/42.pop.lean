/-! how many bits of a long are set, as the library counts them -/
theorem and_split {i a b y z : Nat} (ha : a < 2 ^ i) (hb : b < 2 ^ i) : (2 ^ i * y + a) &&& (2 ^ i * z + b) = 2 ^ i * (y &&& z) + (a &&& b) := by
  apply Nat.eq_of_testBit_eq
  intro j
  have hab : a &&& b < 2 ^ i := Nat.and_lt_two_pow _ hb
  rw [Nat.testBit_and, Nat.testBit_two_pow_mul_add _ ha, Nat.testBit_two_pow_mul_add _ hb, Nat.testBit_two_pow_mul_add _ hab]
  split <;> rw [Nat.testBit_and]
theorem and8 {a b : Nat} (y z : Nat) (ha : a < 256) (hb : b < 256) : (256 * y + a) &&& (256 * z + b) = 256 * (y &&& z) + (a &&& b) := and_split (i := 8) ha hb
def pmk (c : Nat) : Nat → Nat
  | 0 => 0
  | n + 1 => 256 * pmk c n + c
def pT1 (n X : Nat) : Nat := X - ((X / 2) &&& pmk 85 n)
def pT2 (n X : Nat) : Nat := (pT1 n X &&& pmk 51 n) + ((pT1 n X / 4) &&& pmk 51 n)
def pT3 (n X : Nat) : Nat := (pT2 n X + pT2 n X / 16) &&& pmk 15 n
def pt1 (b : Nat) : Nat := b - ((b / 2) &&& 85)
def pt2 (b : Nat) : Nat := (pt1 b &&& 51) + ((pt1 b / 4) &&& 51)
def pt3 (b : Nat) : Nat := (pt2 b + pt2 b / 16) &&& 15
theorem bt1 : ∀ b : Fin 256, ∀ q : Fin 2, ((b.val / 2 + 128 * q.val) &&& 85 = (b.val / 2) &&& 85) ∧ ((b.val / 2) &&& 85) ≤ b.val ∧ pt1 b.val < 256 := by decide +kernel
theorem bt2 : ∀ b : Fin 256, ∀ q : Fin 4, ((b.val / 4 + 64 * q.val) &&& 51 = (b.val / 4) &&& 51) := by decide +kernel
theorem bt2b : ∀ b : Fin 256, pt2 b.val < 69 ∧ pt2 b.val % 16 ≤ 4 ∧ pt2 b.val / 16 ≤ 4 := by decide +kernel
theorem bt3 : ∀ b : Fin 256, ∀ q : Fin 5, (pt2 b.val + (pt2 b.val / 16 + 16 * q.val)) &&& 15 = pt3 b.val := by decide +kernel
theorem pT1_s {n b y : Nat} (hb : b < 256) : pT1 (n + 1) (256 * y + b) = 256 * pT1 n y + pt1 b := by
  have h := bt1 ⟨b, hb⟩ ⟨y % 2, by omega⟩
  obtain ⟨h1, h2, -⟩ := h
  simp only at h1 h2
  have e : (256 * y + b) / 2 = 256 * (y / 2) + (b / 2 + 128 * (y % 2)) := by omega
  unfold pT1 pt1
  rw [show pmk 85 (n + 1) = 256 * pmk 85 n + 85 from rfl, e, and8 _ _ (by omega) (by decide), h1]
  have h3 : (y / 2 &&& pmk 85 n) ≤ y := Nat.le_trans Nat.and_le_left (Nat.div_le_self _ _)
  rw [Nat.mul_sub]
  have h4 : 256 * (y / 2 &&& pmk 85 n) ≤ 256 * y := Nat.mul_le_mul_left _ h3
  omega
theorem pT2_s {n b y : Nat} (hb : b < 256) : pT2 (n + 1) (256 * y + b) = 256 * pT2 n y + pt2 b := by
  obtain ⟨-, -, h0⟩ := bt1 ⟨b, hb⟩ ⟨0, by decide⟩
  simp only at h0
  have h1 := bt2 ⟨pt1 b, h0⟩ ⟨pT1 n y % 4, by omega⟩
  simp only at h1
  have e : (256 * pT1 n y + pt1 b) / 4 = 256 * (pT1 n y / 4) + (pt1 b / 4 + 64 * (pT1 n y % 4)) := by omega
  unfold pT2 pt2
  rw [pT1_s hb, e]
  show (256 * pT1 n y + pt1 b &&& (256 * pmk 51 n + 51)) + (256 * (pT1 n y / 4) + (pt1 b / 4 + 64 * (pT1 n y % 4)) &&& (256 * pmk 51 n + 51)) = _
  rw [and8 _ _ h0 (by decide), and8 _ _ (by omega) (by decide), h1]
  omega
theorem pT2_m : ∀ (n y : Nat), y < 256 ^ n → pT2 n y % 16 ≤ 4
  | 0, y, h => by
    have : y = 0 := by simpa using h
    subst this
    decide
  | n + 1, y, h => by
    have e : y = 256 * (y / 256) + y % 256 := by omega
    have hb : y % 256 < 256 := by omega
    rw [e, pT2_s hb]
    have := (bt2b ⟨y % 256, hb⟩).2.1
    simp only at this
    omega
theorem pT3_s {n b y : Nat} (hb : b < 256) (hy : y < 256 ^ n) : pT3 (n + 1) (256 * y + b) = 256 * pT3 n y + pt3 b := by
  obtain ⟨g1, g2, g3⟩ := bt2b ⟨b, hb⟩
  simp only at g1 g2 g3
  have g4 := pT2_m n y hy
  have h1 := bt3 ⟨b, hb⟩ ⟨pT2 n y % 16, by omega⟩
  simp only at h1
  have e : 256 * pT2 n y + pt2 b + (256 * pT2 n y + pt2 b) / 16 = 256 * (pT2 n y + pT2 n y / 16) + (pt2 b + (pt2 b / 16 + 16 * (pT2 n y % 16))) := by omega
  unfold pT3
  rw [pT2_s hb, e]
  show (256 * (pT2 n y + pT2 n y / 16) + (pt2 b + (pt2 b / 16 + 16 * (pT2 n y % 16))) &&& (256 * pmk 15 n + 15)) = _
  rw [and8 _ _ (by omega) (by decide), h1]
theorem pt3_c : ∀ b : Fin 256, pt3 b.val = cnt (fun i => b.val.testBit i) 8 ∧ pt3 b.val ≤ 8 := by decide +kernel
/-- the digits to base 256, summed -/
def dsum : Nat → Nat → Nat
  | 0, _ => 0
  | n + 1, X => dsum n (X / 256) + X % 256
theorem pT3_sum : ∀ (n X : Nat), X < 256 ^ n → dsum n (pT3 n X) = cnt (fun i => X.testBit i) (8 * n)
  | 0, X, h => rfl
  | n + 1, X, h => by
    have e : X = 256 * (X / 256) + X % 256 := by omega
    have hb : X % 256 < 256 := by omega
    have hy : X / 256 < 256 ^ n := by rw [Nat.pow_succ] at h; omega
    obtain ⟨c1, c2⟩ := pt3_c ⟨X % 256, hb⟩
    simp only at c1 c2
    have e2 : pT3 (n + 1) X = 256 * pT3 n (X / 256) + pt3 (X % 256) := by
      conv => lhs; rw [e]
      exact pT3_s hb hy
    unfold dsum
    rw [e2, show (256 * pT3 n (X / 256) + pt3 (X % 256)) / 256 = pT3 n (X / 256) by omega, show (256 * pT3 n (X / 256) + pt3 (X % 256)) % 256 = pt3 (X % 256) by omega, pT3_sum n _ hy, c1, show 8 * (n + 1) = 8 + 8 * n by omega, cnt_add, Nat.add_comm]
    have f1 : cnt (fun i => X.testBit i) 8 = cnt (fun i => (X % 256).testBit i) 8 := cnt_congr fun i hi => by
      rw [show (256 : Nat) = 2 ^ 8 by decide, Nat.testBit_mod_two_pow]
      simp [hi]
    have f2 : cnt (fun i => X.testBit (8 + i)) (8 * n) = cnt (fun i => (X / 256).testBit i) (8 * n) := cnt_congr fun i _ => by
      rw [show (256 : Nat) = 2 ^ 8 by decide, ← Nat.shiftRight_eq_div_pow, Nat.testBit_shiftRight]
    rw [f1, f2]
theorem uN_eq {x y : Int64} (h : x.toBitVec.toNat = y.toBitVec.toNat) : x = y := Int64.toBitVec_inj.1 (BitVec.eq_of_toNat_eq h)
/-- every byte of it is at most 8 -/
def by8 : Nat → Nat → Prop
  | 0, X => X = 0
  | n + 1, X => X % 256 ≤ 8 ∧ by8 n (X / 256)
theorem pT3_by8 : ∀ (n X : Nat), X < 256 ^ n → by8 n (pT3 n X)
  | 0, X, h => by
    have : X = 0 := by simpa using h
    subst this
    show pT3 0 0 = 0
    decide
  | n + 1, X, h => by
    have e : X = 256 * (X / 256) + X % 256 := by omega
    have hb : X % 256 < 256 := by omega
    have hy : X / 256 < 256 ^ n := by rw [Nat.pow_succ] at h; omega
    obtain ⟨c1, c2⟩ := pt3_c ⟨X % 256, hb⟩
    simp only at c1 c2
    have e2 : pT3 (n + 1) X = 256 * pT3 n (X / 256) + pt3 (X % 256) := by
      conv => lhs; rw [e]
      exact pT3_s hb hy
    unfold by8
    rw [e2, show (256 * pT3 n (X / 256) + pt3 (X % 256)) / 256 = pT3 n (X / 256) by omega, show (256 * pT3 n (X / 256) + pt3 (X % 256)) % 256 = pt3 (X % 256) by omega]
    exact ⟨c2, pT3_by8 n _ hy⟩
theorem by8_s {n X : Nat} (h : by8 (n + 1) X) : ∃ k Y, k ≤ 8 ∧ X = 256 * Y + k ∧ by8 n Y ∧ dsum (n + 1) X = dsum n Y + k := ⟨X % 256, X / 256, h.1, by omega, h.2, rfl⟩
theorem fq1 {B A : Nat} (h : A < 65536) : (65536 * B + A) / 65536 = B := by omega
theorem fq2 {B A : Nat} (h : A < 4294967296) : (4294967296 * B + A) / 4294967296 = B := by omega
theorem fq3 {Z t : Nat} (h : t < 128) : (256 * Z + t) % 128 = t := by omega
theorem fold_a {X Y1 Y2 Y3 Y4 Y5 Y6 Y7 k0 k1 k2 k3 k4 k5 k6 k7 : Nat} (b0 : k0 ≤ 8) (b1 : k1 ≤ 8) (b2 : k2 ≤ 8) (b3 : k3 ≤ 8) (b4 : k4 ≤ 8) (b5 : k5 ≤ 8) (b6 : k6 ≤ 8) (b7 : k7 ≤ 8) (e0 : X = 256 * Y1 + k0) (e1 : Y1 = 256 * Y2 + k1) (e2 : Y2 = 256 * Y3 + k2) (e3 : Y3 = 256 * Y4 + k3) (e4 : Y4 = 256 * Y5 + k4) (e5 : Y5 = 256 * Y6 + k5) (e6 : Y6 = 256 * Y7 + k6) (e7 : Y7 = k7) :
    X / 256 = Y1 ∧ (X + Y1) / 65536 = Y2 + Y3 ∧ (X + Y1 + (Y2 + Y3)) / 4294967296 = Y4 + Y5 + (Y6 + Y7) ∧ X + Y1 < 18446744073709551616 ∧ X + Y1 + (Y2 + Y3) < 18446744073709551616 ∧ X + Y1 + (Y2 + Y3) + (Y4 + Y5 + (Y6 + Y7)) < 18446744073709551616 ∧ (X + Y1 + (Y2 + Y3) + (Y4 + Y5 + (Y6 + Y7))) % 128 = k7 + k6 + k5 + k4 + k3 + k2 + k1 + k0 := by
  refine ⟨by omega, ?_, ?_, by omega, by omega, by omega, ?_⟩
  · rw [show X + Y1 = 65536 * (Y2 + Y3) + (k0 + k1 + 256 * (k1 + k2)) by omega]
    exact fq1 (by omega)
  · rw [show X + Y1 + (Y2 + Y3) = 4294967296 * (Y4 + Y5 + (Y6 + Y7)) + (k0 + k1 + k2 + k3 + 256 * (k1 + k2 + k3 + k4) + 65536 * (k2 + k3 + k4 + k5) + 16777216 * (k3 + k4 + k5 + k6)) by omega]
    exact fq2 (by omega)
  · rw [show X + Y1 + (Y2 + Y3) + (Y4 + Y5 + (Y6 + Y7)) = 256 * (Y1 + Y2 + Y3 + Y4 + Y5 + Y6 + Y7) + (k7 + k6 + k5 + k4 + k3 + k2 + k1 + k0) by omega]
    exact fq3 (by omega)
theorem fold_sum {X : Nat} (h : by8 8 X) : ∃ s4 s5 s6, s4 = X + X / 256 ∧ s5 = s4 + s4 / 65536 ∧ s6 = s5 + s5 / 4294967296 ∧ s4 < 18446744073709551616 ∧ s5 < 18446744073709551616 ∧ s6 < 18446744073709551616 ∧ s6 % 128 = dsum 8 X := by
  obtain ⟨k0, Y1, b0, e0, h, d0⟩ := by8_s h
  obtain ⟨k1, Y2, b1, e1, h, d1⟩ := by8_s h
  obtain ⟨k2, Y3, b2, e2, h, d2⟩ := by8_s h
  obtain ⟨k3, Y4, b3, e3, h, d3⟩ := by8_s h
  obtain ⟨k4, Y5, b4, e4, h, d4⟩ := by8_s h
  obtain ⟨k5, Y6, b5, e5, h, d5⟩ := by8_s h
  obtain ⟨k6, Y7, b6, e6, h, d6⟩ := by8_s h
  obtain ⟨k7, Y8, b7, e7, h, d7⟩ := by8_s h
  have e8 : Y8 = 0 := h
  subst e8
  obtain ⟨q1, q2, q3, q4, q5, q6, q7⟩ := fold_a b0 b1 b2 b3 b4 b5 b6 b7 e0 e1 e2 e3 e4 e5 e6 (by rw [e7]; exact Nat.zero_add _)
  refine ⟨_, _, _, by rw [q1], by rw [q2], by rw [q3], q4, q5, q6, ?_⟩
  rw [q7]
  refine Eq.trans ?_ d0.symm
  rw [d1, d2, d3, d4, d5, d6, d7]
  show _ = 0 + k7 + k6 + k5 + k4 + k3 + k2 + k1 + k0
  rw [Nat.zero_add]
theorem l_sub {a b : Nat} (hb : b ≤ a) (ha : a < 2 ^ 64) : lN a - lN b = lN (a - b) := lN_sub hb
theorem popE (x : Int64) : ∀ h, p307 h x = some (nI (cnt (b6 x) 64)) := by
  intro h
  obtain ⟨X, hX, rfl⟩ : ∃ n, n < 2 ^ 64 ∧ x = lN n := ⟨x.toBitVec.toNat, x.toBitVec.isLt, Int64.toBitVec_inj.1 (by show x.toBitVec = BitVec.ofNat 64 _; simp)⟩
  have sh : ∀ (a k : Nat), a < 2 ^ 64 → k < 64 → ((lN a).toUInt64 >>> ((nI k).toInt64.toUInt64 &&& Int64.toUInt64 63)).toInt64 = lN (a / 2 ^ k) := by
    intro a k ha hk
    apply Int64.toBitVec_inj.1
    show ((lN a).toUInt64 >>> ((nI k).toInt64.toUInt64 &&& Int64.toUInt64 63)).toBitVec = BitVec.ofNat 64 (a / 2 ^ k)
    rw [UInt64.toBitVec_shiftRight]
    apply BitVec.eq_of_toNat_eq
    have e1 : (((nI k).toInt64.toUInt64 &&& Int64.toUInt64 63).toBitVec % 64).toNat = k := by
      rw [BitVec.toNat_umod]
      show ((nI k).toInt64.toUInt64 &&& Int64.toUInt64 63).toNat % 64 = k
      rw [b6_cu k hk]
      exact Nat.mod_eq_of_lt hk
    rw [BitVec.ushiftRight_eq', e1, BitVec.toNat_ushiftRight]
    show (BitVec.ofNat 64 a).toNat >>> k = _
    rw [BitVec.toNat_ofNat, BitVec.toNat_ofNat, Nat.shiftRight_eq_div_pow, Nat.mod_eq_of_lt ha, Nat.mod_eq_of_lt (Nat.lt_of_le_of_lt (Nat.div_le_self _ _) ha)]
  have an : ∀ (a b : Nat), a < 2 ^ 64 → b < 2 ^ 64 → lN a &&& lN b = lN (a &&& b) := by
    intro a b ha hb
    apply Int64.toBitVec_inj.1
    rw [Int64.toBitVec_and]
    show BitVec.ofNat 64 a &&& BitVec.ofNat 64 b = BitVec.ofNat 64 (a &&& b)
    apply BitVec.eq_of_toNat_eq
    rw [BitVec.toNat_and, BitVec.toNat_ofNat, BitVec.toNat_ofNat, BitVec.toNat_ofNat, Nat.mod_eq_of_lt ha, Nat.mod_eq_of_lt hb, Nat.mod_eq_of_lt (Nat.and_lt_two_pow _ hb)]
  have k85 : pmk 85 8 = 6148914691236517205 := by decide
  have k51 : pmk 51 8 = 3689348814741910323 := by decide
  have k15 : pmk 15 8 = 1085102592571150095 := by decide
  have hX8 : X < 256 ^ 8 := hX
  have l1 : pT1 8 X < 2 ^ 64 := Nat.lt_of_le_of_lt (Nat.sub_le _ _) hX
  have l2a : pT1 8 X &&& pmk 51 8 < 2 ^ 62 := Nat.lt_of_le_of_lt Nat.and_le_right (by rw [k51]; decide)
  have l2b : pT1 8 X / 4 &&& pmk 51 8 < 2 ^ 62 := Nat.lt_of_le_of_lt Nat.and_le_right (by rw [k51]; decide)
  have l2 : pT2 8 X < 2 ^ 63 := by unfold pT2; omega
  have l3 : pT3 8 X < 2 ^ 64 := Nat.lt_of_le_of_lt Nat.and_le_right (by rw [k15]; decide)
  obtain ⟨s4, s5, s6, q4, q5, q6, m4, m5, m6, hs⟩ := fold_sum (pT3_by8 8 X hX8)
  have e1 : lN X - ((((lN X).toUInt64 >>> ((1 : Int32).toInt64.toUInt64 &&& Int64.toUInt64 63)).toInt64) &&& (6148914691236517205)) = lN (pT1 8 X) := by
    rw [show (1 : Int32) = nI 1 from rfl, sh X 1 hX (by decide), show (6148914691236517205 : Int64) = lN (pmk 85 8) from by rw [k85]; rfl, an _ _ (by omega) (by rw [k85]; decide)]
    exact l_sub (Nat.le_trans Nat.and_le_left (Nat.div_le_self _ _)) hX
  have e2 : ((lN (pT1 8 X)) &&& (3689348814741910323)) + (((lN (pT1 8 X)).toUInt64 >>> ((2 : Int32).toInt64.toUInt64 &&& Int64.toUInt64 63)).toInt64 &&& (3689348814741910323)) = lN (pT2 8 X) := by
    rw [show (2 : Int32) = nI 2 from rfl, sh _ 2 l1 (by decide), show (3689348814741910323 : Int64) = lN (pmk 51 8) from by rw [k51]; rfl, an _ _ l1 (by rw [k51]; decide), an _ _ (by omega) (by rw [k51]; decide), lN_add]
    rfl
  have e3 : ((lN (pT2 8 X)) + ((lN (pT2 8 X)).toUInt64 >>> ((4 : Int32).toInt64.toUInt64 &&& Int64.toUInt64 63)).toInt64) &&& (1085102592571150095) = lN (pT3 8 X) := by
    rw [show (4 : Int32) = nI 4 from rfl, sh _ 4 (by omega) (by decide), show (1085102592571150095 : Int64) = lN (pmk 15 8) from by rw [k15]; rfl, lN_add, an _ _ (by omega) (by rw [k15]; decide)]
    rfl
  have e4 : (lN (pT3 8 X)) + ((lN (pT3 8 X)).toUInt64 >>> ((8 : Int32).toInt64.toUInt64 &&& Int64.toUInt64 63)).toInt64 = lN s4 := by
    rw [show (8 : Int32) = nI 8 from rfl, sh _ 8 l3 (by decide), lN_add, q4]
  have e5 : (lN s4) + ((lN s4).toUInt64 >>> ((16 : Int32).toInt64.toUInt64 &&& Int64.toUInt64 63)).toInt64 = lN s5 := by
    rw [show (16 : Int32) = nI 16 from rfl, sh _ 16 m4 (by decide), lN_add, q5]
  have e6 : (lN s5) + ((lN s5).toUInt64 >>> ((32 : Int32).toInt64.toUInt64 &&& Int64.toUInt64 63)).toInt64 = lN s6 := by
    rw [show (32 : Int32) = nI 32 from rfl, sh _ 32 m5 (by decide), lN_add, q6]
  unfold p307
  rw [e1, e2, e3, e4, e5, e6, lN_i, show (127 : Int32) = nI (2 ^ 7 - 1) from rfl, pk_and (nI s6) 7 (by decide)]
  have e7 : (nI s6).toBitVec.toNat % 2 ^ 7 = s6 % 128 := by
    show (BitVec.ofNat 32 s6).toNat % 128 = _
    rw [BitVec.toNat_ofNat]
    omega
  rw [e7, hs, pT3_sum 8 X hX8]
  congr 2
  exact cnt_congr fun i hi => by
    show X.testBit i = (BitVec.ofNat 64 X).getLsbD i
    rw [BitVec.getLsbD_ofNat]
    have hi : i < 64 := hi
    simp [hi]
