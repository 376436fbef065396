/-! a shape's fits; judged -/
theorem nI_mul (a b : Nat) : nI a * nI b = nI (a * b) := (Int32.ofNat_mul a b).symm
theorem m8 : ∀ w, w < 9 → ∀ i, i < 9 → 0 < w → nI i - nI i / nI w * nI w = nI (i % w) := by decide +kernel
theorem s8 : ∀ i, i < 9 → ∀ w, w < 9 → w ≤ i → nI i - nI w = nI (i - w) := by decide +kernel
def fitC (h : HS) (r : Nat → Nat) (w i : Nat) : Nat := cnt (fun k => decide (0 < k % w) && jn h (r (k - 1)) (r k) 0) i + cnt (fun k => decide (w ≤ k) && jn h (r (k - w)) (r k) 1) i
def fitM (h : HS) (r : Nat → Nat) (w n i : Nat) : Nat := cnt (fun k => decide (k % w + 1 < w) && jn h (r k) (r (k + 1)) 0) i + cnt (fun k => decide (k + w < n) && jn h (r k) (r (k + w)) 1) i
theorem cnt_ss (P : Nat → Bool) (n : Nat) : cnt P (n + 1) = cnt P n + (if P n then 1 else 0) := Eq.trans rfl rfl
theorem b2_if {α : Type} (b : Bool) (x y : α) : (if b2 b = 0 then x else y) = if b then y else x := by cases b <;> rfl
theorem cnt_sh (P Q : Nat → Bool) (d n : Nat) (h : ∀ i, i < n → Q i = P (i + d)) : cnt P (d + n) = cnt P d + cnt Q n := by
  rw [cnt_add]
  congr 1
  exact cnt_congr fun i hi => by rw [h i hi, Nat.add_comm]
theorem fit_eq (h : HS) (r : Nat → Nat) {w v : Nat} (hw : 0 < w) : fitC h r w (w * v) = fitM h r w (w * v) (w * v) := by
  rcases Nat.eq_zero_or_pos v with rfl | hv
  · rfl
  have hn : w ≤ w * v := Nat.le_mul_of_pos_right w hv
  unfold fitC fitM
  congr 1
  · have a1 := cnt_sh (fun k => decide (0 < k % w) && jn h (r (k - 1)) (r k) 0) (fun k => decide (k % w + 1 < w) && jn h (r k) (r (k + 1)) 0) 1 (w * v) (fun i _ => by
      have e : decide (i % w + 1 < w) = decide (0 < (i + 1) % w) := by
        have hm := Nat.mod_lt i hw
        by_cases z : i % w + 1 < w
        · have : (i + 1) % w = i % w + 1 := by
            rw [Nat.add_mod]
            by_cases w1 : w = 1
            · omega
            · rw [Nat.mod_eq_of_lt (show 1 < w by omega), Nat.mod_eq_of_lt z]
          rw [decide_eq_true z, decide_eq_true (by omega)]
        · have : (i + 1) % w = 0 := by
            have e1 : i % w + 1 = w := by omega
            have e2 := Nat.div_add_mod i w
            have : i + 1 = w * (i / w + 1) := by rw [Nat.mul_add]; omega
            rw [this, Nat.mul_mod_right]
          rw [decide_eq_false z, decide_eq_false (by omega)]
      show (decide (i % w + 1 < w) && _) = (decide (0 < (i + 1) % w) && jn h (r (i + 1 - 1)) (r (i + 1)) 0)
      rw [e, Nat.add_sub_cancel])
    rw [Nat.add_comm 1, cnt_ss] at a1
    have z0 : cnt (fun k => decide (0 < k % w) && jn h (r (k - 1)) (r k) 0) 1 = 0 := by
      rw [cnt_ss]
      have : (decide (0 < 0 % w) && jn h (r (0 - 1)) (r 0) 0) = false := by rw [Nat.zero_mod]; rfl
      rw [this]
      rfl
    have z1 : (decide (0 < w * v % w) && jn h (r (w * v - 1)) (r (w * v)) 0) = false := by rw [Nat.mul_mod_right]; rfl
    rw [z0, z1, if_neg (by decide)] at a1
    omega
  · obtain ⟨u, hu⟩ : ∃ u, w * v = w + u := ⟨w * v - w, by omega⟩
    have a1 := cnt_sh (fun k => decide (w ≤ k) && jn h (r (k - w)) (r k) 1) (fun k => decide (k + w < w * v) && jn h (r k) (r (k + w)) 1) w u (fun i hi => by
      show (decide (i + w < w * v) && _) = (decide (w ≤ i + w) && jn h (r (i + w - w)) (r (i + w)) 1)
      rw [decide_eq_true (by omega), decide_eq_true (by omega), Nat.add_sub_cancel])
    have z0 : cnt (fun k => decide (w ≤ k) && jn h (r (k - w)) (r k) 1) w = 0 := cnt_false fun i hi => by
      show (decide (w ≤ i) && _) = false
      rw [decide_eq_false (by omega)]
      rfl
    have z2 : cnt (fun k => decide (k + w < w * v) && jn h (r k) (r (k + w)) 1) (w * v) = cnt (fun k => decide (k + w < w * v) && jn h (r k) (r (k + w)) 1) u := by
      rw [hu, Nat.add_comm w u, cnt_add]
      have : cnt (fun i => decide (u + i + w < u + w) && jn h (r (u + i)) (r (u + i + w)) 1) w = 0 := cnt_false fun i hi => by
        rw [decide_eq_false (by omega)]
        rfl
      rw [this, Nat.add_zero]
    rw [← hu, z0] at a1
    rw [z2]
    omega
section JUD
variable {s : SS} {h : HS}
theorem fitC_L (E : EV s h) (S : SCc s h) {w v : Nat} {r : Nat → Nat} (hw : 0 < w) (hn : w * v ≤ 8) (hr : ∀ k, k < w * v → hI h 48 k = nI (r k) ∧ r k < s 0 2) (F : Nat) (x : Int64) : ∀ (m i : Nat), i ≤ w * v → w * v - i < m → p58_L27 F (nI w) (nI v) x m h (nI (fitC h r w i)) (nI i) = some (nI (fitC h r w (w * v)), h) := by
  have b2 := E.cn.b2
  intro m
  induction m with
  | zero => intro i _ z; omega
  | succ m ih =>
    intro i hi hm
    rw [p58_L27, nI_mul]
    have hv : w ≤ 8 ∨ w * v = 0 := by
      rcases Nat.eq_zero_or_pos v with rfl | hv
      · right; rfl
      · left; have := Nat.le_mul_of_pos_right w hv; omega
    by_cases hlt : i < w * v
    · have hw8 : w < 9 := by omega
      have hf : ∀ j, fitC h r w j ≤ 2 * j := fun j => by unfold fitC; have := cnt_le (fun k => decide (0 < k % w) && jn h (r (k - 1)) (r k) 0) j; have := cnt_le (fun k => decide (w ≤ k) && jn h (r (k - w)) (r k) 1) j; omega
      have hfi := hf i
      rw [if_pos (nI_lt hlt (by omega)), if_neg (nI_ne0 hw (by omega)), m8 w hw8 i (by omega) hw]
      have st : fitC h r w (i + 1) = fitC h r w i + (if decide (0 < i % w) && jn h (r (i - 1)) (r i) 0 then 1 else 0) + (if decide (w ≤ i) && jn h (r (i - w)) (r i) 1 then 1 else 0) := by unfold fitC; rw [cnt_ss, cnt_ss]; omega
      have j71 : ∀ c, c ≤ 2 * i + 1 → p58_j71 F (nI w) (nI v) x (p58_L27 F (nI w) (nI v) x m) h (nI c) (nI i) = p58_L27 F (nI w) (nI v) x m h (nI (c + (if decide (w ≤ i) && jn h (r (i - w)) (r i) 1 then 1 else 0))) (nI (i + 1)) := by
        intro c hc
        unfold p58_j71 p58_j106
        by_cases hwi : w ≤ i
        · rw [if_neg (nI_nlt hwi (by omega)), s8 i (by omega) w hw8 hwi, if_neg (nI_in (by omega) (by decide)), if_neg (nI_in (by omega) (by decide)), nI_clamp (by omega), nI_clamp (by omega), (hr (i - w) (by omega)).1, (hr i hlt).1, (jnC E S (hr (i - w) (by omega)).2 (hr i hlt).2).2, ob, b2_if, decide_eq_true hwi, Bool.true_and, nI_1]
          cases jn h (r (i - w)) (r i) 1
          · rw [nI_1 i]; rfl
          · rw [if_pos rfl, nI_1 i]; rfl
        · rw [if_pos (nI_lt (by omega) (by omega)), decide_eq_false hwi, nI_1]
          rfl
      by_cases hmod : 0 < i % w
      · have hi0 : 0 < i := by rcases Nat.eq_zero_or_pos i with rfl | z <;> simp_all
        have e1 : nI i - 1 = nI (i - 1) := s8 i (by omega) 1 (by omega) (by omega)
        rw [if_pos (show (0 : Int32) < nI (i % w) from nI_lt hmod (by have := Nat.mod_lt i hw; omega)), e1, if_neg (nI_in (by omega) (by decide)), if_neg (nI_in (by omega) (by decide)), nI_clamp (by omega), nI_clamp (by omega), (hr (i - 1) (by omega)).1, (hr i hlt).1, (jnC E S (hr (i - 1) (by omega)).2 (hr i hlt).2).1, ob, b2_if]
        rw [decide_eq_true hmod, Bool.true_and] at st
        cases hj : jn h (r (i - 1)) (r i) 0
        · rw [hj] at st
          rw [if_neg (by decide), j71 _ (by omega), ← ih (i + 1) (by omega) (by omega), st]
          rfl
        · rw [hj] at st
          rw [if_pos rfl, nI_1, j71 _ (by omega), ← ih (i + 1) (by omega) (by omega), st]
          rfl
      · have hmod0 : i % w = 0 := by omega
        rw [hmod0, if_neg (show ¬ (0 : Int32) < nI 0 by decide), j71 _ (by omega), ← ih (i + 1) (by omega) (by omega), st, decide_eq_false hmod]
        rfl
    · have : i = w * v := by omega
      subst this
      rw [if_neg Int32.lt_irrefl]
theorem fitM_L (E : EV s h) (S : SCc s h) {w v : Nat} {r : Nat → Nat} (hw : 0 < w) (hn : w * v ≤ 8) (hr : ∀ k, k < w * v → hI h 92 k = nI (r k) ∧ r k < s 0 2) (F : Nat) : ∀ (m i : Nat), i ≤ w * v → w * v - i < m → p197_L5 F (nI w) (nI v) m h (nI (fitM h r w (w * v) i)) (nI i) = some (nI (fitM h r w (w * v) (w * v))) := by
  have b2 := E.cn.b2
  intro m
  induction m with
  | zero => intro i _ z; omega
  | succ m ih =>
    intro i hi hm
    rw [p197_L5, nI_mul]
    have hv : w ≤ 8 ∨ w * v = 0 := by
      rcases Nat.eq_zero_or_pos v with rfl | hv
      · right; rfl
      · left; have := Nat.le_mul_of_pos_right w hv; omega
    by_cases hlt : i < w * v
    · have hw8 : w < 9 := by omega
      have hmw := Nat.mod_lt i hw
      rw [if_pos (nI_lt hlt (by omega)), if_neg (nI_ne0 hw (by omega)), m8 w hw8 i (by omega) hw, nI_1]
      have st : fitM h r w (w * v) (i + 1) = fitM h r w (w * v) i + (if decide (i % w + 1 < w) && jn h (r i) (r (i + 1)) 0 then 1 else 0) + (if decide (i + w < w * v) && jn h (r i) (r (i + w)) 1 then 1 else 0) := by unfold fitM; rw [cnt_ss, cnt_ss]; omega
      have hin : i % w + 1 < w → i + 1 < w * v := fun z => by
        rcases Nat.lt_or_ge (i + 1) (w * v) with y | y
        · exact y
        · have e : i + 1 = w * v := by omega
          have e2 : (i + 1) % w = 0 := by rw [e, Nat.mul_mod_right]
          rw [Nat.add_mod] at e2
          by_cases w1 : w = 1
          · omega
          · rw [Nat.mod_eq_of_lt (show 1 < w by omega), Nat.mod_eq_of_lt z] at e2
            omega
      have j53 : ∀ c d, p197_j53 F (nI w) (nI v) (p197_L5 F (nI w) (nI v) m h) h (nI i) (nI d) (nI c) = p197_L5 F (nI w) (nI v) m h (nI (c + d + (if decide (i + w < w * v) && jn h (r i) (r (i + w)) 1 then 1 else 0))) (nI (i + 1)) := by
        intro c d
        unfold p197_j53 p197_j94 p197_j95
        rw [nI_add, nI_mul, nI_add, nI_1]
        by_cases hwi : i + w < w * v
        · rw [if_pos (nI_lt hwi (by omega)), if_neg (nI_in (by omega) (by decide)), if_neg (nI_in (by omega) (by decide)), nI_clamp (by omega), nI_clamp (by omega), (hr i hlt).1, (hr (i + w) hwi).1, show (1 : Int32) = nI 1 from rfl, jnM E S (hr i hlt).2 (hr (i + w) hwi).2 (by decide), ob, b2_if, decide_eq_true hwi, Bool.true_and]
          cases jn h (r i) (r (i + w)) 1
          · rw [if_neg (by decide), show (0 : Int32) = nI 0 from rfl, nI_add]; rfl
          · rw [if_pos rfl, nI_add]; rfl
        · rw [if_neg (nI_nlt (by omega) (by omega)), decide_eq_false hwi, show (0 : Int32) = nI 0 from rfl, nI_add]
          rfl
      have j52 : ∀ c, p197_j52 F (nI w) (nI v) (p197_L5 F (nI w) (nI v) m h) h (nI i) (nI c) = p197_L5 F (nI w) (nI v) m h (nI (c + 0 + (if decide (i + w < w * v) && jn h (r i) (r (i + w)) 1 then 1 else 0))) (nI (i + 1)) := fun c => j53 c 0
      by_cases hmod : i % w + 1 < w
      · have h2 := hin hmod
        rw [if_pos (nI_lt hmod (by omega)), nI_1, if_neg (nI_in (by omega) (by decide)), if_neg (nI_in (by omega) (by decide)), nI_clamp (by omega), nI_clamp (by omega), (hr i hlt).1, (hr (i + 1) h2).1, show (0 : Int32) = nI 0 from rfl, jnM E S (hr i hlt).2 (hr (i + 1) h2).2 (by decide), ob, ← show (0 : Int32) = nI 0 from rfl, b2_if]
        rw [decide_eq_true hmod, Bool.true_and] at st
        cases hj : jn h (r i) (r (i + 1)) 0
        · rw [hj] at st
          rw [if_neg (by decide), j52, ← ih (i + 1) (by omega) (by omega), st]
          rfl
        · rw [hj] at st
          rw [if_pos rfl, show (1 : Int32) = nI 1 from rfl, j53, ← ih (i + 1) (by omega) (by omega), st]
          rfl
      · rw [if_neg (nI_nlt (by omega) (by omega)), j52, ← ih (i + 1) (by omega) (by omega), st, decide_eq_false hmod]
        rfl
    · have : i = w * v := by omega
      subst this
      rw [if_neg Int32.lt_irrefl]
/-! a row of scraps, eight bits each -/
theorem sxt (y : BitVec 64) : y.signExtend 32 = y.setWidth 32 := by
  apply BitVec.eq_of_getLsbD_eq
  intro i hi
  rw [BitVec.getLsbD_signExtend, if_pos (by omega), BitVec.getLsbD_setWidth]
def by6 (x : Int64) (k : Nat) : Nat := x.toBitVec.toNat / 2 ^ (8 * k) % 256
theorem by6_C (x : Int64) : ∀ k, k < 8 → (((x.toUInt64 >>> (((8) * (nI k)).toInt64.toUInt64 &&& Int64.toUInt64 63)).toInt64) &&& ((255 : Int64))).toInt32 = nI (by6 x k) := by
  intro k hk
  have e : ∀ k, k < 8 → (((8 : Int32) * (nI k)).toInt64.toUInt64 &&& Int64.toUInt64 63).toNat % 64 = 8 * k := by decide +kernel
  apply Int32.toBitVec_inj.mp
  apply BitVec.eq_of_toNat_eq
  have t : ((x.toUInt64 >>> (((8) * (nI k)).toInt64.toUInt64 &&& Int64.toUInt64 63)).toInt64).toBitVec.toNat = x.toBitVec.toNat / 2 ^ (8 * k) := by
    show (x.toUInt64 >>> (((8) * (nI k)).toInt64.toUInt64 &&& Int64.toUInt64 63)).toNat = _
    rw [UInt64.toNat_shiftRight, e k hk, Nat.shiftRight_eq_div_pow]
    rfl
  have q : ((((x.toUInt64 >>> (((8) * (nI k)).toInt64.toUInt64 &&& Int64.toUInt64 63)).toInt64) &&& ((255 : Int64))).toInt32).toBitVec.toNat = by6 x k := by
    rw [Int64.toBitVec_toInt32, Int64.toBitVec_and, sxt, BitVec.toNat_setWidth, BitVec.toNat_and, t]
    show (x.toBitVec.toNat / 2 ^ (8 * k) &&& 255) % 2 ^ 32 = _
    rw [show (255 : Nat) = 2 ^ 8 - 1 from rfl, Nat.and_two_pow_sub_one_eq_mod]
    unfold by6
    omega
  rw [q]
  show by6 x k = (BitVec.ofInt 32 (by6 x k : Int)).toNat
  rw [BitVec.ofInt_natCast, BitVec.toNat_ofNat]
  unfold by6
  omega
theorem by6_M (x : Int64) : ∀ k, k < 8 → (((x >>> (((8) * (nI k)).toInt64 &&& 63)) &&& (255)).toInt32) = nI (by6 x k) := by
  intro k hk
  rw [← by6_C x k hk]
  congr 1
  apply Int64.toBitVec_inj.mp
  have e : ∀ k, k < 8 → ((((8 : Int32) * (nI k)).toInt64 &&& 63).toBitVec.smod 64).toNat = 8 * k ∧ (((8 : Int32) * (nI k)).toInt64.toUInt64 &&& Int64.toUInt64 63).toNat % 64 = 8 * k := by decide +kernel
  rw [Int64.toBitVec_and, Int64.toBitVec_and, Int64.toBitVec_shiftRight, UInt64.toBitVec_toInt64, UInt64.toBitVec_shiftRight]
  apply BitVec.eq_of_getLsbD_eq
  intro i hi
  rw [BitVec.getLsbD_and, BitVec.getLsbD_and]
  have z : ∀ i, i < 64 → (255 : Int64).toBitVec.getLsbD i = decide (i < 8) := by decide +kernel
  rw [z i hi]
  by_cases h8 : i < 8
  · have e1 : x.toBitVec.sshiftRight' ((((8 : Int32) * (nI k)).toInt64 &&& 63).toBitVec.smod 64) = x.toBitVec.sshiftRight (8 * k) := by
      show x.toBitVec.sshiftRight _ = _
      rw [(e k hk).1]
    have e2 : x.toUInt64.toBitVec >>> ((((8 : Int32) * (nI k)).toInt64.toUInt64 &&& Int64.toUInt64 63).toBitVec % 64) = x.toBitVec >>> (8 * k) := by
      show x.toBitVec >>> ((((8 : Int32) * (nI k)).toInt64.toUInt64 &&& Int64.toUInt64 63).toBitVec % 64) = _
      rw [BitVec.ushiftRight_eq', BitVec.toNat_umod]
      congr 1
      exact (e k hk).2
    rw [e1, e2, BitVec.getLsbD_sshiftRight, BitVec.getLsbD_ushiftRight, if_pos (by omega), decide_eq_false (show ¬ 64 ≤ i by omega), Bool.not_false, Bool.true_and]
  · rw [decide_eq_false h8, Bool.and_false, Bool.and_false]
theorem nI_in' {c N : Nat} (h : c < N) (hN : N < 2 ^ 31) : ¬ (nI c < 0 ∨ N ≤ c) := fun z => z.elim (nI_pos (by omega)) (by omega)
def jok (s : SS) (b : Nat → Nat) (k : Nat) : Bool := decide (b k < s 0 2) && !anyN (fun j => decide (b j = b k)) k
theorem unpI {a : Int32} {b : Nat → Nat} {h : HS} {F n : Nat} {x : Int64} {K : HS → Int32 → Option (Int32 × HS)} (hb : ∀ k, b k < 256) (hn : n < 8) (hr : ∀ k, k < n + 1 → hI h 48 k = nI (b k)) : ∀ (m j : Nat), j ≤ n → n - j < m → anyN (fun i => decide (b i = b n)) j = false → p59_L50 F a x K m h (nI n) (nI j) = if anyN (fun i => decide (b i = b n)) n then some (0, h) else K h (nI (n + 1)) := by
  intro m
  induction m with
  | zero => intro j _ z; omega
  | succ m ih =>
    intro j hj hm ha
    have q1 := hb j
    have q2 := hb n
    rw [p59_L50]
    by_cases hlt : j < n
    · rw [if_pos (nI_lt hlt (by omega)), if_neg (nI_in (by omega) (by decide)), if_neg (nI_in (by omega) (by decide)), nI_clamp (by omega), nI_clamp (by omega), hr j (by omega), hr n (by omega), nI_1 j]
      by_cases he : b j = b n
      · rw [he, if_pos rfl, if_pos (anyN_iff.mpr ⟨j, hlt, decide_eq_true he⟩)]
      · rw [if_neg (fun z => he ((nI_eq (by omega) (by omega)).mp z)), ih (j + 1) (by omega) (by omega) (by rw [anyN_s, ha, decide_eq_false he]; rfl)]
    · have : j = n := by omega
      subst this
      rw [if_neg Int32.lt_irrefl, ha, if_neg (by decide), nI_1]
theorem unpC {x : Int64} {n F : Nat} (E : EV s h) (hn : n ≤ 8) (hF : 10 ≤ F) : ∀ (m i : Nat) (g : HS), i ≤ n → n - i < m → FR [48] [] nD h g → (∀ k, k < i → hI g 48 k = nI (by6 x k)) → (∀ k, k < i → jok s (by6 x) k = true) → ∃ g', FR [48] [] nD h g' ∧ ((p59_L3 F (nI n) x m g (nI i) = some (0, g') ∧ ∃ k, k < n ∧ jok s (by6 x) k = false) ∨ (p59_L3 F (nI n) x m g (nI i) = some (1, g') ∧ (∀ k, k < n → jok s (by6 x) k = true) ∧ ∀ k, k < n → hI g' 48 k = nI (by6 x k))) := by
  have b2 := E.cn.b2
  have hb : ∀ k, by6 x k < 256 := fun k => by unfold by6; omega
  intro m
  induction m with
  | zero => intro i g _ z; omega
  | succ m ih =>
    intro i g hi hm hf hr ho
    rw [p59_L3]
    by_cases hlt : i < n
    · have hq := hb i
      rw [if_pos (nI_lt hlt (by omega)), if_neg (nI_in (by omega) (by decide)), nI_clamp (by omega), by6_C x i (by omega), ob, if_neg (nI_in' (by omega) (by decide))]
      have f2 : FR [48] [] nD h (hsI g 48 i (nI (by6 x i))) := hf.sI (Or.inl (by decide))
      have E2 : EV s (hsI g 48 i (nI (by6 x i))) := E.fr f2 (by decide) evD_n
      have ei : hI (hsI g 48 i (nI (by6 x i))) 48 i = nI (by6 x i) := if_pos ⟨rfl, rfl⟩
      have er : ∀ k, k < i + 1 → hI (hsI g 48 i (nI (by6 x i))) 48 k = nI (by6 x k) := fun k hk => by
        by_cases z : k = i
        · subst z; exact ei
        · exact (if_neg (fun y => z y.2)).trans (hr k (by omega))
      rw [ei]
      rcases scrc E2 (nI (by6 x i)) with ⟨h1, -⟩ | ⟨j, hj, e, h1, -⟩
      · rw [h1, ob, if_pos rfl]
        refine ⟨_, f2, Or.inl ⟨rfl, i, hlt, ?_⟩⟩
        unfold jok
        rw [decide_eq_false ?_]
        · rfl
        · intro z
          have := (scrc E2 (nI (by6 x i))).resolve_left (fun y => ?_)
          · obtain ⟨j, _, e, h3, _⟩ := this
            rw [← e, h1] at h3
            exact absurd h3 (by decide)
          · have h4 : p87 (hsI g 48 i (nI (by6 x i))) (nI (by6 x i)) = some 1 := by
              rcases ixc (nI (by6 x i)) (s 0 2) (by omega) with ⟨_, _, h5⟩ | ⟨j, hj, e, h5, _⟩
              · exact absurd rfl (h5 _ z)
              · unfold p87
                rw [E2.cn.c2, e, h5]
                rfl
            rw [y.1] at h4
            exact absurd h4 (by decide)
      · have hj' : by6 x i = j := (nI_eq (by omega) (by omega)).mp e
        subst hj'
        rw [h1, ob, if_neg (by decide), show (0 : Int32) = nI 0 from rfl, unpI hb (by omega) er F 0 (by omega) (by omega) rfl]
        have jo : jok s (by6 x) i = !anyN (fun j => decide (by6 x j = by6 x i)) i := by unfold jok; rw [decide_eq_true hj, Bool.true_and]
        cases ha : anyN (fun j => decide (by6 x j = by6 x i)) i
        · rw [if_neg (by decide)]
          exact ih (i + 1) _ (by omega) (by omega) f2 er (fun k hk => by
            by_cases z : k = i
            · subst z; rw [jo, ha]; rfl
            · exact ho k (by omega))
        · rw [if_pos rfl]
          exact ⟨_, f2, Or.inl ⟨rfl, i, hlt, by rw [jo, ha]; rfl⟩⟩
    · have : i = n := by omega
      subst this
      rw [if_neg Int32.lt_irrefl]
      exact ⟨g, hf, Or.inr ⟨rfl, ho, hr⟩⟩
theorem unpJ {a c : Int32} {b : Nat → Nat} {F n : Nat} {x : Int64} {K : HS → Int32 → Option (Int32 × HS)} (hb : ∀ k, b k < 256) (hn : n < 8) (hr : ∀ k, k < n + 1 → hI h 92 k = nI (b k)) : ∀ (m j : Nat), j ≤ n → n - j < m → anyN (fun i => decide (b i = b n)) j = false → p203_L59 F a c x K m h (nI n) (nI j) = if anyN (fun i => decide (b i = b n)) n then some (-1, h) else K h (nI (n + 1)) := by
  intro m
  induction m with
  | zero => intro j _ z; omega
  | succ m ih =>
    intro j hj hm ha
    have q1 := hb j
    have q2 := hb n
    rw [p203_L59]
    by_cases hlt : j < n
    · rw [if_pos (nI_lt hlt (by omega)), if_neg (nI_in (by omega) (by decide)), if_neg (nI_in (by omega) (by decide)), nI_clamp (by omega), nI_clamp (by omega), hr j (by omega), hr n (by omega), nI_1 j]
      by_cases he : b j = b n
      · rw [he, if_pos rfl, if_pos (anyN_iff.mpr ⟨j, hlt, decide_eq_true he⟩)]
      · rw [if_neg (fun z => he ((nI_eq (by omega) (by omega)).mp z)), ih (j + 1) (by omega) (by omega) (by rw [anyN_s, ha, decide_eq_false he]; rfl)]
    · have : j = n := by omega
      subst this
      rw [if_neg Int32.lt_irrefl, ha, if_neg (by decide), nI_1]
theorem unpM {x : Int64} {w v F : Nat} (E : EV s h) (hn : w * v ≤ 8) (hF : 10 ≤ F) : ∀ (m i : Nat) (g : HS), i ≤ w * v → w * v - i < m → FR [92] [] nD h g → (∀ k, k < i → hI g 92 k = nI (by6 x k)) → (∀ k, k < i → jok s (by6 x) k = true) → ∃ g', FR [92] [] nD h g' ∧ ((p203_L13 F (nI w) (nI v) x m g (nI i) = some (-1, g') ∧ ∃ k, k < w * v ∧ jok s (by6 x) k = false) ∨ (p203_L13 F (nI w) (nI v) x m g (nI i) = (Option.bind (p197 F g' (nI w) (nI v)) fun r13 => some (r13, g')) ∧ (∀ k, k < w * v → jok s (by6 x) k = true) ∧ ∀ k, k < w * v → hI g' 92 k = nI (by6 x k))) := by
  have b2 := E.cn.b2
  have hb : ∀ k, by6 x k < 256 := fun k => by unfold by6; omega
  intro m
  induction m with
  | zero => intro i g _ z; omega
  | succ m ih =>
    intro i g hi hm hf hr ho
    rw [p203_L13, nI_mul]
    by_cases hlt : i < w * v
    · have hq := hb i
      rw [if_pos (nI_lt hlt (by omega)), if_neg (nI_in (by omega) (by decide)), nI_clamp (by omega), by6_M x i (by omega), ob, if_neg (nI_in' (by omega) (by decide))]
      have f2 : FR [92] [] nD h (hsI g 92 i (nI (by6 x i))) := hf.sI (Or.inl (by decide))
      have E2 : EV s (hsI g 92 i (nI (by6 x i))) := E.fr f2 (by decide) evD_n
      have ei : hI (hsI g 92 i (nI (by6 x i))) 92 i = nI (by6 x i) := if_pos ⟨rfl, rfl⟩
      have er : ∀ k, k < i + 1 → hI (hsI g 92 i (nI (by6 x i))) 92 k = nI (by6 x k) := fun k hk => by
        by_cases z : k = i
        · subst z; exact ei
        · exact (if_neg (fun y => z y.2)).trans (hr k (by omega))
      rw [ei]
      rcases scrc E2 (nI (by6 x i)) with ⟨-, h1⟩ | ⟨j, hj, e, -, h1⟩
      · rw [h1, ob, if_pos rfl]
        refine ⟨_, f2, Or.inl ⟨rfl, i, hlt, ?_⟩⟩
        unfold jok
        rw [decide_eq_false ?_]
        · rfl
        · intro z
          have h4 : p193 (hsI g 92 i (nI (by6 x i))) (nI (by6 x i)) = some 1 := by
            rcases ixc (nI (by6 x i)) (s 0 2) (by omega) with ⟨_, _, h5⟩ | ⟨j, hj, e, _, h5⟩
            · exact absurd rfl (h5 _ z)
            · unfold p193
              rw [E2.cn.m2, e, h5]
              rfl
          rw [h1] at h4
          exact absurd h4 (by decide)
      · have hj' : by6 x i = j := (nI_eq (by omega) (by omega)).mp e
        subst hj'
        rw [h1, ob, if_neg (by decide), show (0 : Int32) = nI 0 from rfl, unpJ hb (by omega) er F 0 (by omega) (by omega) rfl]
        have jo : jok s (by6 x) i = !anyN (fun j => decide (by6 x j = by6 x i)) i := by unfold jok; rw [decide_eq_true hj, Bool.true_and]
        cases ha : anyN (fun j => decide (by6 x j = by6 x i)) i
        · rw [if_neg (by decide)]
          exact ih (i + 1) _ (by omega) (by omega) f2 er (fun k hk => by
            by_cases z : k = i
            · subst z; rw [jo, ha]; rfl
            · exact ho k (by omega))
        · rw [if_pos rfl]
          exact ⟨_, f2, Or.inl ⟨rfl, i, hlt, by rw [jo, ha]; rfl⟩⟩
    · have : i = w * v := by omega
      subst this
      rw [if_neg Int32.lt_irrefl]
      exact ⟨g, hf, Or.inr ⟨rfl, ho, hr⟩⟩
/-- a shape: both sides' test of it -/
theorem shp (a b : Int32) : ((∀ h, p43 h a b = some 0) ∧ ∀ h, p200 h a b = some 0) ∨ ((∀ h, p43 h a b = some 1) ∧ (∀ h, p200 h a b = some 1) ∧ ∃ w v, 1 ≤ w ∧ w ≤ 8 ∧ 1 ≤ v ∧ v ≤ 8 ∧ w * v ≤ 8 ∧ a = nI w ∧ b = nI v) := by
  rcases rngN a 1 8 (by decide) (by decide) with ⟨h1, h2⟩ | ⟨h1, h2, w, w1, w2, rfl⟩
  · left
    refine ⟨fun h => ?_, fun h => ?_⟩
    · unfold p43; rw [show (1 : Int32) = nI 1 from rfl, show (8 : Int32) = nI 8 from rfl, h1]; rfl
    · unfold p200; rw [show (1 : Int32) = nI 1 from rfl, show (8 : Int32) = nI 8 from rfl, h2]; rfl
  · rcases rngN b 1 8 (by decide) (by decide) with ⟨h3, h4⟩ | ⟨h3, h4, v, v1, v2, rfl⟩
    · left
      refine ⟨fun h => ?_, fun h => ?_⟩
      · unfold p43; rw [show (1 : Int32) = nI 1 from rfl, show (8 : Int32) = nI 8 from rfl, h1, h3]; rfl
      · unfold p200; rw [show (1 : Int32) = nI 1 from rfl, show (8 : Int32) = nI 8 from rfl, h2, h4]; rfl
    · by_cases z : w * v ≤ 8
      · right
        have k : ¬ (8 : Int32) < nI w * nI v := by rw [nI_mul]; exact nI_nlt (a := 8) (b := w * v) z (by decide)
        refine ⟨fun h => ?_, fun h => ?_, w, v, w1, w2, v1, v2, z, rfl, rfl⟩
        · unfold p43; rw [if_neg k, show (1 : Int32) = nI 1 from rfl, show (8 : Int32) = nI 8 from rfl, h1, h3]; rfl
        · unfold p200; rw [if_neg k, show (1 : Int32) = nI 1 from rfl, show (8 : Int32) = nI 8 from rfl, h2, h4]; rfl
      · left
        have z2 : w * v ≤ 64 := Nat.mul_le_mul w2 v2
        have k : (8 : Int32) < nI w * nI v := by rw [nI_mul]; exact nI_lt (a := 8) (b := w * v) (by omega) (by omega)
        refine ⟨fun h => ?_, fun h => ?_⟩
        · unfold p43; rw [if_pos k, show (1 : Int32) = nI 1 from rfl, show (8 : Int32) = nI 8 from rfl, h1, h3]; rfl
        · unfold p200; rw [if_pos k, show (1 : Int32) = nI 1 from rfl, show (8 : Int32) = nI 8 from rfl, h2, h4]; rfl
theorem w_judged (E : EV s h) (S : SCc s h) {F : Nat} (hF : 20 ≤ F) (a b : Int32) (x : Int64) : ∃ v h1 h2, p121 F h a b x = some (v, h1) ∧ p203 F h1 a b x = some (v, h2) ∧ FR [48, 92] [] nD h h2 := by
  unfold p121 p58 p203
  rcases shp a b with ⟨h1, h2⟩ | ⟨h1, h2, w, v, w1, w2, v1, v2, hn, rfl, rfl⟩
  · refine ⟨-1, h, h, ?_, ?_, FR.rf nD160⟩
    · rw [h1, ob, if_pos rfl]; rfl
    · rw [h2, ob, if_pos rfl]
  · rw [h1, ob, if_neg (by decide), nI_mul]
    obtain ⟨g, fg, hg⟩ := unpC (x := x) (n := w * v) (F := F) E hn (by omega) F 0 h (by omega) (by omega) (FR.rf nD160) (fun k z => by omega) (fun k z => by omega)
    have E2 : EV s g := E.fr fg (by decide) evD_n
    have S2 : SCc s g := S.fr E.w.1 fg (by decide) (by decide)
    obtain ⟨g2, fg2, hg2⟩ := unpM (x := x) (w := w) (v := v) (F := F) E2 hn (by omega) F 0 g (by omega) (by omega) (FR.rf nD160) (fun k z => by omega) (fun k z => by omega)
    have fA : FR [48, 92] [] nD h g2 := (fg.mo (by decide) (by decide) (fun _ z => z) nD160).tr (fg2.mo (by decide) (by decide) (fun _ z => z) nD160)
    unfold p59
    rcases hg with ⟨e1, k, hk, hk2⟩ | ⟨e1, ho, hr⟩
    · rcases hg2 with ⟨e2, -⟩ | ⟨-, ho2, -⟩
      · refine ⟨-1, g, g2, ?_, ?_, fA⟩
        · rw [show p59_L3 F (nI (w * v)) x F h 0 = _ from e1, ob, if_pos rfl]; rfl
        · rw [h2, ob, if_neg (by decide), show p203_L13 F (nI w) (nI v) x F g 0 = _ from e2]
      · exact absurd (ho2 k hk) (by rw [hk2]; decide)
    · rcases hg2 with ⟨-, k, hk, hk2⟩ | ⟨e2, -, hr2⟩
      · exact absurd (ho k hk) (by rw [hk2]; decide)
      · have E3 : EV s g2 := E2.fr fg2 (by decide) evD_n
        have S3 : SCc s g2 := S2.fr E2.w.1 fg2 (by decide) (by decide)
        have lt : ∀ k, k < w * v → by6 x k < s 0 2 := fun k hk => by
          have := ho k hk
          unfold jok at this
          rw [Bool.and_eq_true] at this
          exact of_decide_eq_true this.1
        have j90 : hI g2 90 = hI g 90 := fg2.fA E2.w.1 90 ⟨by decide, by decide, by decide⟩
        have j89 : hI g2 89 = hI g 89 := fg2.fA E2.w.1 89 ⟨by decide, by decide, by decide⟩
        have jj : ∀ a b c, jn g2 a b c = jn g a b c := fun a b c => by unfold jn; rw [j90, j89]
        refine ⟨nI (fitC g (by6 x) w (w * v)), g, g2, ?_, ?_, fA⟩
        · rw [show p59_L3 F (nI (w * v)) x F h 0 = _ from e1, ob, if_neg (show ¬ (1 : Int32) = 0 by decide)]
          have := fitC_L (r := by6 x) E2 S2 (by omega) hn (fun k hk => ⟨hr k hk, lt k hk⟩) F x F 0 (by omega) (by omega)
          rw [show fitC g (by6 x) w 0 = 0 from rfl] at this
          rw [show p58_L27 F (nI w) (nI v) x F (((1, g) : Int32 × HS).2) 0 0 = _ from this]
          rfl
        · rw [h2, ob, if_neg (by decide), show p203_L13 F (nI w) (nI v) x F g 0 = _ from e2]
          unfold p197
          have := fitM_L (r := by6 x) E3 S3 (by omega) hn (fun k hk => ⟨hr2 k hk, lt k hk⟩) F F 0 (by omega) (by omega)
          rw [show fitM g2 (by6 x) w (w * v) 0 = 0 from rfl] at this
          rw [show p197_L5 F (nI w) (nI v) F g2 0 0 = _ from this, ob, fit_eq g (by6 x) (by omega)]
          unfold fitM
          simp only [jj]
end JUD
