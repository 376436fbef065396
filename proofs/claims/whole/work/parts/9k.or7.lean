/-! order: both sides -/
def by5 (x : Int64) (k : Nat) : Nat := x.toBitVec.toNat / 2 ^ (5 * k) % 32
theorem by5_C (x : Int64) : ∀ k, k < 9 → (((x.toUInt64 >>> (((5) * (nI k)).toInt64.toUInt64 &&& Int64.toUInt64 63)).toInt64) &&& ((31 : Int64))).toInt32 = nI (by5 x k) := by
  intro k hk
  have e : ∀ k, k < 9 → (((5 : Int32) * (nI k)).toInt64.toUInt64 &&& Int64.toUInt64 63).toNat % 64 = 5 * k := by decide +kernel
  apply Int32.toBitVec_inj.mp
  apply BitVec.eq_of_toNat_eq
  have t : ((x.toUInt64 >>> (((5) * (nI k)).toInt64.toUInt64 &&& Int64.toUInt64 63)).toInt64).toBitVec.toNat = x.toBitVec.toNat / 2 ^ (5 * k) := by
    show (x.toUInt64 >>> (((5) * (nI k)).toInt64.toUInt64 &&& Int64.toUInt64 63)).toNat = _
    rw [UInt64.toNat_shiftRight, e k hk, Nat.shiftRight_eq_div_pow]
    rfl
  have q : ((((x.toUInt64 >>> (((5) * (nI k)).toInt64.toUInt64 &&& Int64.toUInt64 63)).toInt64) &&& ((31 : Int64))).toInt32).toBitVec.toNat = by5 x k := by
    rw [Int64.toBitVec_toInt32, Int64.toBitVec_and, sxt, BitVec.toNat_setWidth, BitVec.toNat_and, t]
    show (x.toBitVec.toNat / 2 ^ (5 * k) &&& 31) % 2 ^ 32 = _
    rw [show (31 : Nat) = 2 ^ 5 - 1 from rfl, Nat.and_two_pow_sub_one_eq_mod]
    unfold by5
    omega
  rw [q]
  show by5 x k = (BitVec.ofInt 32 (by5 x k : Int)).toNat
  rw [BitVec.ofInt_natCast, BitVec.toNat_ofNat]
  unfold by5
  omega
theorem by5_M (x : Int64) : ∀ k, k < 9 → (((x >>> (((5) * (nI k)).toInt64 &&& 63)) &&& (31)).toInt32) = nI (by5 x k) := by
  intro k hk
  rw [← by5_C x k hk]
  congr 1
  apply Int64.toBitVec_inj.mp
  have e : ∀ k, k < 9 → ((((5 : Int32) * (nI k)).toInt64 &&& 63).toBitVec.smod 64).toNat = 5 * k ∧ (((5 : Int32) * (nI k)).toInt64.toUInt64 &&& Int64.toUInt64 63).toNat % 64 = 5 * k := by decide +kernel
  rw [Int64.toBitVec_and, Int64.toBitVec_and, Int64.toBitVec_shiftRight, UInt64.toBitVec_toInt64, UInt64.toBitVec_shiftRight]
  apply BitVec.eq_of_getLsbD_eq
  intro i hi
  rw [BitVec.getLsbD_and, BitVec.getLsbD_and]
  have z : ∀ i, i < 64 → (31 : Int64).toBitVec.getLsbD i = decide (i < 5) := by decide +kernel
  rw [z i hi]
  by_cases h8 : i < 5
  · have e1 : x.toBitVec.sshiftRight' ((((5 : Int32) * (nI k)).toInt64 &&& 63).toBitVec.smod 64) = x.toBitVec.sshiftRight (5 * k) := by
      show x.toBitVec.sshiftRight _ = _
      rw [(e k hk).1]
    have e2 : x.toUInt64.toBitVec >>> ((((5 : Int32) * (nI k)).toInt64.toUInt64 &&& Int64.toUInt64 63).toBitVec % 64) = x.toBitVec >>> (5 * k) := by
      show x.toBitVec >>> ((((5 : Int32) * (nI k)).toInt64.toUInt64 &&& Int64.toUInt64 63).toBitVec % 64) = _
      rw [BitVec.ushiftRight_eq', BitVec.toNat_umod]
      congr 1
      exact (e k hk).2
    rw [e1, e2, BitVec.getLsbD_sshiftRight, BitVec.getLsbD_ushiftRight, if_pos (by omega), decide_eq_false (show ¬ 64 ≤ i by omega), Bool.not_false, Bool.true_and]
  · rw [decide_eq_false h8, Bool.and_false, Bool.and_false]
def jo5 (s : SS) (b : Nat → Nat) (k : Nat) : Bool := decide (b k < s 0 1) && !anyN (fun j => decide (b j = b k)) k
theorem b9_sh : ∀ x, x < 512 → ∀ n, n < 10 → ((nI x).toUInt32 >>> ((nI n).toUInt32 &&& Int32.toUInt32 31)).toInt32 = nI (x / 2 ^ n) ∧ nI x >>> (nI n &&& 31) = nI (x / 2 ^ n) := by decide +kernel
section OR7
variable {s : SS} {h : HS}
theorem sackC (E : EV s h) {b : Nat} (hb : b < 32) : p86 h (nI b) = some (b2 (decide (b < s 0 1))) := by
  have b1 := E.cn.b1
  unfold p86
  rw [E.cn.c1]
  rcases ixc (nI b) (s 0 1) (by omega) with ⟨h1, -, h3⟩ | ⟨i, hi, e, h1, -⟩
  · have nb : ¬ b < s 0 1 := fun z => h3 b z rfl
    rw [h1, decide_eq_false nb]; rfl
  · have eb : b = i := (nI_eq (by omega) (by omega)).mp e
    subst eb
    rw [h1, decide_eq_true hi]; rfl
theorem up5I {a : Int32} {b : Nat → Nat} {F n : Nat} {x : Int64} {K : HS → Int32 → Option (Int32 × HS)} (hb : ∀ k, b k < 32) (hn : n < 9) (hr : ∀ k, k < n + 1 → hI h 81 k = nI (b k)) : ∀ (m j : Nat), j ≤ n → n - j < m → anyN (fun i => decide (b i = b n)) j = false → p77_L49 F a x K m h (nI n) (nI j) = if anyN (fun i => decide (b i = b n)) n then some (0, h) else K h (nI (n + 1)) := by
  intro m
  induction m with
  | zero => intro j _ z; omega
  | succ m ih =>
    intro j hj hm ha
    have q1 := hb j
    have q2 := hb n
    rw [p77_L49]
    by_cases hlt : j < n
    · rw [if_pos (nI_lt hlt (by omega)), if_neg (nI_in (by omega) (by decide)), if_neg (nI_in (by omega) (by decide)), nI_clamp (by omega), nI_clamp (by omega), hr j (by omega), hr n (by omega), nI_1 j]
      by_cases he : b j = b n
      · rw [he, if_pos rfl, if_pos (anyN_iff.mpr ⟨j, hlt, decide_eq_true he⟩)]
      · rw [if_neg (fun z => he ((nI_eq (by omega) (by omega)).mp z)), ih (j + 1) (by omega) (by omega) (by rw [anyN_s, ha, decide_eq_false he]; rfl)]
    · have : j = n := by omega
      subst this
      rw [if_neg Int32.lt_irrefl, ha, if_neg (by decide), nI_1]
theorem up5J {a : Int32} {b : Nat → Nat} {F n : Nat} {x : Int64} {K : HS → Int32 → Option (Int64 × HS)} (hb : ∀ k, b k < 32) (hn : n < 9) (hr : ∀ k, k < n + 1 → hI h 156 k = nI (b k)) : ∀ (m j : Nat), j ≤ n → n - j < m → anyN (fun i => decide (b i = b n)) j = false → p303_L62 F a x K m h (nI n) (nI j) = if anyN (fun i => decide (b i = b n)) n then some (-1, h) else K h (nI (n + 1)) := by
  intro m
  induction m with
  | zero => intro j _ z; omega
  | succ m ih =>
    intro j hj hm ha
    have q1 := hb j
    have q2 := hb n
    rw [p303_L62]
    by_cases hlt : j < n
    · rw [if_pos (nI_lt hlt (by omega)), if_neg (nI_in (by omega) (by decide)), if_neg (nI_in (by omega) (by decide)), nI_clamp (by omega), nI_clamp (by omega), hr j (by omega), hr n (by omega), nI_1 j]
      by_cases he : b j = b n
      · rw [he, if_pos rfl, if_pos (anyN_iff.mpr ⟨j, hlt, decide_eq_true he⟩)]
      · rw [if_neg (fun z => he ((nI_eq (by omega) (by omega)).mp z)), ih (j + 1) (by omega) (by omega) (by rw [anyN_s, ha, decide_eq_false he]; rfl)]
    · have : j = n := by omega
      subst this
      rw [if_neg Int32.lt_irrefl, ha, if_neg (by decide), nI_1]
theorem up5C {x : Int64} {n F : Nat} (E : EV s h) (hn : n ≤ 9) (hF : 20 ≤ F) : ∀ (m i : Nat) (g : HS), i ≤ n → n - i < m → FR [81] [] nD h g → (∀ k, k < i → hI g 81 k = nI (by5 x k)) → (∀ k, k < i → jo5 s (by5 x) k = true) → ∃ g', FR [81] [] nD h g' ∧ ((p77_L3 F (nI n) x m g (nI i) = some (0, g') ∧ ∃ k, k < n ∧ jo5 s (by5 x) k = false) ∨ (p77_L3 F (nI n) x m g (nI i) = some (1, g') ∧ (∀ k, k < n → jo5 s (by5 x) k = true) ∧ ∀ k, k < n → hI g' 81 k = nI (by5 x k))) := by
  have hb : ∀ k, by5 x k < 32 := fun k => by unfold by5; omega
  intro m
  induction m with
  | zero => intro i g _ z; omega
  | succ m ih =>
    intro i g hi hm hf hr ho
    rw [p77_L3]
    by_cases hlt : i < n
    · have hq := hb i
      rw [if_pos (nI_lt hlt (by omega)), if_neg (nI_in (by omega) (by decide)), nI_clamp (by omega), by5_C x i (by omega), ob, if_neg (nI_in' (by omega) (by decide)), hI_s]
      have f2 : FR [81] [] nD h (hsI g 81 i (nI (by5 x i))) := hf.sI (Or.inl (by decide))
      have E2 : EV s (hsI g 81 i (nI (by5 x i))) := E.fr f2 (by decide) evD_n
      have er : ∀ k, k < i + 1 → hI (hsI g 81 i (nI (by5 x i))) 81 k = nI (by5 x k) := fun k hk => by
        by_cases z : k = i
        · subst z; exact hI_s _ _ _ _
        · exact (hI_sk z).trans (hr k (by omega))
      rw [sackC E2 hq, ob, b2_if]
      have jo : jo5 s (by5 x) i = (decide (by5 x i < s 0 1) && !anyN (fun j => decide (by5 x j = by5 x i)) i) := rfl
      cases hz : decide (by5 x i < s 0 1) with
      | false =>
        rw [if_neg (by decide)]
        exact ⟨_, f2, Or.inl ⟨rfl, i, hlt, by rw [jo, hz]; rfl⟩⟩
      | true =>
        rw [if_pos rfl, show (0 : Int32) = nI 0 from rfl, up5I hb (by omega) er F 0 (by omega) (by omega) rfl]
        cases ha : anyN (fun j => decide (by5 x j = by5 x i)) i
        · rw [if_neg (by decide)]
          exact ih (i + 1) _ (by omega) (by omega) f2 er (fun k hk => by
            by_cases z : k = i
            · subst z; rw [jo, hz, ha]; rfl
            · exact ho k (by omega))
        · rw [if_pos rfl]
          exact ⟨_, f2, Or.inl ⟨rfl, i, hlt, by rw [jo, hz, ha]; rfl⟩⟩
    · have : i = n := by omega
      subst this
      rw [if_neg Int32.lt_irrefl]
      exact ⟨g, hf, Or.inr ⟨rfl, ho, hr⟩⟩
theorem up5M {x : Int64} {n F : Nat} (E : EM s h) (hn : n ≤ 9) (hF : 20 ≤ F) : ∀ (m i : Nat) (g : HS), i ≤ n → n - i < m → FR [156] [] nD h g → (∀ k, k < i → hI g 156 k = nI (by5 x k)) → (∀ k, k < i → jo5 s (by5 x) k = true) → ∃ g', FR [156] [] nD h g' ∧ ((p303_L17 F (nI n) x m g (nI i) = some (-1, g') ∧ ∃ k, k < n ∧ jo5 s (by5 x) k = false) ∨ (p303_L17 F (nI n) x m g (nI i) = p303_L105 F (nI n) x F g' 0 ∧ (∀ k, k < n → jo5 s (by5 x) k = true) ∧ ∀ k, k < n → hI g' 156 k = nI (by5 x k))) := by
  have hb : ∀ k, by5 x k < 32 := fun k => by unfold by5; omega
  have b1 := E.b1
  intro m
  induction m with
  | zero => intro i g _ z; omega
  | succ m ih =>
    intro i g hi hm hf hr ho
    rw [p303_L17]
    by_cases hlt : i < n
    · have hq := hb i
      rw [if_pos (nI_lt hlt (by omega)), if_neg (nI_in (by omega) (by decide)), nI_clamp (by omega), by5_M x i (by omega), ob, if_neg (nI_in' (by omega) (by decide)), hI_s]
      have f2 : FR [156] [] nD h (hsI g 156 i (nI (by5 x i))) := hf.sI (Or.inl (by decide))
      have E2 : EM s (hsI g 156 i (nI (by5 x i))) := E.fr f2 (by decide)
      have er : ∀ k, k < i + 1 → hI (hsI g 156 i (nI (by5 x i))) 156 k = nI (by5 x k) := fun k hk => by
        by_cases z : k = i
        · subst z; exact hI_s _ _ _ _
        · exact (hI_sk z).trans (hr k (by omega))
      rw [E2.m1]
      have jo : jo5 s (by5 x) i = (decide (by5 x i < s 0 1) && !anyN (fun j => decide (by5 x j = by5 x i)) i) := rfl
      by_cases hz : by5 x i < s 0 1
      · rw [if_pos (nI_lt hz (by omega)), show (0 : Int32) = nI 0 from rfl, up5J hb (by omega) er F 0 (by omega) (by omega) rfl]
        cases ha : anyN (fun j => decide (by5 x j = by5 x i)) i
        · rw [if_neg (by decide)]
          exact ih (i + 1) _ (by omega) (by omega) f2 er (fun k hk => by
            by_cases z : k = i
            · subst z; rw [jo, decide_eq_true hz, ha]; rfl
            · exact ho k (by omega))
        · rw [if_pos rfl]
          exact ⟨_, f2, Or.inl ⟨rfl, i, hlt, by rw [jo, ha, Bool.not_true, Bool.and_false]⟩⟩
      · rw [if_neg (nI_nlt (by omega) (by omega))]
        exact ⟨_, f2, Or.inl ⟨rfl, i, hlt, by rw [jo, decide_eq_false hz, Bool.false_and]⟩⟩
    · have : i = n := by omega
      subst this
      rw [if_neg Int32.lt_irrefl]
      exact ⟨g, hf, Or.inr ⟨rfl, ho, hr⟩⟩
/-- askers who need a sack that is not of the list -/
def nfar (h : HS) (n a : Nat) : Bool := decide (¬ ndf h a / 2 ^ n = 0)
theorem neC (E : EV s h) (O : ORa s h) (R : RWc h) {n : Nat} (hn : n ≤ 9) (F : Nat) : ∀ (m i f : Nat), i + m = s 0 13 → m < f → anyN (nfar h n) i = false → p78_L2 F (nI n) f h (nI i) = some (if anyN (nfar h n) (s 0 13) then 0 else 1) := by
  have b13 := E.cn.b13
  have r78 : hI h 78 = hI h 154 := R.2.2.2.2.2.2.2.2.2.1
  intro m
  induction m with
  | zero =>
    intro i f hi hf ha
    obtain ⟨f, rfl⟩ : ∃ n', f = n' + 1 := ⟨f - 1, by omega⟩
    have e : i = s 0 13 := by omega
    subst e
    rw [p78_L2, E.cn.c13, if_neg Int32.lt_irrefl, ha]
    rfl
  | succ m ih =>
    intro i f hi hf ha
    obtain ⟨f, rfl⟩ : ∃ n', f = n' + 1 := ⟨f - 1, by omega⟩
    obtain ⟨e1, x1, -⟩ := nd_v O (a := i) (by omega)
    have dl : ndf h i / 2 ^ n ≤ ndf h i := Nat.div_le_self _ _
    rw [p78_L2, E.cn.c13, if_pos (nI_lt (by omega) (by omega)), if_neg (nI_in (by omega) (by decide)), nI_clamp (by omega), r78, e1, (b9_sh _ (by omega) n (by omega)).1, nI_1]
    by_cases z : ndf h i / 2 ^ n = 0
    · rw [if_pos (show nI (ndf h i / 2 ^ n) = 0 by rw [z]; rfl)]
      have nz : ¬ ¬ ndf h i / 2 ^ n = 0 := fun y => y z
      exact ih (i + 1) f (by omega) (by omega) (by rw [anyN_s, ha]; unfold nfar; rw [decide_eq_false nz]; rfl)
    · rw [if_neg (nI_ne0 (Nat.pos_of_ne_zero z) (by omega)), anyN_iff.mpr ⟨i, by omega, decide_eq_true z⟩]
      rfl
theorem neM (E : EM s h) (O : ORa s h) {n : Nat} (hn : n ≤ 9) {F : Nat} {x : Int64} : ∀ (m i f : Nat), i + m = s 0 13 → m < f → anyN (nfar h n) i = false → p303_L105 F (nI n) x f h (nI i) = if anyN (nfar h n) (s 0 13) then some (-1, h) else p303_L139 F (nI n) x F h 0 := by
  have b13 := E.b13
  intro m
  induction m with
  | zero =>
    intro i f hi hf ha
    obtain ⟨f, rfl⟩ : ∃ n', f = n' + 1 := ⟨f - 1, by omega⟩
    have e : i = s 0 13 := by omega
    subst e
    rw [p303_L105, E.m13, if_neg Int32.lt_irrefl, ha]
    rfl
  | succ m ih =>
    intro i f hi hf ha
    obtain ⟨f, rfl⟩ : ∃ n', f = n' + 1 := ⟨f - 1, by omega⟩
    obtain ⟨e1, x1, -⟩ := nd_v O (a := i) (by omega)
    have dl : ndf h i / 2 ^ n ≤ ndf h i := Nat.div_le_self _ _
    rw [p303_L105, E.m13, if_pos (nI_lt (by omega) (by omega)), if_neg (nI_in (by omega) (by decide)), nI_clamp (by omega), e1, (b9_sh _ (by omega) n (by omega)).2, nI_1]
    by_cases z : ndf h i / 2 ^ n = 0
    · rw [if_pos (show nI (ndf h i / 2 ^ n) = 0 by rw [z]; rfl)]
      have nz : ¬ ¬ ndf h i / 2 ^ n = 0 := fun y => y z
      exact ih (i + 1) f (by omega) (by omega) (by rw [anyN_s, ha]; unfold nfar; rw [decide_eq_false nz]; rfl)
    · rw [if_neg (nI_ne0 (Nat.pos_of_ne_zero z) (by omega)), anyN_iff.mpr ⟨i, by omega, decide_eq_true z⟩]
      rfl
end OR7
