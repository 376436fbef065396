/-! counts over places; sets of persons as bits of a long -/
def cnt (P : Nat → Bool) : Nat → Nat
  | 0 => 0
  | n + 1 => cnt P n + (if P n then 1 else 0)
def anyN (P : Nat → Bool) : Nat → Bool
  | 0 => false
  | n + 1 => anyN P n || P n
/-- the first place below n, n if none -/
def fsN (P : Nat → Bool) : Nat → Nat
  | 0 => 0
  | n + 1 => if fsN P n < n then fsN P n else if P n then n else n + 1
theorem cnt_le (P : Nat → Bool) (n : Nat) : cnt P n ≤ n := by
  induction n with
  | zero => exact Nat.le_refl 0
  | succ n ih => unfold cnt; split <;> omega
theorem cnt_congr {P Q : Nat → Bool} {n : Nat} (h : ∀ i, i < n → P i = Q i) : cnt P n = cnt Q n := by
  induction n with
  | zero => rfl
  | succ n ih => unfold cnt; rw [ih (fun i hi => h i (by omega)), h n (by omega)]
theorem cnt_add (P : Nat → Bool) (a b : Nat) : cnt P (a + b) = cnt P a + cnt (fun i => P (a + i)) b := by
  induction b with
  | zero => rfl
  | succ b ih => rw [← Nat.add_assoc]; show cnt P (a + b) + _ = _; rw [ih]; exact Nat.add_assoc _ _ _
theorem cnt_false {P : Nat → Bool} {n : Nat} (h : ∀ i, i < n → P i = false) : cnt P n = 0 := by
  induction n with
  | zero => rfl
  | succ n ih => unfold cnt; rw [ih (fun i hi => h i (by omega)), h n (by omega)]; rfl
theorem cnt_zero {P : Nat → Bool} {n : Nat} (h : cnt P n = 0) : ∀ i, i < n → P i = false := by
  induction n with
  | zero => intro i hi; omega
  | succ n ih =>
    unfold cnt at h
    intro i hi
    have h1 : cnt P n = 0 := by omega
    have h2 : P n = false := by
      cases hp : P n with
      | false => rfl
      | true => rw [hp] at h; simp at h
    rcases Nat.lt_or_ge i n with z | z
    · exact ih h1 i z
    · rw [show i = n by omega]; exact h2
theorem anyN_iff {P : Nat → Bool} {n : Nat} : anyN P n = true ↔ ∃ i, i < n ∧ P i = true := by
  induction n with
  | zero => simp [anyN]
  | succ n ih =>
    unfold anyN
    rw [Bool.or_eq_true, ih]
    constructor
    · rintro (⟨i, hi, hp⟩ | hp)
      · exact ⟨i, by omega, hp⟩
      · exact ⟨n, by omega, hp⟩
    · rintro ⟨i, hi, hp⟩
      rcases Nat.lt_or_ge i n with z | z
      · exact Or.inl ⟨i, z, hp⟩
      · rw [show i = n by omega] at hp; exact Or.inr hp
theorem anyN_false {P : Nat → Bool} {n : Nat} : anyN P n = false ↔ ∀ i, i < n → P i = false := by
  constructor
  · intro h i hi
    cases hp : P i with
    | false => rfl
    | true => rw [anyN_iff.mpr ⟨i, hi, hp⟩] at h; cases h
  · intro h
    cases ha : anyN P n with
    | false => rfl
    | true => obtain ⟨i, hi, hp⟩ := anyN_iff.mp ha; rw [h i hi] at hp; cases hp
theorem fsN_le (P : Nat → Bool) (n : Nat) : fsN P n ≤ n := by
  induction n with
  | zero => exact Nat.le_refl 0
  | succ n ih => unfold fsN; split <;> (try split) <;> omega
theorem fsN_spec {P : Nat → Bool} {n : Nat} : (fsN P n < n → P (fsN P n) = true) ∧ ∀ j, j < fsN P n → P j = false := by
  induction n with
  | zero => exact ⟨fun h => by unfold fsN at h; omega, fun j hj => by unfold fsN at hj; omega⟩
  | succ n ih =>
    unfold fsN
    by_cases h : fsN P n < n
    · rw [if_pos h]
      exact ⟨fun _ => ih.1 h, ih.2⟩
    · rw [if_neg h]
      have h2 : fsN P n = n := by have := fsN_le P n; omega
      rw [h2] at ih
      by_cases hp : P n = true
      · rw [if_pos hp]
        exact ⟨fun _ => hp, ih.2⟩
      · rw [if_neg hp]
        refine ⟨fun z => absurd z (Nat.lt_irrefl _), fun j hj => ?_⟩
        rcases Nat.lt_or_ge j n with z | z
        · exact ih.2 j z
        · rw [show j = n by omega]; simpa using hp
theorem fsN_first {P : Nat → Bool} {n i : Nat} (hi : i < n) (hp : P i = true) (hb : ∀ j, j < i → P j = false) : fsN P n = i := by
  have h := fsN_spec (P := P) (n := n)
  rcases Nat.lt_trichotomy (fsN P n) i with z | z | z
  · have h1 := h.1 (by omega)
    rw [hb _ z] at h1
    cases h1
  · exact z
  · have h1 := h.2 i z
    rw [hp] at h1
    cases h1
theorem fsN_none {P : Nat → Bool} {n : Nat} (hb : ∀ j, j < n → P j = false) : fsN P n = n := by
  have h := fsN_spec (P := P) (n := n)
  have h2 := fsN_le P n
  rcases Nat.lt_or_ge (fsN P n) n with z | z
  · have h1 := h.1 z
    rw [hb _ z] at h1
    cases h1
  · omega
theorem fsN_none_iff {P : Nat → Bool} {n : Nat} : fsN P n = n ↔ ∀ j, j < n → P j = false := ⟨fun e j hj => (fsN_spec (P := P) (n := n)).2 j (by omega), fsN_none⟩
theorem fsN_congr {P Q : Nat → Bool} {n : Nat} (h : ∀ i, i < n → P i = Q i) : fsN P n = fsN Q n := by
  induction n with
  | zero => rfl
  | succ n ih => unfold fsN; rw [ih (fun i hi => h i (by omega)), h n (by omega)]
def b2 (b : Bool) : Int32 := if b then 1 else 0
theorem b2_t : b2 true = 1 := rfl
theorem b2_f : b2 false = 0 := rfl
/-- a place as Java tells it: -1 for none -/
def opI (n k : Nat) : Int32 := if k < n then nI k else -1
theorem ob {α β : Type} (a : α) (f : α → Option β) : Option.bind (some a) f = f a := Eq.trans rfl rfl
/-! bits of a long -/
def b6 (x : Int64) (q : Nat) : Bool := x.toBitVec.getLsbD q
theorem b6_ext {x y : Int64} (h : ∀ q, q < 64 → b6 x q = b6 y q) : x = y := by
  apply Int64.toBitVec_inj.1
  apply BitVec.eq_of_getLsbD_eq
  intro i hi
  exact h i hi
theorem b6_big {x : Int64} {q : Nat} (h : 64 ≤ q) : b6 x q = false := BitVec.getLsbD_of_ge _ _ h
theorem b6_and (x y : Int64) (q : Nat) : b6 (x &&& y) q = (b6 x q && b6 y q) := by
  unfold b6; rw [Int64.toBitVec_and, BitVec.getLsbD_and]
theorem b6_or (x y : Int64) (q : Nat) : b6 (x ||| y) q = (b6 x q || b6 y q) := by
  unfold b6; rw [Int64.toBitVec_or, BitVec.getLsbD_or]
theorem b6_xor (x y : Int64) (q : Nat) : b6 (x ^^^ y) q = (b6 x q ^^ b6 y q) := by
  unfold b6; rw [Int64.toBitVec_xor, BitVec.getLsbD_xor]
theorem b6_m1 : ∀ q, q < 64 → b6 (-1) q = true := by decide +kernel
theorem b6_not {x : Int64} {q : Nat} (h : q < 64) : b6 (x ^^^ (-1)) q = !b6 x q := by
  rw [b6_xor, b6_m1 q h, Bool.xor_true]
theorem b6_0 (q : Nat) : b6 0 q = false := by
  unfold b6
  exact BitVec.getLsbD_zero
theorem b6_1s : ∀ k, k < 64 → ((1 : Int64) <<< ((nI k).toInt64 &&& 63)).toBitVec = BitVec.twoPow 64 k := by decide +kernel
theorem b6_sh {k : Nat} (hk : k < 64) (q : Nat) : b6 ((1 : Int64) <<< ((nI k).toInt64 &&& 63)) q = decide (q = k) := by
  unfold b6
  rw [b6_1s k hk, BitVec.getLsbD_twoPow]
  by_cases e : q = k
  · subst e; simp [hk]
  · have e2 : ¬ k = q := fun z => e z.symm
    simp [e, e2]
theorem b6_cu : ∀ k, k < 64 → ((nI k).toInt64.toUInt64 &&& Int64.toUInt64 63).toNat = k := by decide +kernel
theorem lg0 (u : Int64) : (lg_cmp u 0 = 0) = (u = 0) := by
  apply propext
  unfold lg_cmp
  by_cases h : u > 0
  · rw [if_pos h]
    constructor
    · intro z; exact absurd z (by decide)
    · intro z; subst z; exact absurd h (by decide)
  · rw [if_neg h]
    by_cases e : u = 0
    · simp [e]
    · rw [if_neg e]
      constructor
      · intro z; exact absurd z (by decide)
      · intro z; exact absurd z e
theorem b6_tst {w : Int64} {k : Nat} (hk : k < 64) : (lg_cmp ((w.toUInt64 >>> ((nI k).toInt64.toUInt64 &&& Int64.toUInt64 63)).toInt64 &&& 1) 0 = 0) = (b6 w k = false) := by
  rw [lg0]
  apply propext
  have e : ∀ y : UInt64, y.toNat = k → (((w.toUInt64 >>> y).toInt64 &&& 1) = 0 ↔ b6 w k = false) := by
    intro y hy
    constructor
    · intro h
      have h2 : b6 ((w.toUInt64 >>> y).toInt64 &&& 1) 0 = false := by rw [h]; exact b6_0 0
      rw [b6_and] at h2
      have h3 : b6 1 0 = true := by decide
      rw [h3, Bool.and_true] at h2
      have h4 : b6 (w.toUInt64 >>> y).toInt64 0 = b6 w k := by
        unfold b6
        show (w.toUInt64 >>> y).toBitVec.getLsbD 0 = w.toBitVec.getLsbD k
        rw [UInt64.toBitVec_shiftRight]
        show (w.toBitVec >>> (y.toBitVec % 64#64)).getLsbD 0 = _
        have : (y.toBitVec % 64#64).toNat = k := by
          rw [BitVec.toNat_umod]
          show y.toNat % 64 = k
          rw [hy]; exact Nat.mod_eq_of_lt hk
        rw [BitVec.ushiftRight_eq', this, BitVec.getLsbD_ushiftRight, Nat.add_zero]
      rw [h4] at h2
      exact h2
    · intro h
      apply b6_ext
      intro q hq
      rw [b6_and, b6_0]
      have h1 : ∀ q, q < 64 → b6 1 q = decide (q = 0) := by decide +kernel
      rw [h1 q hq]
      by_cases e : q = 0
      · subst e
        have h4 : b6 (w.toUInt64 >>> y).toInt64 0 = b6 w k := by
          unfold b6
          show (w.toUInt64 >>> y).toBitVec.getLsbD 0 = w.toBitVec.getLsbD k
          rw [UInt64.toBitVec_shiftRight]
          show (w.toBitVec >>> (y.toBitVec % 64#64)).getLsbD 0 = _
          have : (y.toBitVec % 64#64).toNat = k := by
            rw [BitVec.toNat_umod]
            show y.toNat % 64 = k
            rw [hy]; exact Nat.mod_eq_of_lt hk
          rw [BitVec.ushiftRight_eq', this, BitVec.getLsbD_ushiftRight, Nat.add_zero]
        rw [h4, h]; rfl
      · simp [e]
  exact e _ (b6_cu k hk)
theorem b6_tstT {w : Int64} {k : Nat} (hk : k < 64) : (lg_cmp ((w.toUInt64 >>> ((nI k).toInt64.toUInt64 &&& Int64.toUInt64 63)).toInt64 &&& 1) 0 = 0) = ¬ (b6 w k = true) := by
  rw [b6_tst hk, Bool.not_eq_true]
/-- everybody -/
theorem b6_all : ∀ n, n < 61 → ∀ q, q < 64 → b6 (((1 : Int64) <<< ((nI n).toInt64 &&& 63)) - 1) q = decide (q < n) := by decide +kernel
theorem lg_sub0 (u v : Int64) : (lg_cmp u v = 0) = (u = v) := by
  apply propext
  unfold lg_cmp
  by_cases h : u > v
  · rw [if_pos h]
    constructor
    · intro z; exact absurd z (by decide)
    · intro z; subst z; exact (Int64.lt_irrefl h).elim
  · rw [if_neg h]
    by_cases e : u = v
    · simp [e]
    · rw [if_neg e]
      constructor
      · intro z; exact absurd z (by decide)
      · intro z; exact absurd z e
