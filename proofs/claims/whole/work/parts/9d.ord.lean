/-! the order of sacks: what is reckoned; the class's rows -/
def sumN (f : Nat → Nat) : Nat → Nat
  | 0 => 0
  | m + 1 => sumN f m + f m
theorem sumN_le {f : Nat → Nat} {B : Nat} : ∀ m, (∀ i, i < m → f i ≤ B) → sumN f m ≤ B * m := by
  intro m
  induction m with
  | zero => intro _; exact Nat.le_refl _
  | succ m ih =>
    intro h
    have := ih (fun i hi => h i (by omega))
    have := h m (by omega)
    rw [sumN, Nat.mul_add]
    omega
theorem sumN_cg {f g : Nat → Nat} : ∀ m, (∀ i, i < m → f i = g i) → sumN f m = sumN g m := by
  intro m
  induction m with
  | zero => intro _; rfl
  | succ m ih => intro h; rw [sumN, sumN, ih (fun i hi => h i (by omega)), h m (by omega)]
theorem sumN_add {f g k : Nat → Nat} : ∀ m, (∀ i, i < m → f i = g i + k i) → sumN f m = sumN g m + sumN k m := by
  intro m
  induction m with
  | zero => intro _; rfl
  | succ m ih => intro h; rw [sumN, sumN, sumN, ih (fun i hi => h i (by omega)), h m (by omega)]; omega
theorem sumN_mul {f g : Nat → Nat} {c : Nat} : ∀ m, (∀ i, i < m → f i = g i * c) → sumN f m = sumN g m * c := by
  intro m
  induction m with
  | zero => intro _; exact (Nat.zero_mul c).symm
  | succ m ih => intro h; rw [sumN, sumN, ih (fun i hi => h i (by omega)), h m (by omega), Nat.add_mul]
def subB (x y : Nat) : Bool := decide ((nI x &&& (nI y ^^^ (-1 : Int32))) = 0)
def hrs (H : Nat → Nat) (n t : Nat) : Nat := sumN (fun i => if t.testBit i then H i else 0) n
def srv (nd wt : Nat → Nat) (A t : Nat) : Nat := sumN (fun a => if subB (nd a) t then wt a else 0) A
def cst (H nd wt : Nat → Nat) (n A t k : Nat) : Nat := sumN (fun a => if subB (nd a) t && (nd a).testBit k then wt a * hrs H n t else 0) A
theorem b9_or : ∀ t, t < 512 → ∀ i, i < 9 → nI t ||| ((1 : Int32) <<< (nI i &&& 31)) = nI (t ||| 2 ^ i) ∧ t ||| 2 ^ i < 512 ∧ (t.testBit i = false → t < t ||| 2 ^ i) := by decide +kernel
theorem b9_bt : ∀ t, t < 512 → ∀ i, i < 9 → bt (nI t) i = t.testBit i ∧ ((nI t).toUInt32 >>> ((nI i).toUInt32 &&& Int32.toUInt32 31)).toInt32 &&& 1 = (if t.testBit i then 1 else 0) ∧ ((nI t >>> (nI i &&& 31)) &&& 1) = (if t.testBit i then 1 else 0) := by decide +kernel
theorem b9_big : ∀ t, t < 512 → ∀ q, q < 32 → bt (nI t) q = t.testBit q := by decide +kernel
theorem b9_pw : ∀ n, n < 10 → (1 : Int32) <<< (nI n &&& 31) = nI (2 ^ n) ∧ 2 ^ n ≤ 512 ∧ 0 < 2 ^ n := by decide +kernel
theorem b9_in : ∀ n, n < 10 → ∀ t, t < 2 ^ n → ∀ i, i < n → t ||| 2 ^ i < 2 ^ n := by decide +kernel
theorem b9_full : ∀ n, n < 10 → ∀ t, t < 2 ^ n → (∀ i, i < n → t.testBit i = true) → t = 2 ^ n - 1 := by decide +kernel
theorem b9_hi : ∀ n, n < 10 → ∀ t, t < 2 ^ n → ∀ i, i < 9 → (n ≤ i → t.testBit i = false) := by decide +kernel
theorem bt_m1 : ∀ q, q < 32 → bt (-1) q = true := by decide +kernel
theorem bt_xor (x y : Int32) (q : Nat) : bt (x ^^^ y) q = (bt x q ^^ bt y q) := by unfold bt; rw [Int32.toBitVec_xor, BitVec.getLsbD_xor]
theorem subB_iff {x y : Nat} (hx : x < 512) (hy : y < 512) : subB x y = true ↔ ∀ q, q < 32 → x.testBit q = true → y.testBit q = true := by
  unfold subB
  rw [decide_eq_true_iff]
  constructor
  · intro h q hq hb
    have z : bt (nI x &&& (nI y ^^^ (-1 : Int32))) q = false := by rw [h]; exact bt_0 q
    rw [bt_and, bt_xor, bt_m1 q hq, b9_big x hx q hq, b9_big y hy q hq, hb, Bool.true_and] at z
    cases hc : y.testBit q with
    | true => rfl
    | false => rw [hc] at z; cases z
  · intro h
    apply bt_ext
    intro q hq
    rw [bt_and, bt_xor, bt_m1 q hq, b9_big x hx q hq, b9_big y hy q hq, bt_0]
    cases hb : x.testBit q with
    | false => rfl
    | true => rw [h q hq hb]; rfl
/-- who is served by one sack more -/
theorem sub_more {x t k : Nat} (hx : x < 512) (ht : t < 512) (hk : k < 9) (hb : t.testBit k = false) : (if subB x (t ||| 2 ^ k) then 1 else 0) = (if subB x (t ||| 2 ^ k) && x.testBit k then 1 else 0) + (if subB x t then (1 : Nat) else 0) := by
  have tb : ∀ q, (t ||| 2 ^ k).testBit q = (t.testBit q || decide (q = k)) := fun q => by
    rw [Nat.testBit_or, Nat.testBit_two_pow]
    congr 1
    by_cases z : k = q
    · subst z; simp
    · have z2 : ¬ q = k := fun y => z y.symm
      simp [z, z2]
  have lt := (b9_or t ht k hk).2.1
  cases hxk : x.testBit k with
  | true =>
    have no : subB x t = false := by
      cases hs : subB x t with
      | false => rfl
      | true => have := (subB_iff hx ht).mp hs k (by omega) hxk; rw [hb] at this; cases this
    rw [no, Bool.and_true]
    simp
  | false =>
    rw [Bool.and_false]
    have e : subB x (t ||| 2 ^ k) = subB x t := by
      cases hs : subB x t with
      | true =>
        refine (subB_iff hx lt).mpr (fun q hq hq2 => ?_)
        rw [tb, (subB_iff hx ht).mp hs q hq hq2, Bool.true_or]
      | false =>
        cases hs2 : subB x (t ||| 2 ^ k) with
        | false => rfl
        | true =>
          have : subB x t = true := (subB_iff hx ht).mpr (fun q hq hq2 => by
            have := (subB_iff hx lt).mp hs2 q hq hq2
            rw [tb] at this
            by_cases z : q = k
            · subst z; rw [hxk] at hq2; cases hq2
            · rw [decide_eq_false z, Bool.or_false] at this; exact this)
          rw [this] at hs
          cases hs
    rw [e]
    simp
theorem cst_eq {H nd wt : Nat → Nat} {n A t k : Nat} (hnd : ∀ a, a < A → nd a < 512) (ht : t < 512) (hk : k < 9) (hb : t.testBit k = false) : srv nd wt A (t ||| 2 ^ k) = sumN (fun a => if subB (nd a) (t ||| 2 ^ k) && (nd a).testBit k then wt a else 0) A + srv nd wt A t ∧ cst H nd wt n A (t ||| 2 ^ k) k = sumN (fun a => if subB (nd a) (t ||| 2 ^ k) && (nd a).testBit k then wt a else 0) A * hrs H n (t ||| 2 ^ k) := by
  constructor
  · refine sumN_add A (fun a ha => ?_)
    have := sub_more (hnd a ha) ht hk hb
    cases h1 : subB (nd a) (t ||| 2 ^ k) <;> cases h2 : (nd a).testBit k <;> cases h3 : subB (nd a) t <;> rw [h1, h2, h3] at this <;> simp at this ⊢
  · refine sumN_mul A (fun a _ => ?_)
    show (if _ then _ else _) = (if _ then _ else _) * _
    split
    · rfl
    · rw [Nat.zero_mul]
/-- the least rest, sack by sack -/
def mnO (H nd wt : Nat → Nat) (n A : Nat) (R : Nat → Nat) (t : Nat) : Nat → Option Nat
  | 0 => none
  | k + 1 => if t.testBit k then mnO H nd wt n A R t k else some (match mnO H nd wt n A R t k with
    | none => cst H nd wt n A (t ||| 2 ^ k) k + R (t ||| 2 ^ k)
    | some m => min m (cst H nd wt n A (t ||| 2 ^ k) k + R (t ||| 2 ^ k)))
def stpo (H nd wt : Nat → Nat) (n A : Nat) (R : Nat → Nat) (t : Nat) : Nat := (mnO H nd wt n A R t n).getD 0
/-- the table, from the full set down -/
def Rt (H nd wt : Nat → Nat) (n A : Nat) : Nat → Nat → Nat
  | 0 => fun _ => 0
  | j + 1 => u1 (Rt H nd wt n A j) (2 ^ n - 1 - j) (stpo H nd wt n A (Rt H nd wt n A j) (2 ^ n - 1 - j))
def BIG : Nat := 20000000
theorem cst_le {H nd wt : Nat → Nat} {n A t k : Nat} (hn : n ≤ 9) (hA : A ≤ 12) (hH : ∀ i, i < n → H i ≤ 999) (hw : ∀ a, a < A → wt a ≤ 99) : cst H nd wt n A t k ≤ BIG ∧ hrs H n t ≤ 8991 ∧ srv nd wt A t ≤ 1188 := by
  have h1 : hrs H n t ≤ 999 * n := sumN_le n (fun i hi => by
    show (if _ then _ else _) ≤ _
    have := hH i hi
    split <;> omega)
  have h2 : cst H nd wt n A t k ≤ 99 * 8991 * A := sumN_le A (fun a ha => by
    show (if _ then _ else _) ≤ _
    have := hw a ha
    split
    · exact Nat.mul_le_mul this (by omega)
    · omega)
  have h3 : srv nd wt A t ≤ 99 * A := sumN_le A (fun a ha => by
    show (if _ then _ else _) ≤ _
    have := hw a ha
    split <;> omega)
  unfold BIG
  refine ⟨by omega, by omega, by omega⟩
theorem mnO_le {H nd wt : Nat → Nat} {n A t : Nat} {R : Nat → Nat} (hn : n ≤ 9) (hA : A ≤ 12) (hH : ∀ i, i < n → H i ≤ 999) (hw : ∀ a, a < A → wt a ≤ 99) (ht : t < 2 ^ n) (hR : ∀ u, t < u → u < 2 ^ n → R u ≤ BIG * (2 ^ n - u)) : ∀ k, k ≤ n → ∀ m, mnO H nd wt n A R t k = some m → m ≤ BIG * (2 ^ n - t) := by
  intro k
  induction k with
  | zero => intro _ m h; cases h
  | succ k ih =>
    intro hk m h
    rw [mnO] at h
    cases hb : t.testBit k with
    | true => rw [hb, if_pos rfl] at h; exact ih (by omega) m h
    | false =>
      rw [hb, if_neg (by decide)] at h
      have p2 := (b9_pw n (by omega)).2.1
      have o1 := b9_or t (by omega) k (by omega)
      have o2 := b9_in n (by omega) t ht k (by omega)
      have b1 := (cst_le (nd := nd) (t := t ||| 2 ^ k) (k := k) hn hA hH hw).1
      have b2 := hR (t ||| 2 ^ k) (o1.2.2 hb) o2
      have b3 : cst H nd wt n A (t ||| 2 ^ k) k + R (t ||| 2 ^ k) ≤ BIG * (2 ^ n - t) := by
        have : BIG * (2 ^ n - (t ||| 2 ^ k)) + BIG ≤ BIG * (2 ^ n - t) := by
          have e : 2 ^ n - (t ||| 2 ^ k) + 1 ≤ 2 ^ n - t := by have := o1.2.2 hb; omega
          calc BIG * (2 ^ n - (t ||| 2 ^ k)) + BIG = BIG * (2 ^ n - (t ||| 2 ^ k) + 1) := by rw [Nat.mul_add, Nat.mul_one]
            _ ≤ _ := Nat.mul_le_mul_left _ e
        omega
      have h := Option.some.inj h
      subst h
      cases hm : mnO H nd wt n A R t k with
      | none => exact b3
      | some m' => exact Nat.le_trans (Nat.min_le_right _ _) b3
theorem Rt_le {H nd wt : Nat → Nat} {n A : Nat} (hn : n ≤ 9) (hA : A ≤ 12) (hH : ∀ i, i < n → H i ≤ 999) (hw : ∀ a, a < A → wt a ≤ 99) : ∀ j, j ≤ 2 ^ n → ∀ u, 2 ^ n - 1 - j < u → u < 2 ^ n → Rt H nd wt n A j u ≤ BIG * (2 ^ n - u) := by
  intro j
  have p := (b9_pw n (by omega)).2
  induction j with
  | zero => intro _ u _ _; exact Nat.zero_le _
  | succ j ih =>
    intro hj u hu hu2
    rw [Rt]
    by_cases z : u = 2 ^ n - 1 - j
    · subst z
      rw [u1_eq]
      unfold stpo
      cases hm : mnO H nd wt n A (Rt H nd wt n A j) (2 ^ n - 1 - j) n with
      | none => exact Nat.zero_le _
      | some m => exact mnO_le hn hA hH hw hu2 (fun u h1 h2 => ih (by omega) u h1 h2) n (Nat.le_refl _) m hm
    · rw [u1_ne z]
      exact ih (by omega) u (by omega) hu2
theorem lL_toInt {a : Nat} (h : a < 2 ^ 62) : (lN a).toInt = (a : Int) := by
  unfold lN
  exact Int64.toInt_ofNat_of_lt (by omega)
theorem lL_eq {a b : Nat} (ha : a < 2 ^ 62) (hb : b < 2 ^ 62) : (lN a = lN b) = (a = b) := propext ⟨fun h => by have := congrArg Int64.toInt h; rw [lL_toInt ha, lL_toInt hb] at this; omega, fun h => by rw [h]⟩
theorem lL_lt {a b : Nat} (ha : a < 2 ^ 62) (hb : b < 2 ^ 62) : (lN a < lN b) = (a < b) := propext (by rw [Int64.lt_iff_toInt_lt, lL_toInt ha, lL_toInt hb]; omega)
theorem lL_m1 {a : Nat} (ha : a < 2 ^ 62) : ¬ lN a = -1 := fun z => by have := congrArg Int64.toInt z; rw [lL_toInt ha, show (-1 : Int64).toInt = -1 by decide] at this; omega
