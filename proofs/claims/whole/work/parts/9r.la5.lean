/-! laying, the class: what joins what, and what can be hoped for -/
def RB (h : HS) (m : Nat → Nat) (a b how : Nat) : Bool := decide (¬ a = b) && jn h (m a) (m b) how
theorem and1N {x : Int32} {i : Nat} (hi : i < 32) : ((x >>> (nI i &&& 31)) &&& 1) = nI (if bt x i then 1 else 0) := by
  have a := bt_tsA (w := x) hi
  have b := pk_and (x >>> (nI i &&& 31)) (m := 1) 1 (by decide)
  cases e : bt x i
  · rw [e] at a
    rw [if_neg (by decide)]
    exact a.mpr rfl
  · rw [e] at a
    rw [if_pos rfl]
    rcases Nat.mod_two_eq_zero_or_one (x >>> (nI i &&& 31)).toBitVec.toNat with z | z
    · rw [show 2 ^ 1 = 2 from rfl, z] at b
      exact absurd (a.mp b) (by decide)
    · rw [show 2 ^ 1 = 2 from rfl, z] at b
      exact b
def jtG (w k : Nat) : Nat := (if 0 < k % w then 1 else 0) + (if w ≤ k then 1 else 0)
def jtF (w n i : Nat) : Nat := sumN (jtG w) n - sumN (jtG w) i
theorem sumN_mono {f : Nat → Nat} {i j : Nat} (h : i ≤ j) : sumN f i ≤ sumN f j := by
  obtain ⟨d, rfl⟩ : ∃ d, j = i + d := ⟨j - i, by omega⟩
  clear h
  induction d with
  | zero => exact Nat.le_refl _
  | succ d ih => rw [← Nat.add_assoc, sumN]; omega
theorem jtF_O (w n : Nat) : jtO (jtF w n) w n := by
  refine ⟨Nat.sub_self _, fun i hi => ?_⟩
  have a := sumN_mono (f := jtG w) (show i + 1 ≤ n from hi)
  rw [sumN] at a
  show sumN (jtG w) n - sumN (jtG w) i = sumN (jtG w) n - sumN (jtG w) (i + 1) + jtG w i
  rw [sumN]
  omega
theorem jtF_le (w n i : Nat) : jtF w n i ≤ 2 * n := by
  have : sumN (jtG w) n ≤ 2 * n := sumN_le n (fun k _ => by unfold jtG; split <;> split <;> omega)
  unfold jtF
  omega
def hpF (h : HS) (m : Nat → Nat) (n b : Nat) : Nat := (if anyN (fun a => decide (b < n) && RB h m a b 0) n then 1 else 0) + (if anyN (fun a => decide (b < n) && RB h m a b 1) n then 1 else 0)
theorem hpF_O (h : HS) (m : Nat → Nat) (n : Nat) : hpO h m (hpF h m n) n := by
  intro a b c ha hb hc
  have g : ∀ x k, x < n → (if decide (¬ x = b) && jn h (m x) (m b) k then 1 else 0) ≤ (if anyN (fun a => decide (b < n) && RB h m a b k) n then 1 else 0) := by
    intro x k hx
    cases e : (decide (¬ x = b) && jn h (m x) (m b) k)
    · exact Nat.zero_le _
    · rw [if_pos (anyN_iff.mpr ⟨x, hx, by unfold RB; rw [e, decide_eq_true hb]; rfl⟩), if_pos rfl]
      exact Nat.le_refl _
  exact Nat.add_le_add (g a 0 ha) (g c 1 hc)
theorem hpF_le (h : HS) (m : Nat → Nat) (n b : Nat) : hpF h m n b ≤ 2 := by unfold hpF; split <;> split <;> omega
def BT (h : HS) (m : Nat → Nat) (g : HS) (r a b how : Nat) : Prop := ∀ q, q < 32 → bt (hI g r a) q = (decide (q < b) && RB h m a q how)
theorem BT_t {h g : HS} {m : Nat → Nat} {r a b how : Nat} (hb : b < 32) (B : BT h m g r a b how) (e : RB h m a b how = true) : BT h m (hsI g r a (hI g r a ||| ((1 : Int32) <<< (nI b &&& 31)))) r a (b + 1) how := by
  intro q hq
  rw [hsI_s, bt_or, bt_1s b hb q hq, B q hq]
  by_cases z : q = b
  · subst z
    rw [e, decide_eq_true rfl, Bool.or_true, decide_eq_true (by omega)]
    rfl
  · rw [decide_eq_false z, Bool.or_false]
    by_cases y : q < b
    · rw [decide_eq_true y, decide_eq_true (by omega)]
    · rw [decide_eq_false y, decide_eq_false (by omega)]
theorem BT_f {h g : HS} {m : Nat → Nat} {r a b how : Nat} (B : BT h m g r a b how) (e : RB h m a b how = false) : BT h m g r a (b + 1) how := by
  intro q hq
  rw [B q hq]
  by_cases z : q = b
  · subst z
    rw [e, Bool.and_false, Bool.and_false]
  · by_cases y : q < b
    · rw [decide_eq_true y, decide_eq_true (by omega)]
    · rw [decide_eq_false y, decide_eq_false (by omega)]
section LA5
variable {s : SS} {h g0 : HS} {m : Nat → Nat} {n w F : Nat}
def MIn (g0 g : HS) (a : Nat) : Prop := FR [41, 42] [] nD g0 g ∧ ∀ k, ¬ k = a → hI g 41 k = hI g0 41 k ∧ hI g 42 k = hI g0 42 k
theorem MIn.s1 {g : HS} {a : Nat} {v : Int32} (M : MIn g0 g a) : MIn g0 (hsI g 41 a v) a := ⟨M.1.sI (Or.inl (by decide)), fun k hk => ⟨(if_neg (fun z => hk z.2)).trans (M.2 k hk).1, by rw [hsI_n (by decide)]; exact (M.2 k hk).2⟩⟩
theorem MIn.s2 {g : HS} {a : Nat} {v : Int32} (M : MIn g0 g a) : MIn g0 (hsI g 42 a v) a := ⟨M.1.sI (Or.inl (by decide)), fun k hk => ⟨by rw [hsI_n (by decide)]; exact (M.2 k hk).1, (if_neg (fun z => hk z.2)).trans (M.2 k hk).2⟩⟩
def LB (h : HS) (m : Nat → Nat) (n w : Nat) : Prop := hI h 39 1 = nI n ∧ hI h 39 2 = nI w ∧ ∀ k, k < n → hI h 40 k = nI (m k)
theorem LB.fr {g : HS} {W : List Nat} {D : Nat → Prop} (L : LB h m n w) (wh : 160 ≤ h.1) (f : FR W [] D h g) (ok : ¬ 39 ∈ W ∧ ¬ 40 ∈ W) : LB g m n w := ⟨(f.fI wh 39 1 ⟨by decide, ok.1, fun z => nomatch z⟩).trans L.1, (f.fI wh 39 2 ⟨by decide, ok.1, fun z => nomatch z⟩).trans L.2.1, fun k hk => (f.fI wh 40 k ⟨by decide, ok.2, fun z => nomatch z⟩).trans (L.2.2 k hk)⟩
theorem mJ82 (E : EV s h) (S : SCc s h) (hn : n ≤ 8) (ml : ∀ a, a < n → m a < s 0 2) (L : LB h m n w) (f0 : FR [41, 42] [] nD h g0) {a b : Nat} (ha : a < n) (hb : b < n) {g : HS} (M : MIn g0 g a) (B : BT h m g 42 a b 1) : ∃ g', MIn g0 g' a ∧ hI g' 41 = hI g 41 ∧ BT h m g' 42 a (b + 1) 1 ∧ ∀ K6 K31 v1 v2, p47_j82 F K6 K31 g v1 v2 (nI a) (nI b) = K31 g' v1 v2 (nI a) (nI (b + 1)) := by
  have wh := E.w.1
  have fg : FR [41, 42] [] nD h g := f0.tr M.1
  have E1 : EV s g := E.fr fg (by decide) evD_n
  have S1 : SCc s g := S.fr wh fg (by decide) (by decide)
  have L1 := L.fr wh fg (by decide)
  have j90 : hI g 90 = hI h 90 := fg.fA wh 90 ⟨by decide, by decide, by decide⟩
  have j89 : hI g 89 = hI h 89 := fg.fA wh 89 ⟨by decide, by decide, by decide⟩
  have jj : ∀ a b c, jn g a b c = jn h a b c := fun a b c => by unfold jn; rw [j90, j89]
  by_cases z : a = b
  · subst z
    refine ⟨g, M, rfl, BT_f B (by unfold RB; rw [decide_eq_false (fun y => y rfl)]; rfl), fun K6 K31 v1 v2 => ?_⟩
    unfold p47_j82 p47_j124
    rw [if_pos rfl, nI_1]
  · have z' : ¬ nI a = nI b := fun y => z ((nI_eq (by omega) (by omega)).mp y)
    have e := (jnC E1 S1 (ml a ha) (ml b hb)).2
    have er : RB h m a b 1 = jn h (m a) (m b) 1 := by unfold RB; rw [decide_eq_true z]; rfl
    cases ej : jn h (m a) (m b) 1
    · refine ⟨g, M, rfl, BT_f B (by rw [er, ej]), fun K6 K31 v1 v2 => ?_⟩
      unfold p47_j82 p47_j124
      rw [if_neg z', if_neg (nI_in (by omega) (by decide)), if_neg (nI_in (by omega) (by decide)), nI_clamp (by omega), nI_clamp (by omega), L1.2.2 a ha, L1.2.2 b hb, e, ob, jj, ej, if_pos (show b2 false = 0 from rfl), nI_1]
    · refine ⟨_, M.s2, hsI_n (by decide), BT_t (by omega) B (by rw [er, ej]), fun K6 K31 v1 v2 => ?_⟩
      unfold p47_j82 p47_j124
      rw [if_neg z', if_neg (nI_in (by omega) (by decide)), if_neg (nI_in (by omega) (by decide)), nI_clamp (by omega), nI_clamp (by omega), L1.2.2 a ha, L1.2.2 b hb, e, ob, jj, ej, if_neg (show ¬ b2 true = 0 by decide), if_neg (nI_in' (by omega) (by decide)), if_neg (nI_in' (by omega) (by decide)), ob, nI_1]
theorem mInner (E : EV s h) (S : SCc s h) (hn : n ≤ 8) (ml : ∀ a, a < n → m a < s 0 2) (L : LB h m n w) (f0 : FR [41, 42] [] nD h g0) {a : Nat} (ha : a < n) : ∀ (f b : Nat) (g : HS), b ≤ n → n - b < f → MIn g0 g a → BT h m g 41 a b 0 → BT h m g 42 a b 1 → ∃ g', MIn g0 g' a ∧ BT h m g' 41 a n 0 ∧ BT h m g' 42 a n 1 ∧ ∀ K6 v1 v2, p47_L31 F K6 f g v1 v2 (nI a) (nI b) = K6 g' (v1 ||| hI g' 41 a) (v2 ||| hI g' 42 a) (nI (a + 1)) := by
  have wh := E.w.1
  intro f
  induction f with
  | zero => intro b g _ z; omega
  | succ f ih =>
    intro b g hb hf M B1 B2
    have fg : FR [41, 42] [] nD h g := f0.tr M.1
    have E1 : EV s g := E.fr fg (by decide) evD_n
    have S1 : SCc s g := S.fr wh fg (by decide) (by decide)
    have L1 := L.fr wh fg (by decide)
    have j90 : hI g 90 = hI h 90 := fg.fA wh 90 ⟨by decide, by decide, by decide⟩
    have j89 : hI g 89 = hI h 89 := fg.fA wh 89 ⟨by decide, by decide, by decide⟩
    have jj : ∀ a b c, jn g a b c = jn h a b c := fun a b c => by unfold jn; rw [j90, j89]
    by_cases hlt : b < n
    · by_cases z : a = b
      · obtain ⟨g2, M2, k41, C2, e2⟩ := mJ82 (F := F) E S hn ml L f0 ha hlt M B2
        have C1 : BT h m g2 41 a (b + 1) 0 := by
          have := BT_f B1 (by unfold RB; rw [decide_eq_false (fun y => y z)]; rfl)
          intro q hq
          rw [k41]
          exact this q hq
        obtain ⟨g', M', x1, x2, x3⟩ := ih (b + 1) g2 (by omega) (by omega) M2 C1 C2
        refine ⟨g', M', x1, x2, fun K6 v1 v2 => ?_⟩
        rw [p47_L31, L1.1, if_pos (nI_lt hlt (by omega)), if_pos (by rw [z]), e2]
        exact x3 K6 v1 v2
      · have z' : ¬ nI a = nI b := fun y => z ((nI_eq (by omega) (by omega)).mp y)
        have e := (jnC E1 S1 (ml a ha) (ml b hlt)).1
        have er : RB h m a b 0 = jn h (m a) (m b) 0 := by unfold RB; rw [decide_eq_true z]; rfl
        cases ej : jn h (m a) (m b) 0
        · obtain ⟨g2, M2, k41, C2, e2⟩ := mJ82 (F := F) E S hn ml L f0 ha hlt M B2
          have C1 : BT h m g2 41 a (b + 1) 0 := by
            have := BT_f B1 (by rw [er, ej])
            intro q hq
            rw [k41]
            exact this q hq
          obtain ⟨g', M', x1, x2, x3⟩ := ih (b + 1) g2 (by omega) (by omega) M2 C1 C2
          refine ⟨g', M', x1, x2, fun K6 v1 v2 => ?_⟩
          rw [p47_L31, L1.1, if_pos (nI_lt hlt (by omega)), if_neg z', if_neg (nI_in (by omega) (by decide)), if_neg (nI_in (by omega) (by decide)), nI_clamp (by omega), nI_clamp (by omega), L1.2.2 a ha, L1.2.2 b hlt, e, ob, jj, ej, if_pos (show b2 false = 0 from rfl), e2]
          exact x3 K6 v1 v2
        · have D1 := BT_t (by omega) B1 (by rw [er, ej])
          obtain ⟨g2, M2, k41, C2, e2⟩ := mJ82 (F := F) E S hn ml L f0 ha hlt (M.s1 (v := hI g 41 a ||| ((1 : Int32) <<< (nI b &&& 31)))) (b := b) (fun q hq => by rw [hsI_n (by decide)]; exact B2 q hq)
          have C1 : BT h m g2 41 a (b + 1) 0 := by
            intro q hq
            rw [k41]
            exact D1 q hq
          obtain ⟨g', M', x1, x2, x3⟩ := ih (b + 1) g2 (by omega) (by omega) M2 C1 C2
          refine ⟨g', M', x1, x2, fun K6 v1 v2 => ?_⟩
          rw [p47_L31, L1.1, if_pos (nI_lt hlt (by omega)), if_neg z', if_neg (nI_in (by omega) (by decide)), if_neg (nI_in (by omega) (by decide)), nI_clamp (by omega), nI_clamp (by omega), L1.2.2 a ha, L1.2.2 b hlt, e, ob, jj, ej, if_neg (show ¬ b2 true = 0 by decide), if_neg (nI_in' (by omega) (by decide)), if_neg (nI_in' (by omega) (by decide)), ob, e2]
          exact x3 K6 v1 v2
    · have : b = n := by omega
      subst this
      refine ⟨g, M, B1, B2, fun K6 v1 v2 => ?_⟩
      rw [p47_L31, L1.1, if_neg Int32.lt_irrefl, if_neg (nI_in (by omega) (by decide)), if_neg (nI_in (by omega) (by decide)), nI_clamp (by omega), nI_1]
theorem mOuter (E : EV s h) (S : SCc s h) (hn : n ≤ 8) (ml : ∀ a, a < n → m a < s 0 2) (L : LB h m n w) (hF : 20 ≤ F) : ∀ (f a : Nat) (g : HS) (v1 v2 : Int32), a ≤ n → n - a < f → FR [41, 42] [] nD h g → (∀ k, k < a → BT h m g 41 k n 0 ∧ BT h m g 42 k n 1) → (∀ q, q < 32 → bt v1 q = anyN (fun k => decide (q < n) && RB h m k q 0) a) → (∀ q, q < 32 → bt v2 q = anyN (fun k => decide (q < n) && RB h m k q 1) a) → ∃ g' w1 w2, FR [41, 42] [] nD h g' ∧ (∀ k, k < n → BT h m g' 41 k n 0 ∧ BT h m g' 42 k n 1) ∧ (∀ q, q < 32 → bt w1 q = anyN (fun k => decide (q < n) && RB h m k q 0) n) ∧ (∀ q, q < 32 → bt w2 q = anyN (fun k => decide (q < n) && RB h m k q 1) n) ∧ p47_L6 F f g v1 v2 (nI a) = p47_L171 F F (hsI g' 44 n 0) w1 w2 (nI n - 1) := by
  have wh := E.w.1
  intro f
  induction f with
  | zero => intro a g v1 v2 _ z; omega
  | succ f ih =>
    intro a g v1 v2 ha hf fg hB h1 h2
    have L1 := L.fr wh fg (by decide)
    rw [p47_L6, L1.1]
    by_cases hlt : a < n
    · rw [if_pos (nI_lt hlt (by omega)), if_neg (nI_in (by omega) (by decide)), if_neg (nI_in (by omega) (by decide)), nI_clamp (by omega)]
      have f0 : FR [41, 42] [] nD h (hsI (hsI g 41 a 0) 42 a 0) := (fg.sI (Or.inl (by decide))).sI (Or.inl (by decide))
      obtain ⟨g', M', x1, x2, x3⟩ := mInner (F := F) E S hn ml L f0 hlt F 0 (hsI (hsI g 41 a 0) 42 a 0) (by omega) (by omega) ⟨FR.rf nD160, fun _ _ => ⟨rfl, rfl⟩⟩ (fun q _ => by
        rw [hsI_n (by decide), hsI_s, bt_0, decide_eq_false (by omega)]; rfl) (fun q _ => by
        rw [hsI_s, bt_0, decide_eq_false (by omega)]; rfl)
      have := x3 (p47_L6 F f) v1 v2
      rw [show nI 0 = 0 from rfl] at this
      rw [this]
      refine ih (a + 1) g' _ _ (by omega) (by omega) (f0.tr M'.1) (fun k hk => ?_) (fun q hq => ?_) (fun q hq => ?_)
      · by_cases z : k = a
        · subst z; exact ⟨x1, x2⟩
        · obtain ⟨k1, k2⟩ := M'.2 k z
          obtain ⟨b1, b2⟩ := hB k (by omega)
          refine ⟨fun q hq => ?_, fun q hq => ?_⟩
          · rw [k1, hsI_n (by decide), show hI (hsI g 41 a 0) 41 k = hI g 41 k from if_neg (fun y => z y.2)]; exact b1 q hq
          · rw [k2, show hI (hsI (hsI g 41 a 0) 42 a 0) 42 k = hI (hsI g 41 a 0) 42 k from if_neg (fun y => z y.2), hsI_n (by decide)]; exact b2 q hq
      · rw [bt_or, h1 q hq, x1 q hq, anyN_s]
      · rw [bt_or, h2 q hq, x2 q hq, anyN_s]
    · have : a = n := by omega
      subst this
      have e2 : hI (hsI g 44 a 0) 39 1 = nI a := by rw [hsI_n (by decide)]; exact L1.1
      rw [if_neg Int32.lt_irrefl, if_neg (nI_in (by omega) (by decide)), nI_clamp (by omega), e2]
      exact ⟨g, v1, v2, fg, hB, h1, h2, rfl⟩
theorem mHop (hw : 0 < w) (hw8 : w ≤ 8) (hn : n ≤ 8) {g0 : HS} (wh : 160 ≤ g0.1) (L : LB g0 m n w) {hp : Nat → Nat} {v1 v2 : Int32} (hv : ∀ k, k < n → hp k = (if bt v1 k then 1 else 0) + (if bt v2 k then 1 else 0)) : ∀ (f i : Nat) (g : HS), i ≤ n → i < f → FR [43, 44] [] nD g0 g → (∀ k, i ≤ k → k < n → hI g 43 k = nI (hp k)) → (∀ k, i ≤ k → k ≤ n → hI g 44 k = nI (jtF w n k)) → ∃ g', p47_L171 F f g v1 v2 (nI i - 1) = some g' ∧ FR [43, 44] [] nD g0 g' ∧ (∀ k, k < n → hI g' 43 k = nI (hp k)) ∧ (∀ k, k ≤ n → hI g' 44 k = nI (jtF w n k)) := by
  intro f
  induction f with
  | zero => intro i g _ z; omega
  | succ f ih =>
    intro i g hi hf fg h43 h44
    rw [p47_L171]
    cases i with
    | zero =>
      rw [if_pos (show nI 0 - 1 < 0 by decide)]
      exact ⟨g, rfl, fg, fun k hk => h43 k (by omega) hk, fun k hk => h44 k (by omega) hk⟩
    | succ c =>
      have L1 := L.fr wh fg (by decide)
      have e2 : hI (hsI g 43 c (nI (hp c))) 39 2 = nI w := by rw [hsI_n (by decide)]; exact L1.2.1
      have e44 : hI (hsI g 43 c (nI (hp c))) 44 (c + 1) = nI (jtF w n (c + 1)) := by rw [hsI_n (by decide)]; exact h44 (c + 1) (by omega) (by omega)
      have ehp : nI (if bt v1 c then 1 else 0) + nI (if bt v2 c then 1 else 0) = nI (hp c) := by rw [nI_add, hv c (by omega)]
      have fin : ∃ g', p47_L171 F f (hsI (hsI g 43 c (nI (hp c))) 44 c (nI (jtF w n c))) v1 v2 (nI c - 1) = some g' ∧ FR [43, 44] [] nD g0 g' ∧ (∀ k, k < n → hI g' 43 k = nI (hp k)) ∧ (∀ k, k ≤ n → hI g' 44 k = nI (jtF w n k)) := by
        refine ih c _ (by omega) (by omega) ((fg.sI (Or.inl (by decide))).sI (Or.inl (by decide))) (fun k h1 h2 => ?_) (fun k h1 h2 => ?_)
        · rw [hsI_n (by decide)]
          by_cases z : k = c
          · subst z; exact hsI_s _ _ _ _
          · exact (if_neg (fun y => z y.2)).trans (h43 k (by omega) h2)
        · by_cases z : k = c
          · subst z; exact hsI_s _ _ _ _
          · refine (if_neg (fun y => z y.2)).trans ?_
            show hI (hsI g 43 c (nI (hp c))) 44 k = _
            rw [hsI_n (by decide)]
            exact h44 k (by omega) h2
      have jt := (jtF_O w n).2 c (by omega)
      have jl := jtF_le w n c
      rw [nI_pred, if_neg (nI_pos (by omega)), nI_clamp (n := c) (by omega), if_neg (nI_in' (by omega) (by decide)), and1N (by omega), and1N (by omega), ehp, ob, nI_1, if_neg (nI_in (by omega) (by decide)), nI_clamp (by omega), e2, if_neg (nI_ne0 hw (by omega)), m8 w (by omega) c (by omega) hw, e44]
      have j219 : ∀ x, x = (if 0 < c % w then 1 else 0) → p47_j219 F (p47_L171 F f) (hsI g 43 c (nI (hp c))) v1 v2 (nI c) (nI x) (nI (jtF w n (c + 1))) (nI c) = p47_L171 F f (hsI (hsI g 43 c (nI (hp c))) 44 c (nI (jtF w n c))) v1 v2 (nI c - 1) := by
        intro x hx
        unfold p47_j219 p47_j233
        rw [e2, nI_add, nI_clamp (n := c) (by omega), if_neg (nI_in' (by omega) (by decide)), if_neg (nI_in' (by omega) (by decide)), show nI c + (-1) = nI c - 1 by rw [Int32.sub_eq_add_neg]]
        by_cases z : w ≤ c
        · rw [if_neg (nI_nlt z (by omega)), nI_1, show jtF w n (c + 1) + x + 1 = jtF w n c by rw [jt, hx, if_pos z]; omega]
        · rw [if_pos (nI_lt (by omega) (by omega)), show nI (jtF w n (c + 1) + x) + 0 = nI (jtF w n (c + 1) + x) from Int32.add_zero _, show jtF w n (c + 1) + x = jtF w n c by rw [jt, hx, if_neg z]; omega]
      by_cases z : 0 < c % w
      · rw [if_pos (show (0 : Int32) < nI (c % w) from nI_lt z (by have := Nat.mod_lt c hw; omega)), show (1 : Int32) = nI 1 from rfl, j219 1 (by rw [if_pos z])]
        exact fin
      · rw [if_neg (show ¬ (0 : Int32) < nI (c % w) from nI_nlt (a := 0) (by omega) (by omega)), show (0 : Int32) = nI 0 from rfl, j219 0 (by rw [if_neg z])]
        exact fin
/-- all that search leans on -/
def LM (h : HS) (m : Nat → Nat) (n w : Nat) (g : HS) : Prop := LB g m n w ∧ (∀ k, k < n → BT h m g 41 k n 0 ∧ BT h m g 42 k n 1) ∧ (∀ k, k < n → hI g 43 k = nI (hpF h m n k)) ∧ (∀ k, k ≤ n → hI g 44 k = nI (jtF w n k))
theorem c_meas (E : EV s h) (S : SCc s h) (hw : 0 < w) (hw8 : w ≤ 8) (hn : n ≤ 8) (ml : ∀ a, a < n → m a < s 0 2) (L : LB h m n w) (hF : 20 ≤ F) : ∃ g, p47 F h = some g ∧ FR [41, 42, 43, 44] [] nD h g ∧ LM h m n w g := by
  have wh := E.w.1
  obtain ⟨g1, w1, w2, f1, B, b1, b2, e1⟩ := mOuter (F := F) E S hn ml L hF F 0 h 0 0 (by omega) (by omega) (FR.rf nD160) (fun k z => by omega) (fun q _ => bt_0 q) (fun q _ => bt_0 q)
  have f2 : FR [41, 42, 44] [] nD h (hsI g1 44 n 0) := (f1.mo (by decide) (by decide) (fun _ z => z) nD160).sI (Or.inl (by decide))
  have w2h : 160 ≤ (hsI g1 44 n 0).1 := Nat.le_trans wh f2.1
  obtain ⟨g2, e2, f3, h43, h44⟩ := mHop (F := F) (hp := hpF h m n) (v1 := w1) (v2 := w2) hw hw8 hn w2h (L.fr wh f2 (by decide)) (fun k hk => by rw [b1 k (by omega), b2 k (by omega)]; rfl) F n (hsI g1 44 n 0) (Nat.le_refl _) (by omega) (FR.rf nD160) (fun k z1 z2 => by omega) (fun k z1 z2 => by
    have : k = n := by omega
    subst this
    rw [hsI_s]
    unfold jtF
    rw [Nat.sub_self]
    rfl)
  have f4 : FR [41, 42, 43, 44] [] nD h g2 := (f2.mo (by decide) (by decide) (fun _ z => z) nD160).tr (f3.mo (by decide) (by decide) (fun _ z => z) nD160)
  refine ⟨g2, ?_, f4, L.fr wh f4 (by decide), fun k hk => ?_, h43, h44⟩
  · unfold p47
    rw [show p47_L6 F F h 0 0 0 = p47_L6 F F h 0 0 (nI 0) from rfl, e1, e2]
  · obtain ⟨x1, x2⟩ := B k hk
    refine ⟨fun q hq => ?_, fun q hq => ?_⟩
    · rw [f3.fA w2h 41 (by decide), hsI_n (by decide)]; exact x1 q hq
    · rw [f3.fA w2h 42 (by decide), hsI_n (by decide)]; exact x2 q hq
end LA5
