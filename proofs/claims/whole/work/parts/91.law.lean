/-! laws: the state; the law in force -/
def beg (s : SS) (l c : Nat) : Nat := if c = 0 then 0 else s (1100 + l) (c - 1)
def clOK (s : SS) (h : HS) (l c : Nat) : Prop := s (1200 + l) c < 3 ∧ hI h (s 34 l + 2) c = nI (10021 + s (1200 + l) c) ∧ hI h 129 (12 * l + c) = nI (s (1200 + l) c) ∧ (s (1200 + l) c < 2 → hI h (s 34 l + 3) c = nI (s (1300 + l) c) ∧ hI h 130 (12 * l + c) = nI (s (1300 + l) c) ∧ s (1300 + l) c ≤ 99 ∧ (s (1200 + l) c = 0 → s (1300 + l) c ≤ 2)) ∧ hI h (s 34 l + 4) c = nI (s (1100 + l) c) ∧ hI h 132 (12 * l + c) = nI (s (1100 + l) c) ∧ hI h 131 (12 * l + c) = nI (beg s l c) ∧ beg s l c ≤ s (1100 + l) c ∧ s (1100 + l) c ≤ s 46 l ∧ (∃ T, tyR (s (1000 + l)) (beg s l c) (s (1100 + l) c - beg s l c) = some (T, 1) ∧ T 0 = decide (s (1200 + l) c < 2)) ∧ vals (s (1000 + l)) (beg s l c) (s (1100 + l) c - beg s l c) ≤ 80
def lwA (s : SS) (h : HS) (l : Nat) : Prop := hR h 66 l = some (s 34 l) ∧ hT h (s 34 l) = 1 ∧ (160 ≤ s 34 l ∧ s 34 l + 6 ≤ h.1) ∧ hI h (s 34 l) 0 = nI (s 47 l) ∧ hI h 127 l = nI (s 47 l) ∧ s 47 l ≤ 3999 ∧ hI h (s 34 l) 1 = b2 (anyN (fun k => decide (s (1000 + l) k = 10012)) (s 46 l)) ∧ hI h 128 l = nI (s 45 l) ∧ s 45 l ≤ 12 ∧ s 46 l ≤ 400
def lwB (s : SS) (h : HS) (l : Nat) : Prop := hR h (s 34 l) 6 = some (s 34 l + 1) ∧ hR h (s 34 l) 3 = some (s 34 l + 2) ∧ hR h (s 34 l) 2 = some (s 34 l + 3) ∧ hR h (s 34 l) 4 = some (s 34 l + 4) ∧ hR h (s 34 l) 5 = some (s 34 l + 5) ∧ (hT h (s 34 l + 1) = 23 ∧ hN h (s 34 l + 1) = 80) ∧ (hT h (s 34 l + 2) = 20 ∧ hN h (s 34 l + 2) = s 45 l) ∧ (hT h (s 34 l + 3) = 20 ∧ hN h (s 34 l + 3) = s 45 l) ∧ (hT h (s 34 l + 4) = 20 ∧ hN h (s 34 l + 4) = s 45 l) ∧ (hT h (s 34 l + 5) = 20 ∧ hN h (s 34 l + 5) = s 46 l)
def lwC (s : SS) (h : HS) (l k : Nat) : Prop := hI h (s 34 l + 5) k = nI (s (1000 + l) k) ∧ okT (s (1000 + l) k) ∧ hI h 133 (400 * l + k) = nI (opM (s (1000 + l) k)) ∧ (s (1000 + l) k < 10021 → hI h 134 (400 * l + k) = nI (whM (s (1000 + l) k)))
def LWc (s : SS) (h : HS) : Prop := (∀ l, l < s 0 9 → lwA s h l ∧ lwB s h l ∧ (∀ c, c < s 45 l → clOK s h l c) ∧ ∀ k, k < s 46 l → lwC s h l k) ∧ (∀ l m, l < s 0 9 → m < s 0 9 → ¬ l = m → s 34 l + 6 ≤ s 34 m ∨ s 34 m + 6 ≤ s 34 l) ∧ ∀ l i, l < s 0 9 → i < s 0 3 → s 34 l + 6 ≤ s 30 i ∨ s 30 i + 6 ≤ s 34 l
def stk (s : SS) : Nat → Prop := fun x => ∃ l, l < s 0 9 ∧ x = s 34 l + 1
/-- the worth of a clause; the first clause of a kind that holds -/
def cval (s : SS) (ws : Nat → Int64) (l c : Nat) : Int64 := (evR ws (s (1000 + l)) (beg s l c) (s (1100 + l) c - beg s l c)).1 0
def fcl (s : SS) (ws : Nat → Int64) (l kd c : Nat) : Bool := decide (s (1200 + l) c = kd) && decide (¬ cval s ws l c = 0)
def ifN (s : SS) (d : Nat) : Nat → Option Nat
  | 0 => none
  | i + 1 => if s 47 i ≤ d ∧ (∀ b, ifN s d i = some b → s 47 b ≤ s 47 i) then some i else ifN s d i
def ruW : List Nat := [85, 136, 137, 147]
section LAW
variable {s : SS} {h : HS}
theorem stk160 (L : LWc s h) : ∀ x, stk s x → 160 ≤ x := fun x ⟨l, hl, e⟩ => by have := (L.1 l hl).1.2.2.1.1; omega
theorem stk_T (L : LWc s h) {x : Nat} (z : stk s x) : hT h x = 23 := by
  obtain ⟨l, hl, rfl⟩ := z
  exact (L.1 l hl).2.1.2.2.2.2.2.1.1
theorem stk_evD (E : EV s h) (L : LWc s h) : evD s (stk s) := by
  refine ⟨fun j hj z => ?_, fun j hj z => ?_, fun j hj z => ?_, fun j hj z => ?_⟩
  · have := E.sh.t hj; rw [stk_T L z] at this; exact absurd this (by decide)
  · have := E.sn.t hj; rw [stk_T L z] at this; exact absurd this (by decide)
  · have := E.rp.t hj; rw [stk_T L z] at this; exact absurd this (by decide)
  · have := E.bl.t hj; rw [stk_T L z] at this; exact absurd this (by decide)
theorem stk_rd (R : RDc s h) (L : LWc s h) : ∀ i, i < s 0 10 → ¬ stk s (s 35 i) := fun i hi z => by
  have := (R.1 i hi).2.1; rw [stk_T L z] at this; exact absurd this (by decide)
theorem stk_ln (L : LWc s h) : ∀ i, i < s 0 3 → ∀ k, k < 6 → ¬ stk s (s 30 i + k) := fun i hi k hk ⟨l, hl, e⟩ => by
  have := L.2.2 l i hl hi
  omega
theorem stk_lw (L : LWc s h) : ∀ l, l < s 0 9 → ∀ k, k < 6 → ¬ k = 1 → ¬ stk s (s 34 l + k) := fun l hl k hk k1 ⟨m, hm, e⟩ => by
  by_cases z : l = m
  · subst z; omega
  · have := L.2.1 l m hl hm z
    omega
theorem LWc.fr (L : LWc s h) {W : List Nat} {K : List (Nat × Nat)} {D : Nat → Prop} {g : HS} (w : 160 ≤ h.1) (f : FR W K D h g) (ok : wl W K ∧ ¬ 66 ∈ W ∧ frO [127, 128, 129, 130, 131, 132, 133, 134] W K) (dd : ∀ l, l < s 0 9 → ∀ k, k < 6 → ¬ k = 1 → ¬ D (s 34 l + k)) : LWc s g := by
  obtain ⟨L1, L2, L3⟩ := L
  refine ⟨fun l hl => ?_, L2, L3⟩
  obtain ⟨A, B, C, T⟩ := L1 l hl
  have lo := A.2.2.1.1
  have up := A.2.2.1.2
  have k : ∀ a, a ∈ [127, 128, 129, 130, 131, 132, 133, 134] → hI g a = hI h a := fun a m => f.fA w a (ok.2.2 a m)
  have oI : ∀ d, d < 6 → ¬ d = 1 → ∀ j, hI g (s 34 l + d) j = hI h (s 34 l + d) j := fun d hd h1 j => f.oI ok.1.1 ok.1.2 (by omega) (by omega) (dd l hl d hd h1) j
  have oR : ∀ j, hR g (s 34 l) j = hR h (s 34 l) j := fun j => f.oR ok.1.1 (by omega) (by omega) (dd l hl 0 (by decide) (by decide)) j
  have o0 : ∀ j, hI g (s 34 l) j = hI h (s 34 l) j := fun j => oI 0 (by decide) (by decide) j
  have fT : ∀ d, d < 6 → hT g (s 34 l + d) = hT h (s 34 l + d) ∧ hN g (s 34 l + d) = hN h (s 34 l + d) := fun d hd => ⟨f.T (by omega), f.N (by omega)⟩
  refine ⟨?_, ?_, fun c hc => ?_, fun j hj => ?_⟩
  · unfold lwA at A ⊢
    rw [f.fR w 66 ⟨by decide, ok.2.1⟩, show hT g (s 34 l) = hT h (s 34 l) from (fT 0 (by decide)).1, o0, o0, k 127 (by decide), k 128 (by decide)]
    exact ⟨A.1, A.2.1, ⟨lo, Nat.le_trans up f.1⟩, A.2.2.2⟩
  · unfold lwB at B ⊢
    rw [oR, oR, oR, oR, oR, (fT 1 (by decide)).1, (fT 1 (by decide)).2, (fT 2 (by decide)).1, (fT 2 (by decide)).2, (fT 3 (by decide)).1, (fT 3 (by decide)).2, (fT 4 (by decide)).1, (fT 4 (by decide)).2, (fT 5 (by decide)).1, (fT 5 (by decide)).2]
    exact B
  · have := C c hc
    unfold clOK at this ⊢
    rw [oI 2 (by decide) (by decide), oI 3 (by decide) (by decide), oI 4 (by decide) (by decide), k 129 (by decide), k 130 (by decide), k 131 (by decide), k 132 (by decide)]
    exact this
  · have := T j hj
    unfold lwC at this ⊢
    rw [oI 5 (by decide) (by decide), k 133 (by decide), k 134 (by decide)]
    exact this
/-- what an evaluation may write leaves all as it is -/
theorem ru_fr (E : EV s h) (R : RDc s h) (N : LNc s h) (L : LWc s h) {g : HS} (f : FR ruW [] (stk s) h g) : EV s g ∧ RDc s g ∧ LNc s g ∧ LWc s g :=
  ⟨E.fr f (by decide) (stk_evD E L), R.fr E.w.1 f (by decide) (stk_rd R L) rfl rfl (Nat.le_refl _) (Nat.le_refl _) (fun _ _ => rfl), N.fr E f (by decide) (stk_ln L) rfl rfl rfl (Nat.le_refl _), L.fr E.w.1 f (by decide) (stk_lw L)⟩
theorem ru_fr1 (E : EV s h) (R : RDc s h) (N : LN1 s h) (L : LWc s h) {g : HS} (f : FR ruW [] (stk s) h g) : EV s g ∧ RDc s g ∧ LN1 s g ∧ LWc s g :=
  ⟨E.fr f (by decide) (stk_evD E L), R.fr E.w.1 f (by decide) (stk_rd R L) rfl rfl (Nat.le_refl _) (Nat.le_refl _) (fun _ _ => rfl), N.fr E f (by decide) (fun i hi k hk => stk_ln L i hi k (by omega)), L.fr E.w.1 f (by decide) (stk_lw L)⟩
/-- what the model alone says of readers -/
def RDm (s : SS) (h : HS) : Prop := ∀ i, i < s 0 10 → (hI h 145 i = 0 ∨ hI h 145 i = 1) ∧ (hI h 142 i = -1 ∨ ∃ k, k < s 0 3 ∧ hI h 142 i = nI k)
theorem RDc.m (R : RDc s h) : RDm s h := fun i hi => by
  obtain ⟨r1, r2, r3, r4, r5, r6, r7, r8⟩ := R.1 i hi
  exact ⟨r5.2, r6.imp (fun z => z.1) (fun ⟨k, hk, e, _⟩ => ⟨k, hk, e⟩)⟩
theorem RDm.fr (R : RDm s h) {W : List Nat} {K : List (Nat × Nat)} {D : Nat → Prop} {g : HS} (w : 160 ≤ h.1) (f : FR W K D h g) (ok : frO [142, 145] W K) : RDm s g := fun i hi => by
  rw [f.fA w 142 (ok 142 (by decide)), f.fA w 145 (ok 145 (by decide))]
  exact R i hi
theorem ru_fr2 (E : EV s h) (R : RDm s h) (N : LN1 s h) (L : LWc s h) {g : HS} (f : FR ruW [] (stk s) h g) : EV s g ∧ RDm s g ∧ LN1 s g ∧ LWc s g :=
  ⟨E.fr f (by decide) (stk_evD E L), R.fr E.w.1 f (by decide), N.fr E f (by decide) (fun i hi k hk => stk_ln L i hi k (by omega)), L.fr E.w.1 f (by decide) (stk_lw L)⟩
theorem ifN_lt {d : Nat} : ∀ (i b : Nat), ifN s d i = some b → b < i := by
  intro i
  induction i with
  | zero => intro b h; cases h
  | succ i ih =>
    intro b h
    rw [ifN] at h
    split at h
    · cases h; omega
    · have := ih b h; omega
theorem inC_L (E : EV s h) (L : LWc s h) {d : Nat} (hd : d ≤ 3999) (F : Nat) : ∀ (m i n : Nat), i + m = s 0 9 → m < n → p175_L4 F (nI d) n h (oI (ifN s d i)) (nI i) = some (oI (ifN s d (s 0 9))) := by
  have b9 := E.cn.b9
  intro m
  induction m with
  | zero =>
    intro i n hi hn
    obtain ⟨n, rfl⟩ : ∃ n', n = n' + 1 := ⟨n - 1, by omega⟩
    have e : i = s 0 9 := by omega
    subst e
    rw [p175_L4, E.cn.c9, if_neg Int32.lt_irrefl]
  | succ m ih =>
    intro i n hi hn
    obtain ⟨n, rfl⟩ : ∃ n', n = n' + 1 := ⟨n - 1, by omega⟩
    have ih' := ih (i + 1) n (by omega) (by omega)
    obtain ⟨a1, a2, a3, a4, a5, a6, -⟩ := (L.1 i (by omega)).1
    rw [ifN] at ih'
    rw [p175_L4, E.cn.c9, if_pos (nI_lt (by omega) (by omega)), if_neg (nI_in (by omega) (by decide)), nI_clamp (by omega), a1, ob, if_pos a2, a4]
    unfold p175_j51 p175_j53
    rw [nI_1 i]
    by_cases h1 : d < s 47 i
    · rw [if_pos (nI_lt h1 (by omega))]
      rw [if_neg (fun z => by omega)] at ih'
      exact ih'
    · rw [if_neg (nI_nlt (by omega) (by omega))]
      cases e : ifN s d i with
      | none =>
        rw [e] at ih'
        rw [if_pos ⟨by omega, fun b hb => by cases hb⟩] at ih'
        rw [show oI none = -1 from rfl, if_pos rfl]
        exact ih'
      | some b =>
        have hb := ifN_lt i b e
        obtain ⟨b1, b2, b3, b4, b5, b6, -⟩ := (L.1 b (by omega)).1
        rw [e] at ih'
        rw [show oI (some b) = nI b from rfl, if_neg (fun z => by have := m1_nI (n := b) (by omega); rw [this] at z; exact z), if_neg (nI_in' (by omega) (by decide)), ob, if_pos a2, a4, if_neg (nI_in (by omega) (by decide)), nI_clamp (by omega), b1, ob, if_pos b2, b4]
        by_cases h2 : s 47 i < s 47 b
        · rw [if_pos (nI_lt h2 (by omega))]
          rw [if_neg (fun z => by have := z.2 b rfl; omega)] at ih'
          exact ih'
        · rw [if_neg (nI_nlt (by omega) (by omega))]
          rw [if_pos ⟨by omega, fun b' hb' => by cases hb'; omega⟩] at ih'
          exact ih'
theorem inM_L (E : EV s h) (L : LWc s h) {d : Nat} (hd : d ≤ 3999) (F : Nat) : ∀ (m i n : Nat), i + m = s 0 9 → m < n → p268_L4 F (nI d) n h (oI (ifN s d i)) (nI i) = some (oI (ifN s d (s 0 9))) := by
  have b9 := E.cn.b9
  intro m
  induction m with
  | zero =>
    intro i n hi hn
    obtain ⟨n, rfl⟩ : ∃ n', n = n' + 1 := ⟨n - 1, by omega⟩
    have e : i = s 0 9 := by omega
    subst e
    rw [p268_L4, E.cn.m9, if_neg Int32.lt_irrefl]
  | succ m ih =>
    intro i n hi hn
    obtain ⟨n, rfl⟩ : ∃ n', n = n' + 1 := ⟨n - 1, by omega⟩
    have ih' := ih (i + 1) n (by omega) (by omega)
    obtain ⟨a1, a2, a3, a4, a5, a6, -⟩ := (L.1 i (by omega)).1
    rw [ifN] at ih'
    rw [p268_L4, E.cn.m9, if_pos (nI_lt (by omega) (by omega)), if_neg (nI_in (by omega) (by decide)), nI_clamp (by omega), a5]
    unfold p268_j42 p268_j44
    rw [nI_1 i]
    by_cases h1 : d < s 47 i
    · rw [if_pos (nI_lt h1 (by omega))]
      rw [if_neg (fun z => by omega)] at ih'
      exact ih'
    · rw [if_neg (nI_nlt (by omega) (by omega))]
      cases e : ifN s d i with
      | none =>
        rw [e] at ih'
        rw [if_pos ⟨by omega, fun b hb => by cases hb⟩] at ih'
        rw [show oI none = -1 from rfl, if_pos rfl]
        exact ih'
      | some b =>
        have hb := ifN_lt i b e
        obtain ⟨b1, b2, b3, b4, b5, b6, -⟩ := (L.1 b (by omega)).1
        rw [e] at ih'
        rw [show oI (some b) = nI b from rfl, if_neg (fun z => by have := m1_nI (n := b) (by omega); rw [this] at z; exact z), if_neg (nI_in' (by omega) (by decide)), if_neg (nI_in (by omega) (by decide)), nI_clamp (by omega), b5]
        by_cases h2 : s 47 i < s 47 b
        · rw [if_pos (nI_lt h2 (by omega))]
          rw [if_neg (fun z => by have := z.2 b rfl; omega)] at ih'
          exact ih'
        · rw [if_neg (nI_nlt (by omega) (by omega))]
          rw [if_pos ⟨by omega, fun b' hb' => by cases hb'; omega⟩] at ih'
          exact ih'
theorem inC (E : EV s h) (L : LWc s h) {d : Nat} (hd : d ≤ 3999) {F : Nat} (hF : 30 ≤ F) : p175 F h (nI d) = some (oI (ifN s d (s 0 9))) := by
  have b9 := E.cn.b9
  exact inC_L E L hd F (s 0 9) 0 F (by omega) (by omega)
theorem inM (E : EV s h) (L : LWc s h) {d : Nat} (hd : d ≤ 3999) {F : Nat} (hF : 30 ≤ F) : p268 F h (nI d) = some (oI (ifN s d (s 0 9))) := by
  have b9 := E.cn.b9
  exact inM_L E L hd F (s 0 9) 0 F (by omega) (by omega)
theorem q_force (E : EV s h) (L : LWc s h) {F : Nat} (hF : 30 ≤ F) (a : Int32) : ∃ v, p145 F h a = some v ∧ p269 F h a = some v := by
  unfold p145 p269 p167 p188
  rcases dayc a with ⟨h1, h2⟩ | ⟨d, hd, rfl, h1, h2⟩
  · refine ⟨-1, ?_, ?_⟩
    · rw [h1]; rfl
    · rw [h2]; rfl
  · refine ⟨oI (ifN s d (s 0 9)), ?_, ?_⟩
    · rw [h1, ob, if_pos (Or.inr rfl), ob, if_neg n10, inC E L hd hF, ob]
    · rw [h2, ob, if_pos (Or.inr rfl), ob, if_neg n10, inM E L hd hF, ob]
end LAW
