/-! count -/
section CNT
variable {s : SS} {h : HS}
theorem looC (E : EV s h) (S : SCc s h) (F : Nat) : ∀ (m i n : Nat), i + m = s 0 2 → m < n → p92_L4 F n h (nI (cnt (fun i => decide (hI h 91 i = -1)) i)) (nI i) = some (nI (cnt (fun i => decide (hI h 91 i = -1)) (s 0 2))) := by
  have b2 := E.cn.b2
  have e37 : hI h 37 = hI h 91 := S.2.2.2.1
  intro m
  induction m with
  | zero =>
    intro i n hi hn
    obtain ⟨n, rfl⟩ : ∃ n', n = n' + 1 := ⟨n - 1, by omega⟩
    have e : i = s 0 2 := by omega
    subst e
    rw [p92_L4, E.cn.c2, if_neg Int32.lt_irrefl]
  | succ m ih =>
    intro i n hi hn
    obtain ⟨n, rfl⟩ : ∃ n', n = n' + 1 := ⟨n - 1, by omega⟩
    have ih' := ih (i + 1) n (by omega) (by omega)
    rw [cnt_ss] at ih'
    rw [p92_L4, E.cn.c2, if_pos (nI_lt (by omega) (by omega)), if_neg (nI_in (by omega) (by decide)), nI_clamp (by omega), e37]
    unfold p92_j25
    rw [nI_1 i]
    by_cases z : hI h 91 i = -1
    · rw [decide_eq_true z] at ih'
      rw [if_pos z, nI_1]
      exact ih'
    · rw [decide_eq_false z] at ih'
      rw [if_neg z]
      exact ih'
theorem looM (E : EV s h) (F : Nat) (a : Int32) : ∀ (m i n : Nat), i + m = s 0 2 → m < n → p305_L97 F a n h (nI (cnt (fun i => decide (hI h 91 i = -1)) i)) (nI i) = some (nI (cnt (fun i => decide (hI h 91 i = -1)) (s 0 2))) := by
  have b2 := E.cn.b2
  intro m
  induction m with
  | zero =>
    intro i n hi hn
    obtain ⟨n, rfl⟩ : ∃ n', n = n' + 1 := ⟨n - 1, by omega⟩
    have e : i = s 0 2 := by omega
    subst e
    rw [p305_L97, E.cn.m2, if_neg Int32.lt_irrefl]
  | succ m ih =>
    intro i n hi hn
    obtain ⟨n, rfl⟩ : ∃ n', n = n' + 1 := ⟨n - 1, by omega⟩
    have ih' := ih (i + 1) n (by omega) (by omega)
    rw [cnt_ss] at ih'
    rw [p305_L97, E.cn.m2, if_pos (nI_lt (by omega) (by omega)), if_neg (nI_in (by omega) (by decide)), nI_clamp (by omega)]
    unfold p305_j121
    rw [nI_1 i]
    by_cases z : hI h 91 i = -1
    · rw [decide_eq_true z] at ih'
      rw [if_pos z, show (1 : Int32) = nI 1 from rfl, nI_add]
      exact ih'
    · rw [decide_eq_false z] at ih'
      rw [if_neg z, show (0 : Int32) = nI 0 from rfl, nI_add]
      exact ih'
theorem wtC (E : EV s h) (R : RDc s h) (F : Nat) : ∀ (m i n : Nat), i + m = s 0 10 → m < n → p174_L4 F n h (nI (cnt (fun i => decide (¬ hI h 142 i = -1)) i)) (nI i) = some (nI (cnt (fun i => decide (¬ hI h 142 i = -1)) (s 0 10))) := by
  have b2 := E.cn.b10
  have b3 := E.cn.b3
  intro m
  induction m with
  | zero =>
    intro i n hi hn
    obtain ⟨n, rfl⟩ : ∃ n', n = n' + 1 := ⟨n - 1, by omega⟩
    have e : i = s 0 10 := by omega
    subst e
    rw [p174_L4, E.cn.c10, if_neg Int32.lt_irrefl]
  | succ m ih =>
    intro i n hi hn
    obtain ⟨n, rfl⟩ : ∃ n', n = n' + 1 := ⟨n - 1, by omega⟩
    have ih' := ih (i + 1) n (by omega) (by omega)
    obtain ⟨r1, r2, r3, r4, r5, r6, r7, r8⟩ := R.1 i (by omega)
    rw [cnt_ss] at ih'
    rw [p174_L4, E.cn.c10, if_pos (nI_lt (by omega) (by omega)), if_neg (nI_in (by omega) (by decide)), nI_clamp (by omega), r1, ob, if_pos r2]
    unfold p174_j27
    rw [nI_1 i]
    rcases r6 with ⟨e1, e2⟩ | ⟨k, hk, e1, e2⟩
    · have nz : ¬ ¬ hI h 142 i = -1 := fun z => z e1
      rw [decide_eq_false nz] at ih'
      rw [e2, if_pos rfl]
      exact ih'
    · have nz : ¬ hI h 142 i = -1 := fun z => by rw [e1] at z; have := m1_nI (n := k) (by omega); rw [this] at z; exact z
      rw [decide_eq_true nz] at ih'
      rw [e2, if_neg (by intro z; cases z), ob, nI_1]
      exact ih'
theorem wtM (E : EV s h) (F : Nat) (a : Int32) : ∀ (m i n : Nat), i + m = s 0 10 → m < n → p305_L173 F a n h (nI (cnt (fun i => decide (¬ hI h 142 i = -1)) i)) (nI i) = some (nI (cnt (fun i => decide (¬ hI h 142 i = -1)) (s 0 10))) := by
  have b2 := E.cn.b10
  intro m
  induction m with
  | zero =>
    intro i n hi hn
    obtain ⟨n, rfl⟩ : ∃ n', n = n' + 1 := ⟨n - 1, by omega⟩
    have e : i = s 0 10 := by omega
    subst e
    rw [p305_L173, E.cn.m10, if_neg Int32.lt_irrefl]
  | succ m ih =>
    intro i n hi hn
    obtain ⟨n, rfl⟩ : ∃ n', n = n' + 1 := ⟨n - 1, by omega⟩
    have ih' := ih (i + 1) n (by omega) (by omega)
    rw [cnt_ss] at ih'
    rw [p305_L173, E.cn.m10, if_pos (nI_lt (by omega) (by omega)), if_neg (nI_in (by omega) (by decide)), nI_clamp (by omega)]
    unfold p305_j197
    rw [nI_1 i]
    by_cases z : hI h 142 i = -1
    · have nz : ¬ ¬ hI h 142 i = -1 := fun y => y z
      rw [decide_eq_false nz] at ih'
      rw [if_pos z, show (0 : Int32) = nI 0 from rfl, nI_add]
      exact ih'
    · rw [decide_eq_true z] at ih'
      rw [if_neg z, show (1 : Int32) = nI 1 from rfl, nI_add]
      exact ih'
theorem q_count (E : EV s h) (S : SCc s h) (R : RDc s h) {F : Nat} (hF : 1000 ≤ F) (a : Int32) : ∃ v, p165 F h a = some v ∧ p305 F h a = some v := by
  have b2 := E.cn.b2
  have b10 := E.cn.b10
  have l1 := looC E S F (s 0 2) 0 F (by omega) (by omega)
  have l2 := looM E F a (s 0 2) 0 F (by omega) (by omega)
  have l3 := wtC E R F (s 0 10) 0 F (by omega) (by omega)
  have l4 := wtM E F a (s 0 10) 0 F (by omega) (by omega)
  have l1 : p92 F h = some (nI (cnt (fun i => decide (hI h 91 i = -1)) (s 0 2))) := l1
  have l3 : p174 F h = some (nI (cnt (fun i => decide (¬ hI h 142 i = -1)) (s 0 10))) := l3
  have l2 : p305_L97 F a F h 0 0 = some (nI (cnt (fun i => decide (hI h 91 i = -1)) (s 0 2))) := l2
  have l4 : p305_L173 F a F h 0 0 = some (nI (cnt (fun i => decide (¬ hI h 142 i = -1)) (s 0 10))) := l4
  unfold p165 p305
  rw [l1, l2, l3, l4, ob, ob, E.cn.c0, E.cn.m0, E.cn.c1, E.cn.m1, E.cn.c2, E.cn.m2, E.cn.c3, E.cn.m3, E.cn.c4, E.cn.m4, E.cn.c5, E.cn.m5, E.cn.c6, E.cn.m6, E.cn.c7, E.cn.m7, E.cn.c8, E.cn.m8, E.cn.c9, E.cn.m9, E.cn.c10, E.cn.m10, E.cn.c11, E.cn.m11, E.cn.c12, E.cn.m12, E.cn.c13, E.cn.m13]
  have hz : ∀ (c : Prop) [Decidable c] (x y : Option Int32), (∃ v, x = some v) → (∃ v, y = some v) → ∃ v, (if c then x else y) = some v := fun c _ x y h1 h2 => by
    by_cases z : c
    · rw [if_pos z]; exact h1
    · rw [if_neg z]; exact h2
  have fin : ∀ x : Option Int32, (∃ v, x = some v) → ∃ v, x = some v ∧ x = some v := fun x ⟨v, e⟩ => ⟨v, e, e⟩
  refine fin _ ?_
  repeat' (first | exact ⟨_, rfl⟩ | refine hz _ _ _ ?_ ?_)
end CNT
