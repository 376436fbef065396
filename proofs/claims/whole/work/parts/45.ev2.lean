/-! copies, who could have heard, accounts: both sides -/
def oI (o : Option Nat) : Int32 := match o with
  | none => -1
  | some k => nI k
def cpok (s : SS) (r d q : Nat) (b : Option Nat) : Bool := decide (¬ s 13 q = s 13 r ∧ s 15 q = s 15 r ∧ s 14 q = s 14 r ∧ s 16 q = s 16 r ∧ s 17 q = s 17 r) && decide (s 18 q < s 18 r ∨ s 18 q = s 18 r ∧ q < r) && knR s q d && (match b with
  | none => true
  | some b => decide (s 18 q < s 18 b))
def cpN (s : SS) (r d : Nat) : Nat → Option Nat
  | 0 => none
  | q + 1 => if cpok s r d q (cpN s r d q) then some q else cpN s r d q
theorem cpN_lt {s : SS} {r d : Nat} : ∀ (n k : Nat), cpN s r d n = some k → k < n
  | 0, _, h => by cases h
  | n + 1, k, h => by
    unfold cpN at h
    split at h
    · cases h; exact Nat.lt_succ_self _
    · have := cpN_lt n k h; omega
def noC (s : SS) (r d : Nat) : Bool := !anyN (fun q => !brs s r q d) (s 0 4)
section EV2
variable {s : SS} {h : HS}
theorem twn (E : EV s h) {i r : Nat} (hi : i < s 0 7) (hr : r < s 0 7) : p71 h (s 32 i) (some (s 32 r)) = some (b2 (decide (s 15 i = s 15 r ∧ s 14 i = s 14 r ∧ s 16 i = s 16 r ∧ s 17 i = s 17 r))) := by
  have c4 := E.cn.b4
  have x2 := E.rp.b2 hi
  have x3 := E.rp.b3 hi
  have x4 := E.rp.b4 hi
  have x5 := E.rp.b5 hi
  have x6 := E.rp.b6 hi
  have y2 := E.rp.b2 hr
  have y3 := E.rp.b3 hr
  have y4 := E.rp.b4 hr
  have y5 := E.rp.b5 hr
  have y6 := E.rp.b6 hr
  unfold p71
  rw [ob, if_pos (E.rp.t hr), E.rp.f5 hi, E.rp.f5 hr, E.rp.f4 hi, E.rp.f4 hr, E.rp.f6 hi, E.rp.f6 hr, E.rp.f8 hi, E.rp.f8 hr]
  simp (disch := omega) only [eq_nI]
  by_cases h1 : s 15 i = s 15 r
  · rw [if_pos h1]
    by_cases h2 : s 14 i = s 14 r
    · rw [if_pos h2]
      by_cases h3 : s 16 i = s 16 r
      · rw [if_pos h3]
        by_cases h4 : s 17 i = s 17 r
        · rw [if_pos h4, decide_eq_true ⟨h1, h2, h3, h4⟩]; rfl
        · rw [if_neg h4, decide_eq_false (fun z => h4 z.2.2.2)]; rfl
      · rw [if_neg h3, decide_eq_false (fun z => h3 z.2.2.1)]; rfl
    · rw [if_neg h2, decide_eq_false (fun z => h2 z.2.1)]; rfl
  · rw [if_neg h1, decide_eq_false (fun z => h1 z.1)]; rfl
def eI (s : SS) (o : Option Nat) : Int32 := match o with
  | none => 0
  | some k => nI (s 18 k)
theorem cpC_L (E : EV s h) {r d : Nat} (hr : r < s 0 7) (hd : d ≤ 3999) (F : Nat) : ∀ (m i n : Nat), i + m = s 0 7 → m < n → p21_L16 F (nI r) (nI d) n h (some (s 32 r)) (oI (cpN s r d i)) (eI s (cpN s r d i)) (nI i) = some (oI (cpN s r d (s 0 7))) := by
  have c7 := E.cn.b7
  have c6 := E.cn.b6
  have y1 := E.rp.b1 hr
  have y6 := E.rp.b6 hr
  intro m
  induction m with
  | zero =>
    intro i n hi hn
    obtain ⟨n, rfl⟩ : ∃ n', n = n' + 1 := ⟨n - 1, by omega⟩
    have e : i = s 0 7 := by omega
    subst e
    unfold p21_L16
    rw [E.cn.c7, if_neg Int32.lt_irrefl]
  | succ m ih =>
    intro i n hi hn
    obtain ⟨n, rfl⟩ : ∃ n', n = n' + 1 := ⟨n - 1, by omega⟩
    have hi' : i < s 0 7 := by omega
    have x1 := E.rp.b1 hi'
    have x6 := E.rp.b6 hi'
    have ih' := ih (i + 1) n (by omega) (by omega)
    unfold p21_L16
    rw [E.cn.c7, if_pos (nI_lt hi' (by omega)), if_neg (nI_in (by omega) (by omega)), nI_clamp (by omega), E.rp.o hi', ob, if_pos (E.rp.t hi'), ob, if_pos (E.rp.t hr), E.rp.f9 hi', E.rp.f9 hr]
    simp (disch := omega) only [lt_nI, eq_nI]
    unfold p21_j64 p21_j68 p21_j69 p21_j122 p21_j133
    rw [nI_1, if_neg (show ¬ (1 : Int32) = 0 by decide), if_pos (show (0 : Int32) = 0 from rfl), ob, if_pos (E.rp.t hi'), ob, if_pos (E.rp.t hr), E.rp.f3 hi', E.rp.f3 hr, E.rp.f9 hi', twn E hi' hr, ob, k_R E hi' hd, ob, ob, if_pos (E.rp.t hi'), E.rp.f9 hi']
    simp (disch := omega) only [b2_eq0, eq_nI]
    have no : cpok s r d i (cpN s r d i) = false → p21_L16 F (nI r) (nI d) n h (some (s 32 r)) (oI (cpN s r d i)) (eI s (cpN s r d i)) (nI (i + 1)) = some (oI (cpN s r d (s 0 7))) := fun z => by
      have e : cpN s r d (i + 1) = cpN s r d i := by
        show (if cpok s r d i (cpN s r d i) then some i else cpN s r d i) = _
        rw [z]; rfl
      rw [e] at ih'
      exact ih'
    have yes : cpok s r d i (cpN s r d i) = true → p21_L16 F (nI r) (nI d) n h (some (s 32 r)) (nI i) (nI (s 18 i)) (nI (i + 1)) = some (oI (cpN s r d (s 0 7))) := fun z => by
      have e : cpN s r d (i + 1) = some i := by
        show (if cpok s r d i (cpN s r d i) then some i else cpN s r d i) = _
        rw [z]; rfl
      rw [e] at ih'
      exact ih'
    have main : (s 18 i < s 18 r ∨ s 18 i = s 18 r ∧ i < r) → (if s 13 i = s 13 r then p21_L16 F (nI r) (nI d) n h (some (s 32 r)) (oI (cpN s r d i)) (eI s (cpN s r d i)) (nI (i + 1)) else if decide (s 15 i = s 15 r ∧ s 14 i = s 14 r ∧ s 16 i = s 16 r ∧ s 17 i = s 17 r) = false then p21_L16 F (nI r) (nI d) n h (some (s 32 r)) (oI (cpN s r d i)) (eI s (cpN s r d i)) (nI (i + 1)) else if knR s i d = false then p21_L16 F (nI r) (nI d) n h (some (s 32 r)) (oI (cpN s r d i)) (eI s (cpN s r d i)) (nI (i + 1)) else if oI (cpN s r d i) = -1 then p21_L16 F (nI r) (nI d) n h (some (s 32 r)) (nI i) (nI (s 18 i)) (nI (i + 1)) else if nI (s 18 i) < eI s (cpN s r d i) then p21_L16 F (nI r) (nI d) n h (some (s 32 r)) (nI i) (nI (s 18 i)) (nI (i + 1)) else p21_L16 F (nI r) (nI d) n h (some (s 32 r)) (oI (cpN s r d i)) (eI s (cpN s r d i)) (nI (i + 1))) = some (oI (cpN s r d (s 0 7))) := by
      intro ha
      by_cases h1 : s 13 i = s 13 r
      · rw [if_pos h1]; exact no (by unfold cpok; rw [decide_eq_false (fun z => z.1 h1)]; rfl)
      · rw [if_neg h1]
        by_cases h2 : s 15 i = s 15 r ∧ s 14 i = s 14 r ∧ s 16 i = s 16 r ∧ s 17 i = s 17 r
        · rw [decide_eq_true h2, if_neg (by decide)]
          cases h3 : knR s i d with
          | false => rw [if_pos rfl]; exact no (by unfold cpok; rw [h3, Bool.and_false]; rfl)
          | true =>
            rw [if_neg (by decide)]
            have e : cpok s r d i (cpN s r d i) = (match cpN s r d i with
              | none => true
              | some b => decide (s 18 i < s 18 b)) := by
              unfold cpok
              rw [h3, decide_eq_true ha, decide_eq_true ⟨h1, h2⟩]
              rfl
            cases hcp : cpN s r d i with
            | none =>
              rw [hcp] at e yes
              rw [if_pos (show oI none = -1 from rfl)]
              exact yes e
            | some b =>
              have hb := cpN_lt _ _ hcp
              have z6 := E.rp.b6 (show b < s 0 7 by omega)
              rw [if_neg (by unfold oI; rw [m1_nI (by omega)]; exact fun z => z)]
              rw [hcp] at e yes no
              unfold eI
              simp only
              simp (disch := omega) only [lt_nI]
              by_cases h4 : s 18 i < s 18 b
              · rw [if_pos h4]; exact yes (by rw [e]; exact decide_eq_true h4)
              · rw [if_neg h4]; exact no (by rw [e]; exact decide_eq_false h4)
        · rw [decide_eq_false h2, if_pos rfl]; exact no (by unfold cpok; rw [decide_eq_false (fun z => h2 z.2)]; rfl)
    by_cases a1 : s 18 i < s 18 r
    · rw [if_pos a1]; exact main (Or.inl a1)
    · rw [if_neg a1]
      by_cases a2 : s 18 i = s 18 r
      · rw [if_pos a2]
        by_cases a3 : i < r
        · rw [if_pos a3]; exact main (Or.inr ⟨a2, a3⟩)
        · rw [if_neg a3]; exact no (by unfold cpok; rw [decide_eq_false (p := s 18 i < s 18 r ∨ s 18 i = s 18 r ∧ i < r) (by omega), Bool.and_false]; rfl)
      · rw [if_neg a2]; exact no (by unfold cpok; rw [decide_eq_false (p := s 18 i < s 18 r ∨ s 18 i = s 18 r ∧ i < r) (by omega), Bool.and_false]; rfl)
theorem cpC (E : EV s h) {r d : Nat} (hr : r < s 0 7) (hd : d ≤ 3999) {F : Nat} (hF : 1000 ≤ F) : p21 F h (nI r) (nI d) = some (oI (cpN s r d (s 0 7))) := by
  have c7 := E.cn.b7
  unfold p21
  rw [if_neg (nI_in (by omega) (by omega)), nI_clamp (by omega), E.rp.o hr]
  exact cpC_L E hr hd F (s 0 7) 0 F (by omega) (by omega)
theorem cpM_L (E : EV s h) {r d : Nat} (hr : r < s 0 7) (hd : d ≤ 3999) (F : Nat) : ∀ (m i n : Nat), i + m = s 0 7 → m < n → p236_L5 F (nI r) (nI d) n h (oI (cpN s r d i)) (nI i) = some (oI (cpN s r d (s 0 7))) := by
  have c7 := E.cn.b7
  have c6 := E.cn.b6
  have c4 := E.cn.b4
  have y1 := E.rp.b1 hr
  have y2 := E.rp.b2 hr
  have y3 := E.rp.b3 hr
  have y4 := E.rp.b4 hr
  have y5 := E.rp.b5 hr
  have y6 := E.rp.b6 hr
  intro m
  induction m with
  | zero =>
    intro i n hi hn
    obtain ⟨n, rfl⟩ : ∃ n', n = n' + 1 := ⟨n - 1, by omega⟩
    have e : i = s 0 7 := by omega
    subst e
    unfold p236_L5
    rw [E.cn.m7, if_neg Int32.lt_irrefl]
  | succ m ih =>
    intro i n hi hn
    obtain ⟨n, rfl⟩ : ∃ n', n = n' + 1 := ⟨n - 1, by omega⟩
    have hi' : i < s 0 7 := by omega
    have x1 := E.rp.b1 hi'
    have x2 := E.rp.b2 hi'
    have x3 := E.rp.b3 hi'
    have x4 := E.rp.b4 hi'
    have x5 := E.rp.b5 hi'
    have x6 := E.rp.b6 hi'
    have ih' := ih (i + 1) n (by omega) (by omega)
    have no : cpok s r d i (cpN s r d i) = false → p236_L5 F (nI r) (nI d) n h (oI (cpN s r d i)) (nI (i + 1)) = some (oI (cpN s r d (s 0 7))) := fun z => by
      have e : cpN s r d (i + 1) = cpN s r d i := by
        show (if cpok s r d i (cpN s r d i) then some i else cpN s r d i) = _
        rw [z]; rfl
      rw [e] at ih'
      exact ih'
    have yes : cpok s r d i (cpN s r d i) = true → p236_L5 F (nI r) (nI d) n h (nI i) (nI (i + 1)) = some (oI (cpN s r d (s 0 7))) := fun z => by
      have e : cpN s r d (i + 1) = some i := by
        show (if cpok s r d i (cpN s r d i) then some i else cpN s r d i) = _
        rw [z]; rfl
      rw [e] at ih'
      exact ih'
    have gi : ¬ (nI i < 0 ∨ 200 ≤ (nI i).toNatClampNeg) := nI_in (by omega) (by omega)
    have gr : ¬ (nI r < 0 ∨ 200 ≤ (nI r).toNatClampNeg) := nI_in (by omega) (by omega)
    -- behind both tests
    have fin : ∀ (v5 s0 : Bool), (v5 = true → (¬ s 13 i = s 13 r ∧ s 15 i = s 15 r ∧ s 14 i = s 14 r ∧ s 16 i = s 16 r ∧ s 17 i = s 17 r)) → (s0 = true → (s 18 i < s 18 r ∨ s 18 i = s 18 r ∧ i < r)) → (v5 = false → cpok s r d i (cpN s r d i) = false) → (s0 = false → cpok s r d i (cpN s r d i) = false) → p236_j144 F (nI r) (nI d) (p236_L5 F (nI r) (nI d) n h) h (oI (cpN s r d i)) (nI i) (b2 v5) (b2 s0) = some (oI (cpN s r d (s 0 7))) := by
      intro v5 s0 h5 h0 n5 n0
      unfold p236_j144 p236_j187 p236_j190
      rw [nI_1, m_R E hi' hd, ob]
      simp (disch := omega) only [b2_eq0]
      cases v5 with
      | false => rw [if_pos rfl]; exact no (n5 rfl)
      | true =>
        rw [if_neg (by decide)]
        cases s0 with
        | false => rw [if_pos rfl]; exact no (n0 rfl)
        | true =>
          rw [if_neg (by decide)]
          cases h3 : knR s i d with
          | false => rw [if_pos rfl]; exact no (by unfold cpok; rw [h3, Bool.and_false]; rfl)
          | true =>
            rw [if_neg (by decide)]
            have e : cpok s r d i (cpN s r d i) = (match cpN s r d i with
              | none => true
              | some b => decide (s 18 i < s 18 b)) := by
              unfold cpok
              rw [h3, decide_eq_true (h0 rfl), decide_eq_true (h5 rfl)]
              rfl
            cases hcp : cpN s r d i with
            | none =>
              rw [hcp] at e yes
              rw [if_pos (show oI none = -1 from rfl)]
              exact yes e
            | some b =>
              have hb := cpN_lt _ _ hcp
              have z6 := E.rp.b6 (show b < s 0 7 by omega)
              rw [if_neg (by unfold oI; rw [m1_nI (by omega)]; exact fun z => z)]
              rw [hcp] at e yes no
              unfold oI
              simp only
              rw [if_neg gi, if_neg (nI_in (by omega) (by omega)), nI_clamp (by omega), nI_clamp (by omega), E.rp.m6 hi', E.rp.m6 (show b < s 0 7 by omega)]
              simp (disch := omega) only [lt_nI]
              by_cases h4 : s 18 i < s 18 b
              · rw [if_pos h4]; exact yes (by rw [e]; exact decide_eq_true h4)
              · rw [if_neg h4]; exact no (by rw [e]; exact decide_eq_false h4)
    have mid : ∀ (v5 : Bool), (v5 = true → (¬ s 13 i = s 13 r ∧ s 15 i = s 15 r ∧ s 14 i = s 14 r ∧ s 16 i = s 16 r ∧ s 17 i = s 17 r)) → (v5 = false → cpok s r d i (cpN s r d i) = false) → p236_j99 F (nI r) (nI d) (p236_L5 F (nI r) (nI d) n h) h (oI (cpN s r d i)) (nI i) (b2 v5) = some (oI (cpN s r d (s 0 7))) := by
      intro v5 h5 n5
      unfold p236_j99 p236_j139 p236_j143
      rw [if_neg gi, if_neg gr, if_neg gi, if_neg gr, nI_clamp (by omega), nI_clamp (by omega), E.rp.m6 hi', E.rp.m6 hr]
      simp (disch := omega) only [lt_nI, eq_nI]
      have f0 : ¬ (s 18 i < s 18 r ∨ s 18 i = s 18 r ∧ i < r) → cpok s r d i (cpN s r d i) = false := fun z => by unfold cpok; rw [decide_eq_false z, Bool.and_false]; rfl
      by_cases a1 : s 18 i < s 18 r
      · rw [if_pos a1]; exact fin v5 true h5 (fun _ => Or.inl a1) n5 (fun z => by cases z)
      · rw [if_neg a1]
        by_cases a2 : s 18 i = s 18 r
        · rw [if_pos a2]
          by_cases a3 : i < r
          · rw [if_pos a3]; exact fin v5 true h5 (fun _ => Or.inr ⟨a2, a3⟩) n5 (fun z => by cases z)
          · rw [if_neg a3]; exact fin v5 false h5 (fun z => by cases z) n5 (fun _ => f0 (by omega))
        · rw [if_neg a2]; exact fin v5 false h5 (fun z => by cases z) n5 (fun _ => f0 (by omega))
    unfold p236_L5 p236_j98
    rw [E.cn.m7, if_pos (nI_lt hi' (by omega)), if_neg gi, if_neg gr, if_neg gi, if_neg gr, if_neg gi, if_neg gr, if_neg gi, if_neg gr, if_neg gi, if_neg gr, nI_clamp (by omega), nI_clamp (by omega), E.rp.m1 hi', E.rp.m1 hr, E.rp.m3 hi', E.rp.m3 hr, E.rp.m2 hi', E.rp.m2 hr, E.rp.m4 hi', E.rp.m4 hr, E.rp.m5 hi', E.rp.m5 hr]
    simp (disch := omega) only [eq_nI]
    have f5 : ¬ (¬ s 13 i = s 13 r ∧ s 15 i = s 15 r ∧ s 14 i = s 14 r ∧ s 16 i = s 16 r ∧ s 17 i = s 17 r) → cpok s r d i (cpN s r d i) = false := fun z => by unfold cpok; rw [decide_eq_false z]; rfl
    by_cases h1 : s 13 i = s 13 r
    · rw [if_pos h1]; exact mid false (fun z => by cases z) (fun _ => f5 (fun z => z.1 h1))
    · rw [if_neg h1]
      by_cases h2 : s 15 i = s 15 r
      · rw [if_pos h2]
        by_cases h3 : s 14 i = s 14 r
        · rw [if_pos h3]
          by_cases h4 : s 16 i = s 16 r
          · rw [if_pos h4]
            by_cases h5 : s 17 i = s 17 r
            · rw [if_pos h5]; exact mid true (fun _ => ⟨h1, h2, h3, h4, h5⟩) (fun z => by cases z)
            · rw [if_neg h5]; exact mid false (fun z => by cases z) (fun _ => f5 (fun z => h5 z.2.2.2.2))
          · rw [if_neg h4]; exact mid false (fun z => by cases z) (fun _ => f5 (fun z => h4 z.2.2.2.1))
        · rw [if_neg h3]; exact mid false (fun z => by cases z) (fun _ => f5 (fun z => h3 z.2.2.1))
      · rw [if_neg h2]; exact mid false (fun z => by cases z) (fun _ => f5 (fun z => h2 z.2.1))
theorem cpM (E : EV s h) {r d : Nat} (hr : r < s 0 7) (hd : d ≤ 3999) {F : Nat} (hF : 1000 ≤ F) : p236 F h (nI r) (nI d) = some (oI (cpN s r d (s 0 7))) := by
  have c7 := E.cn.b7
  exact cpM_L E hr hd F (s 0 7) 0 F (by omega) (by omega)
theorem noCC (E : EV s h) {r d : Nat} (hr : r < s 0 7) (hd : d ≤ 3999) {F : Nat} (hF : 1000 ≤ F) : p20 F h (nI r) (nI d) = some (b2 (noC s r d)) := by
  have c7 := E.cn.b7
  have c4 := E.cn.b4
  obtain ⟨x, hx, hxb⟩ := ruled E hr hd hF
  unfold p20 p10
  rw [ob, if_neg (nI_in (by omega) (by omega)), nI_clamp (by omega), E.rp.o hr, hx, ob, E.cn.c4]
  simp only [lg0]
  have e : (((1 : Int64) <<< ((nI (s 0 4)).toInt64 &&& 63) - 1) &&& (x ^^^ (-1)) = 0) ↔ noC s r d = true := by
    unfold noC
    rw [Bool.not_eq_true', anyN_false]
    constructor
    · intro z i hi
      have := congrArg (fun y => b6 y i) z
      rw [b6_and, b6_all _ (by omega) i (by omega), b6_not (by omega), hxb i (by omega), b6_0, decide_eq_true hi, Bool.true_and] at this
      exact this
    · intro z
      apply b6_ext
      intro i hi
      rw [b6_and, b6_all _ (by omega) i hi, b6_not hi, hxb i hi, b6_0]
      by_cases hl : i < s 0 4
      · rw [z i hl, Bool.and_false]
      · rw [decide_eq_false hl, Bool.false_and]
  by_cases hn : noC s r d = true
  · rw [if_pos (e.mpr hn), hn]; rfl
  · rw [if_neg (fun z => hn (e.mp z))]
    have : noC s r d = false := by simpa using hn
    rw [this]; rfl
theorem noM_L (E : EV s h) {r d : Nat} (hr : r < s 0 7) (hd : d ≤ 3999) {F : Nat} (hF : 1000 ≤ F) : ∀ (m i n : Nat), i + m = s 0 4 → m < n → anyN (fun q => !brs s r q d) i = false → p235_L2 F (nI r) (nI d) n h (nI i) = some (b2 (noC s r d)) := by
  have c7 := E.cn.b7
  have c4 := E.cn.b4
  have y2 := E.rp.b2 hr
  have y4 := E.rp.b4 hr
  have y5 := E.rp.b5 hr
  have y6 := E.rp.b6 hr
  intro m
  induction m with
  | zero =>
    intro i n hi hn hb
    obtain ⟨n, rfl⟩ : ∃ n', n = n' + 1 := ⟨n - 1, by omega⟩
    have e : i = s 0 4 := by omega
    subst e
    unfold p235_L2 noC
    rw [E.cn.m4, if_neg Int32.lt_irrefl, hb]
    rfl
  | succ m ih =>
    intro i n hi hn hb
    obtain ⟨n, rfl⟩ : ∃ n', n = n' + 1 := ⟨n - 1, by omega⟩
    have hi' : i < s 0 4 := by omega
    have gr : ¬ (nI r < 0 ∨ 200 ≤ (nI r).toNatClampNeg) := nI_in (by omega) (by omega)
    unfold p235_L2 p235_j43
    rw [E.cn.m4, if_pos (nI_lt hi' (by omega)), if_neg gr, if_neg gr, if_neg gr, nI_clamp (by omega), E.rp.m2 hr, E.rp.m4 hr, E.rp.m5 hr, elsM E (by omega) (by omega) (by omega) hd hF, ob, nI_1]
    simp (disch := omega) only [eq_nI, b2_eq0]
    by_cases h1 : i = s 14 r
    · rw [if_pos h1]
      exact ih (i + 1) n (by omega) (by omega) (by rw [anyN_s, hb]; unfold brs; rw [decide_eq_true h1, Bool.or_true]; rfl)
    · rw [if_neg h1]
      have eb : brs s r i d = elsw s i (s 16 r) (s 17 r) d := by unfold brs; rw [decide_eq_false h1, Bool.or_false]
      cases h2 : elsw s i (s 16 r) (s 17 r) d with
      | false =>
        rw [if_pos rfl]
        have : noC s r d = false := by
          unfold noC
          rw [anyN_iff.mpr ⟨i, hi', by rw [eb, h2]; rfl⟩]
          rfl
        rw [this]; rfl
      | true =>
        rw [if_neg (by decide)]
        exact ih (i + 1) n (by omega) (by omega) (by rw [anyN_s, hb, eb, h2]; rfl)
theorem noM (E : EV s h) {r d : Nat} (hr : r < s 0 7) (hd : d ≤ 3999) {F : Nat} (hF : 1000 ≤ F) : p235 F h (nI r) (nI d) = some (b2 (noC s r d)) := by
  have c4 := E.cn.b4
  exact noM_L E hr hd hF (s 0 4) 0 F (by omega) (by omega) rfl
end EV2
