/-! who is sure; accounts -/
def sureN (s : SS) (c d : Nat) : Option Nat := if nR s c d = 0 then none else if cnt (cand s c d) (s 0 4) = 1 then kth (cand s c d) 0 (s 0 4) else none
def accB (s : SS) (h : HS) (o : Int32) (d : Nat) : Nat → Int32
  | 0 => 0
  | i + 1 => accB s h o d i + (if hI h 109 (s 22 i) = o ∧ knB s i d = true then nI (s 23 i) else 0)
def accR (s : SS) (h : HS) (o : Int32) (d : Nat) : Nat → Int32
  | 0 => accB s h o d (s 0 8)
  | i + 1 => accR s h o d i - (if hI h 109 (s 13 i) = o ∧ knR s i d = true ∧ cpN s i d (s 0 7) = none ∧ noC s i d = false then hI h 110 (s 15 i) else 0)
section EV4
variable {s : SS} {h : HS}
theorem cnt_cut {P : Nat → Bool} {n : Nat} (hn : n ≤ 64) : cnt (fun q => decide (q < n) && P q) 64 = cnt P n := by
  have e1 : cnt (fun q => decide (q < n) && P q) n = cnt P n := cnt_congr (fun i hi => by show (decide (i < n) && P i) = P i; rw [decide_eq_true hi, Bool.true_and])
  have e2 : cnt (fun i => (fun q => decide (q < n) && P q) (n + i)) (64 - n) = 0 := cnt_false (fun i hi => by show (decide (n + i < n) && P (n + i)) = false; rw [decide_eq_false (by omega), Bool.false_and])
  rw [show (64 : Nat) = n + (64 - n) by omega, cnt_add, e1, e2, Nat.add_zero]
theorem kth_cut {P : Nat → Bool} {n k : Nat} (hn : n ≤ 64) : kth (fun q => decide (q < n) && P q) k 64 = kth P k n := by
  rw [show (64 : Nat) = n + (64 - n) by omega, kth_beyond (fun i hi => by rw [decide_eq_false (by omega), Bool.false_and])]
  exact kth_congr n (fun i hi => by rw [decide_eq_true hi, Bool.true_and])
theorem popC (E : EV s h) {x : Int64} {c d : Nat} (hx : ∀ q, q < 64 → b6 x q = (decide (q < s 0 4) && cand s c d q)) (h' : HS) : p307 h' x = some (nI (cnt (cand s c d) (s 0 4))) := by
  have c4 := E.cn.b4
  rw [popE x h', cnt_congr hx, cnt_cut (by omega)]
theorem kthC (E : EV s h) {x : Int64} {c d k : Nat} (hx : ∀ q, q < 64 → b6 x q = (decide (q < s 0 4) && cand s c d q)) (hk : k < 2147483648) {F : Nat} (hF : 1000 ≤ F) (h' : HS) : p169 F h' x (nI k) = some (oI (kth (cand s c d) k (s 0 4))) := by
  have c4 := E.cn.b4
  unfold p169
  rw [show p169_L5 F x (nI k) F h' 0 0 = p169_L5 F x (nI k) F h' (nI (cnt (b6 x) 0)) (nI 0) from rfl, kthC_L hk F h' 64 0 F (by omega) (by omega) rfl, kth_congr 64 hx, kth_cut (by omega)]
theorem sureC (E : EV s h) {c d : Nat} (hc : c < 2147483648) (hd : d ≤ 3999) {F : Nat} (hF : 1000 ≤ F) : p17 F h (nI c) (nI d) = some (oI (sureN s c d)) := by
  have c7 := E.cn.b7
  have c4 := E.cn.b4
  obtain ⟨x, hx, hxb⟩ := candC E hc hd hF
  have l1 : nR s c d ≤ s 0 7 := cnt_le _ _
  have l2 : cnt (cand s c d) (s 0 4) ≤ s 0 4 := cnt_le _ _
  have k0 := kthC E hxb (k := 0) (by omega) hF h
  rw [show nI 0 = (0 : Int32) from rfl] at k0
  unfold p17 sureN
  rw [nRC E hc hd hF, ob, hx, ob, popC E hxb h, ob, k0, ob, show (0 : Int32) = nI 0 from rfl, show (1 : Int32) = nI 1 from rfl]
  simp (disch := omega) only [eq_nI]
  by_cases h1 : nR s c d = 0
  · rw [if_pos h1, if_pos h1]; rfl
  · rw [if_neg h1, if_neg h1]
    by_cases h2 : cnt (cand s c d) (s 0 4) = 1
    · rw [if_pos h2, if_pos h2]
    · rw [if_neg h2, if_neg h2]; rfl
theorem kthM_L (E : EV s h) {c d k : Nat} (hc : c < 2147483648) (hd : d ≤ 3999) (hk : k < 2147483648) {F : Nat} (hF : 1000 ≤ F) : ∀ (m i n : Nat), i + m = s 0 4 → m < n → kth (cand s c d) k i = none → cnt (cand s c d) i ≤ k → p229_L35 F (nI c) (nI d) (nI k) n h (nI (k - cnt (cand s c d) i)) (nI i) = some (oI (kth (cand s c d) k (s 0 4))) := by
  have c7 := E.cn.b7
  have c4 := E.cn.b4
  intro m
  induction m with
  | zero =>
    intro i n hi hn hb hle
    obtain ⟨n, rfl⟩ : ∃ n', n = n' + 1 := ⟨n - 1, by omega⟩
    have e : i = s 0 4 := by omega
    subst e
    unfold p229_L35
    rw [E.cn.m4, if_neg Int32.lt_irrefl, hb]
    rfl
  | succ m ih =>
    intro i n hi hn hb hle
    obtain ⟨n, rfl⟩ : ∃ n', n = n' + 1 := ⟨n - 1, by omega⟩
    have hi' : i < s 0 4 := by omega
    have ih' := ih (i + 1) n (by omega) (by omega)
    rw [cnt_s] at ih'
    have hle2 : outN s c i d ≤ s 0 7 := fsN_le _ _
    unfold p229_L35 p229_j71
    rw [E.cn.m4, if_pos (nI_lt hi' (by omega)), if_neg (nI_pos (by omega)), outM E hc (by omega) hd hF, ob, nI_1, show (0 : Int32) = nI 0 from rfl]
    simp (disch := omega) only [opI_m1, eq_nI]
    by_cases h1 : outN s c i d = s 0 7
    · rw [if_pos h1]
      have hca : cand s c d i = true := decide_eq_true h1
      rw [hca] at ih'
      by_cases h2 : cnt (cand s c d) i = k
      · rw [if_pos (by omega), kth_step hb hca h2 _ hi']
        rfl
      · rw [if_neg (by omega)]
        rw [show nI (k - cnt (cand s c d) i) + (-1) = nI (k - (cnt (cand s c d) i + 1)) by
          rw [show k - cnt (cand s c d) i = (k - (cnt (cand s c d) i + 1)) + 1 by omega]
          exact pk_m1 _]
        exact ih' (kth_no hb (fun _ => h2)) (by simp only [if_true]; omega)
    · rw [if_neg h1]
      have hca : cand s c d i = false := decide_eq_false h1
      rw [hca] at ih'
      exact ih' (kth_no hb (fun z => by rw [hca] at z; cases z)) (by simpa using hle)
theorem accBC_L (E : EV s h) (o51 : hI h 51 = hI h 109) {o : Int32} {d : Nat} (hd : d ≤ 3999) (F : Nat) : ∀ (m i n : Nat), i + m = s 0 8 → m < n → p22_L5 F o (nI d) n h (accB s h o d i) (nI i) = p22_L63 F o (nI d) F h (accR s h o d 0) 0 := by
  have c7 := E.cn.b8
  have c6 := E.cn.b6
  intro m
  induction m with
  | zero =>
    intro i n hi hn
    obtain ⟨n, rfl⟩ : ∃ n', n = n' + 1 := ⟨n - 1, by omega⟩
    have e : i = s 0 8 := by omega
    subst e
    unfold p22_L5
    rw [E.cn.c8, if_neg Int32.lt_irrefl]
    rfl
  | succ m ih =>
    intro i n hi hn
    obtain ⟨n, rfl⟩ : ∃ n', n = n' + 1 := ⟨n - 1, by omega⟩
    have hi' : i < s 0 8 := by omega
    have x1 := E.bl.b1 hi'
    have ih' := ih (i + 1) n (by omega) (by omega)
    rw [show accB s h o d (i + 1) = accB s h o d i + (if hI h 109 (s 22 i) = o ∧ knB s i d = true then nI (s 23 i) else 0) from rfl] at ih'
    unfold p22_L5 p22_j54
    rw [E.cn.c8, if_pos (nI_lt hi' (by omega)), if_neg (nI_in (by omega) (by omega)), nI_clamp (by omega), E.bl.o hi', ob, if_pos (E.bl.t hi'), E.bl.f3 hi', if_neg (nI_in (by omega) (by omega)), nI_clamp (by omega), o51, k_B E hi' hd, ob, E.bl.f7 hi', nI_1]
    simp (disch := omega) only [b2_eq0]
    by_cases h1 : hI h 109 (s 22 i) = o
    · rw [if_pos h1]
      cases h2 : knB s i d with
      | false =>
        rw [if_pos rfl]
        rw [if_neg (by rw [h2]; rintro ⟨-, z⟩; cases z), Int32.add_zero] at ih'
        exact ih'
      | true =>
        rw [if_neg (by decide)]
        rw [if_pos ⟨h1, h2⟩] at ih'
        exact ih'
    · rw [if_neg h1]
      rw [if_neg (fun z => h1 z.1), Int32.add_zero] at ih'
      exact ih'
theorem oI_m1 {o : Option Nat} (ho : ∀ k, o = some k → k < 2147483648) : (oI o = -1) = (o = none) := by
  cases o with
  | none => exact propext ⟨fun _ => rfl, fun _ => rfl⟩
  | some k =>
    refine propext ⟨fun z => ?_, fun z => by cases z⟩
    have z : nI k = -1 := z
    rw [m1_nI (ho k rfl)] at z
    exact z.elim
theorem accRC_L (E : EV s h) (o51 : hI h 51 = hI h 109) (o52 : hI h 52 = hI h 110) {o : Int32} {d : Nat} (hd : d ≤ 3999) {F : Nat} (hF : 1000 ≤ F) : ∀ (m i n : Nat), i + m = s 0 7 → m < n → p22_L63 F o (nI d) n h (accR s h o d i) (nI i) = some (accR s h o d (s 0 7)) := by
  have c7 := E.cn.b7
  have c6 := E.cn.b6
  intro m
  induction m with
  | zero =>
    intro i n hi hn
    obtain ⟨n, rfl⟩ : ∃ n', n = n' + 1 := ⟨n - 1, by omega⟩
    have e : i = s 0 7 := by omega
    subst e
    unfold p22_L63
    rw [E.cn.c7, if_neg Int32.lt_irrefl]
  | succ m ih =>
    intro i n hi hn
    obtain ⟨n, rfl⟩ : ∃ n', n = n' + 1 := ⟨n - 1, by omega⟩
    have hi' : i < s 0 7 := by omega
    have x1 := E.rp.b1 hi'
    have x3 := E.rp.b3 hi'
    have ih' := ih (i + 1) n (by omega) (by omega)
    have z : accR s h o d (i + 1) = accR s h o d i - (if hI h 109 (s 13 i) = o ∧ knR s i d = true ∧ cpN s i d (s 0 7) = none ∧ noC s i d = false then hI h 110 (s 15 i) else 0) := rfl
    rw [z] at ih'
    have hcl : ∀ k, cpN s i d (s 0 7) = some k → k < 2147483648 := fun k hk => by have := cpN_lt _ _ hk; omega
    unfold p22_L63 p22_j138
    rw [E.cn.c7, if_pos (nI_lt hi' (by omega)), if_neg (nI_in (by omega) (by omega)), nI_clamp (by omega), E.rp.o hi', ob, if_pos (E.rp.t hi'), E.rp.f3 hi', if_neg (nI_in (by omega) (by omega)), nI_clamp (by omega), o51, k_R E hi' hd, ob, cpC E hi' hd hF, ob, noCC E hi' hd hF, ob, E.rp.f5 hi', if_neg (nI_in (by omega) (by omega)), nI_clamp (by omega), o52, nI_1]
    simp only [b2_eq0, oI_m1 hcl]
    have no : ¬ (hI h 109 (s 13 i) = o ∧ knR s i d = true ∧ cpN s i d (s 0 7) = none ∧ noC s i d = false) → p22_L63 F o (nI d) n h (accR s h o d i) (nI (i + 1)) = some (accR s h o d (s 0 7)) := fun y => by
      rw [if_neg y, Int32.sub_zero] at ih'
      exact ih'
    by_cases h1 : hI h 109 (s 13 i) = o
    · rw [if_pos h1]
      by_cases h2 : knR s i d = false
      · rw [if_pos h2]; exact no (fun y => by rw [h2] at y; cases y.2.1)
      · rw [if_neg h2]
        by_cases h3 : cpN s i d (s 0 7) = none
        · rw [if_pos h3]
          by_cases h4 : noC s i d = false
          · rw [if_pos h4]
            rw [if_pos ⟨h1, by simpa using h2, h3, h4⟩] at ih'
            exact ih'
          · rw [if_neg h4]; exact no (fun y => h4 y.2.2.2)
        · rw [if_neg h3]; exact no (fun y => h3 y.2.2.1)
    · rw [if_neg h1]; exact no (fun y => h1 y.1)
theorem accC (E : EV s h) (o51 : hI h 51 = hI h 109) (o52 : hI h 52 = hI h 110) {o : Int32} {d : Nat} (hd : d ≤ 3999) {F : Nat} (hF : 1000 ≤ F) : p22 F h o (nI d) = some (accR s h o d (s 0 7)) := by
  have c7 := E.cn.b7
  have c8 := E.cn.b8
  unfold p22
  have := accBC_L E o51 (o := o) hd F (s 0 8) 0 F (by omega) (by omega)
  rw [show accB s h o d 0 = 0 from rfl, show nI 0 = (0 : Int32) from rfl] at this
  rw [this]
  exact accRC_L E o51 o52 hd hF (s 0 7) 0 F (by omega) (by omega)
theorem accBM_L (E : EV s h) {o : Int32} {d : Nat} (hd : d ≤ 3999) (F : Nat) : ∀ (m i n : Nat), i + m = s 0 8 → m < n → p240_L26 F o (nI d) n h (accB s h o d i) (nI i) = p240_L84 F o (nI d) F h (accR s h o d 0) 0 := by
  have c7 := E.cn.b8
  have c6 := E.cn.b6
  intro m
  induction m with
  | zero =>
    intro i n hi hn
    obtain ⟨n, rfl⟩ : ∃ n', n = n' + 1 := ⟨n - 1, by omega⟩
    have e : i = s 0 8 := by omega
    subst e
    unfold p240_L26
    rw [E.cn.m8, if_neg Int32.lt_irrefl]
    rfl
  | succ m ih =>
    intro i n hi hn
    obtain ⟨n, rfl⟩ : ∃ n', n = n' + 1 := ⟨n - 1, by omega⟩
    have hi' : i < s 0 8 := by omega
    have x1 := E.bl.b1 hi'
    have ih' := ih (i + 1) n (by omega) (by omega)
    rw [show accB s h o d (i + 1) = accB s h o d i + (if hI h 109 (s 22 i) = o ∧ knB s i d = true then nI (s 23 i) else 0) from rfl] at ih'
    unfold p240_L26 p240_j72 p240_j73
    rw [E.cn.m8, if_pos (nI_lt hi' (by omega)), if_neg (nI_in (by omega) (by omega)), nI_clamp (by omega), E.bl.m1 hi', if_neg (nI_in (by omega) (by omega)), nI_clamp (by omega), m_B E hi' hd, ob, if_neg (show ¬ (nI i < 0 ∨ 200 ≤ i) from fun z => z.elim (nI_pos (by omega)) (by omega)), E.bl.m2 hi', nI_1]
    simp (disch := omega) only [b2_eq0]
    by_cases h1 : hI h 109 (s 22 i) = o
    · rw [if_pos h1]
      cases h2 : knB s i d with
      | false =>
        rw [if_pos rfl]
        rw [if_neg (by rw [h2]; rintro ⟨-, z⟩; cases z)] at ih'
        exact ih'
      | true =>
        rw [if_neg (by decide)]
        rw [if_pos ⟨h1, h2⟩] at ih'
        exact ih'
    · rw [if_neg h1]
      rw [if_neg (fun z => h1 z.1)] at ih'
      exact ih'
theorem accRM_L (E : EV s h) {o : Int32} {d : Nat} (hd : d ≤ 3999) {F : Nat} (hF : 1000 ≤ F) : ∀ (m i n : Nat), i + m = s 0 7 → m < n → p240_L84 F o (nI d) n h (accR s h o d i) (nI i) = some (accR s h o d (s 0 7)) := by
  have c7 := E.cn.b7
  have c6 := E.cn.b6
  intro m
  induction m with
  | zero =>
    intro i n hi hn
    obtain ⟨n, rfl⟩ : ∃ n', n = n' + 1 := ⟨n - 1, by omega⟩
    have e : i = s 0 7 := by omega
    subst e
    unfold p240_L84
    rw [E.cn.m7, if_neg Int32.lt_irrefl]
  | succ m ih =>
    intro i n hi hn
    obtain ⟨n, rfl⟩ : ∃ n', n = n' + 1 := ⟨n - 1, by omega⟩
    have hi' : i < s 0 7 := by omega
    have x1 := E.rp.b1 hi'
    have x3 := E.rp.b3 hi'
    have ih' := ih (i + 1) n (by omega) (by omega)
    have z : accR s h o d (i + 1) = accR s h o d i - (if hI h 109 (s 13 i) = o ∧ knR s i d = true ∧ cpN s i d (s 0 7) = none ∧ noC s i d = false then hI h 110 (s 15 i) else 0) := rfl
    rw [z] at ih'
    have hcl : ∀ k, cpN s i d (s 0 7) = some k → k < 2147483648 := fun k hk => by have := cpN_lt _ _ hk; omega
    unfold p240_L84 p240_j144 p240_j145 p240_j169
    rw [E.cn.m7, if_pos (nI_lt hi' (by omega)), if_neg (nI_in (by omega) (by omega)), nI_clamp (by omega), E.rp.m1 hi', if_neg (nI_in (by omega) (by omega)), nI_clamp (by omega), m_R E hi' hd, ob, cpM E hi' hd hF, ob, noM E hi' hd hF, ob, E.rp.m3 hi', if_neg (nI_in (N := 32) (by omega) (by omega)), if_neg (show ¬ (nI i < 0 ∨ 200 ≤ i) from fun z => z.elim (nI_pos (by omega)) (by omega)), nI_clamp (by omega), nI_1, if_pos rfl, if_neg (show ¬ (1 : Int32) = 0 by decide)]
    simp only [b2_eq0, oI_m1 hcl]
    have no : ¬ (hI h 109 (s 13 i) = o ∧ knR s i d = true ∧ cpN s i d (s 0 7) = none ∧ noC s i d = false) → p240_L84 F o (nI d) n h (accR s h o d i - 0) (nI (i + 1)) = some (accR s h o d (s 0 7)) := fun y => by
      rw [if_neg y] at ih'
      exact ih'
    by_cases h1 : hI h 109 (s 13 i) = o
    · rw [if_pos h1]
      by_cases h2 : knR s i d = false
      · rw [if_pos h2]; exact no (fun y => by rw [h2] at y; cases y.2.1)
      · rw [if_neg h2]
        by_cases h3 : cpN s i d (s 0 7) = none
        · rw [if_pos h3]
          by_cases h4 : noC s i d = false
          · rw [if_pos h4]
            rw [if_pos ⟨h1, by simpa using h2, h3, h4⟩] at ih'
            exact ih'
          · rw [if_neg h4]; exact no (fun y => h4 y.2.2.2)
        · rw [if_neg h3]; exact no (fun y => h3 y.2.2.1)
    · rw [if_neg h1]; exact no (fun y => h1 y.1)
end EV4
