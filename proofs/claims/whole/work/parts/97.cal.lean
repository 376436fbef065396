/-! call -/
def wtk (h : HS) (r : Nat) : Nat := (hI h 142 r).toNatClampNeg
abbrev elg (s : SS) (h : HS) (r : Nat) : Prop := ¬ hI h 142 r = -1 ∧ ¬ s 2 (wtk h r) = 100000 ∧ s 3 (wtk h r) = 100000
abbrev btr (s : SS) (h : HS) (i b : Nat) : Prop := 0 < lg_cmp (tvl s h i (wtk h i)) (tvl s h b (wtk h b)) ∨ (lg_cmp (tvl s h i (wtk h i)) (tvl s h b (wtk h b)) = 0 ∧ hI h 143 i < hI h 143 b)
def fmN (s : SS) (h : HS) : Nat → Option Nat
  | 0 => none
  | i + 1 => if elg s h i ∧ (∀ b, fmN s h i = some b → btr s h i b) then some i else fmN s h i
def fmV (s : SS) (h : HS) (o : Option Nat) : Int64 := match o with
  | none => 0
  | some b => tvl s h b (wtk h b)
section CAL
variable {s : SS} {h : HS}
theorem fmN_lt : ∀ (i b : Nat), fmN s h i = some b → b < i ∧ elg s h b := by
  intro i
  induction i with
  | zero => intro b h; cases h
  | succ i ih =>
    intro b hb
    rw [fmN] at hb
    by_cases z : elg s h i ∧ (∀ b, fmN s h i = some b → btr s h i b)
    · rw [if_pos z] at hb
      cases hb
      exact ⟨by omega, z.1⟩
    · rw [if_neg z] at hb
      have := ih b hb
      exact ⟨by omega, this.2⟩
theorem ru_k {g : HS} (w : 160 ≤ h.1) (f : FR ruW [] (stk s) h g) : hI g 142 = hI h 142 ∧ hI g 143 = hI h 143 := ⟨f.fA w 142 (by decide), f.fA w 143 (by decide)⟩
theorem fmC_L (E : EV s h) (R : RDc s h) (N : LN1 s h) (L : LWc s h) {F : Nat} (hF : 1000 ≤ F) : ∀ (m i n : Nat) (g : HS), i + m = s 0 10 → m < n → FR ruW [] (stk s) h g → ∃ g', FR ruW [] (stk s) h g' ∧ p182_L7 F n g (oI (fmN s h i)) (fmV s h (fmN s h i)) (nI i) = some (oI (fmN s h (s 0 10)), g') := by
  have w := E.w.1
  have b10 := E.cn.b10
  have b3 := E.cn.b3
  have b0 := E.cn.b0
  intro m
  induction m with
  | zero =>
    intro i n g hi hn f
    obtain ⟨n, rfl⟩ : ∃ n', n = n' + 1 := ⟨n - 1, by omega⟩
    obtain ⟨E1, R1, N1, L1⟩ := ru_fr1 E R N L f
    have e : i = s 0 10 := by omega
    subst e
    rw [p182_L7, E1.cn.c10, if_neg Int32.lt_irrefl]
    exact ⟨g, f, rfl⟩
  | succ m ih =>
    intro i n g hi hn f
    obtain ⟨n, rfl⟩ : ∃ n', n = n' + 1 := ⟨n - 1, by omega⟩
    obtain ⟨E1, R1, N1, L1⟩ := ru_fr1 E R N L f
    have ih' := fun g2 => ih (i + 1) n g2 (by omega) (by omega)
    obtain ⟨r1, r2, r3, r4, r5, r6, r7, r8⟩ := R1.1 i (by omega)
    obtain ⟨k2, k3⟩ := ru_k w f
    rw [fmN] at ih'
    have skip : ¬ elg s h i → ∃ g', FR ruW [] (stk s) h g' ∧ p182_L7 F n g (oI (fmN s h i)) (fmV s h (fmN s h i)) (nI (i + 1)) = some (oI (fmN s h (s 0 10)), g') := fun z => by
      rw [if_neg (fun y => z y.1)] at ih'
      exact ih' g f
    rw [p182_L7, E1.cn.c10, if_pos (nI_lt (by omega) (by omega)), if_neg (nI_in (by omega) (by decide)), nI_clamp (by omega), r1, ob, if_pos r2]
    unfold p182_j109 p182_j115
    rw [nI_1]
    rcases r6 with ⟨e1, e2⟩ | ⟨k, hk, e1, e2⟩
    · rw [e2, if_pos rfl]
      exact skip (fun z => z.1 (by rw [← k2]; exact e1))
    · have n142 : ¬ hI h 142 i = -1 := fun z => by rw [← k2, e1] at z; have := m1_nI (n := k) (by omega); rw [this] at z; exact z
      have ek : wtk h i = k := by unfold wtk; rw [← k2, e1]; exact nI_clamp (by omega)
      obtain ⟨-, -, y3, y4⟩ := dC_b (Nat.le_refl 3999) (E.sh.b2 hk) b0
      obtain ⟨-, -, x3, x4⟩ := dC_b (Nat.le_refl 3999) (E.sh.b3 hk) b0
      have d1 : dC (s 2 k) ≤ 4000 := (dC_b (Nat.le_refl 3999) (E.sh.b2 hk) b0).1
      have d2 : dC (s 3 k) ≤ 4000 := (dC_b (Nat.le_refl 3999) (E.sh.b3 hk) b0).1
      rw [e2, if_neg (by intro z; cases z), ob, if_pos (E1.sh.t hk), E1.sh.f2 hk, E1.sh.f3 hk]
      by_cases h2 : s 2 k = 100000
      · rw [if_pos (by rw [y3.mpr h2]; rfl)]
        exact skip (fun z => z.2.1 (by rw [ek]; exact h2))
      · rw [if_neg (fun z : nI (dC (s 2 k)) = (4000 : Int32) => h2 (y3.mp ((nI_eq (b := 4000) (by omega) (by decide)).mp z)))]
        by_cases h3 : s 3 k = 100000
        · have el : elg s h i := ⟨n142, by rw [ek]; exact h2, by rw [ek]; exact h3⟩
          obtain ⟨g2, f2, et⟩ := tunC E1 R1 N1 L1 (r := i) (by omega) hk e2 hF
          have f3 := f.tr f2
          obtain ⟨E3, R3, N3, L3⟩ := ru_fr1 E R N L f3
          obtain ⟨q2, q3⟩ := ru_k w f3
          rw [if_pos (by rw [x3.mpr h3]; rfl), if_neg (nI_in' (by omega) (by decide)), et, ob, tvl_ru w f]
          have tv : tvl s h i k = tvl s h i (wtk h i) := by rw [ek]
          rw [tv]
          cases e : fmN s h i with
          | none =>
            rw [e] at ih'
            rw [if_pos ⟨el, fun b hb => by cases hb⟩] at ih'
            rw [show oI none = -1 from rfl, if_pos rfl]
            exact ih' g2 f3
          | some b =>
            obtain ⟨hb, -⟩ := fmN_lt i b e
            rw [e] at ih'
            have ca : ∀ (c : Prop), (btr s h i b ↔ c) → (c → ∃ g', FR ruW [] (stk s) h g' ∧ p182_L7 F n g2 (nI i) (tvl s h i (wtk h i)) (nI (i + 1)) = some (oI (fmN s h (s 0 10)), g')) ∧ (¬ c → ∃ g', FR ruW [] (stk s) h g' ∧ p182_L7 F n g2 (nI b) (fmV s h (some b)) (nI (i + 1)) = some (oI (fmN s h (s 0 10)), g')) := fun c hc => by
              constructor
              · intro z
                rw [if_pos ⟨el, fun b' hb' => by cases hb'; exact hc.mpr z⟩] at ih'
                exact ih' g2 f3
              · intro z
                rw [if_neg (fun y => z (hc.mp (y.2 b rfl)))] at ih'
                exact ih' g2 f3
            obtain ⟨p1, p2, p3, p4, p5, p6, p7, p8⟩ := R3.1 i (by omega)
            obtain ⟨o1, o2, o3, o4, o5, o6, o7, o8⟩ := R3.1 b (by omega)
            rw [show oI (some b) = nI b from rfl, if_neg (fun z => by have := m1_nI (n := b) (by omega); rw [this] at z; exact z), show fmV s h (some b) = tvl s h b (wtk h b) from rfl, p1, ob, if_pos p2, if_neg (nI_in' (c := i) (by omega) (by decide)), if_neg (nI_in (c := b) (by omega) (by decide)), nI_clamp (by omega), o1, ob, if_pos o2, p7.1, o7.1, q3]
            obtain ⟨ca1, ca2⟩ := ca _ Iff.rfl
            by_cases g1 : 0 < lg_cmp (tvl s h i (wtk h i)) (tvl s h b (wtk h b))
            · rw [if_pos g1]
              exact ca1 (Or.inl g1)
            · rw [if_neg g1]
              by_cases g0 : lg_cmp (tvl s h i (wtk h i)) (tvl s h b (wtk h b)) = 0
              · rw [if_pos g0]
                by_cases g4 : hI h 143 i < hI h 143 b
                · rw [if_pos g4]
                  exact ca1 (Or.inr ⟨g0, g4⟩)
                · rw [if_neg g4]
                  exact ca2 (fun z => z.elim g1 (fun y => g4 y.2))
              · rw [if_neg g0]
                exact ca2 (fun z => z.elim g1 (fun y => g0 y.1))
        · rw [if_neg (fun z : nI (dC (s 3 k)) = (4000 : Int32) => h3 (x3.mp ((nI_eq (b := 4000) (by omega) (by decide)).mp z)))]
          exact skip (fun z => h3 (by rw [← ek]; exact z.2.2))
def fmE (F : Nat) (g : HS) (v1 : Int32) : Option (Int32 × HS) := if v1 = -1 then some (-1, g) else if v1 < 0 ∨ 30 ≤ v1.toNatClampNeg then none else Option.bind (p278 F g) fun r20 => p288_L143 F F r20 v1 (hI g 142 v1.toNatClampNeg) 0
theorem fmM_L (E : EV s h) (R : RDm s h) (N : LN1 s h) (L : LWc s h) {F : Nat} (hF : 1000 ≤ F) : ∀ (m i n : Nat) (g : HS), i + m = s 0 10 → m < n → FR ruW [] (stk s) h g → ∃ g', FR ruW [] (stk s) h g' ∧ p288_L7 F n g (oI (fmN s h i)) (fmV s h (fmN s h i)) (nI i) = fmE F g' (oI (fmN s h (s 0 10))) := by
  have w := E.w.1
  have b10 := E.cn.b10
  have b3 := E.cn.b3
  have b0 := E.cn.b0
  intro m
  induction m with
  | zero =>
    intro i n g hi hn f
    obtain ⟨n, rfl⟩ : ∃ n', n = n' + 1 := ⟨n - 1, by omega⟩
    obtain ⟨E1, R1, N1, L1⟩ := ru_fr2 E R N L f
    have e : i = s 0 10 := by omega
    subst e
    rw [p288_L7, E1.cn.m10, if_neg Int32.lt_irrefl]
    refine ⟨g, f, ?_⟩
    unfold fmE
    rfl
  | succ m ih =>
    intro i n g hi hn f
    obtain ⟨n, rfl⟩ : ∃ n', n = n' + 1 := ⟨n - 1, by omega⟩
    obtain ⟨E1, R1, N1, L1⟩ := ru_fr2 E R N L f
    have ih' := fun g2 => ih (i + 1) n g2 (by omega) (by omega)
    have r6 := (R1 i (by omega)).2
    obtain ⟨k2, k3⟩ := ru_k w f
    rw [fmN] at ih'
    have skip : ¬ elg s h i → ∃ g', FR ruW [] (stk s) h g' ∧ p288_L7 F n g (oI (fmN s h i)) (fmV s h (fmN s h i)) (nI (i + 1)) = fmE F g' (oI (fmN s h (s 0 10))) := fun z => by
      rw [if_neg (fun y => z y.1)] at ih'
      exact ih' g f
    rw [p288_L7, E1.cn.m10, if_pos (nI_lt (by omega) (by omega)), if_neg (nI_in (by omega) (by decide)), nI_clamp (by omega)]
    unfold p288_j109 p288_j115
    rw [nI_1]
    rcases r6 with e1 | ⟨k, hk, e1⟩
    · rw [e1, if_pos rfl]
      exact skip (fun z => z.1 (by rw [← k2]; exact e1))
    · have n142 : ¬ hI h 142 i = -1 := fun z => by rw [← k2, e1] at z; have := m1_nI (n := k) (by omega); rw [this] at z; exact z
      have ek : wtk h i = k := by unfold wtk; rw [← k2, e1]; exact nI_clamp (by omega)
      have o2 : s 2 k ≤ 100000 := by have := E.sh.b2 hk; unfold okDy at this; omega
      have o3 : s 3 k ≤ 100000 := by have := E.sh.b3 hk; unfold okDy at this; omega
      have gi : ¬ (nI i < 0 ∨ 30 ≤ i) := nI_in' (by omega) (by decide)
      rw [e1, if_neg (fun z => by have := m1_nI (n := k) (by omega); rw [this] at z; exact z), if_neg gi, if_neg (nI_in (c := k) (by omega) (by decide)), nI_clamp (n := k) (by omega), E1.sh.m2 hk, E1.sh.m3 hk]
      by_cases h2 : s 2 k = 100000
      · rw [if_pos (show nI (s 2 k) = (100000 : Int32) by rw [h2]; rfl)]
        exact skip (fun z => z.2.1 (by rw [ek]; exact h2))
      · rw [if_neg (fun z : nI (s 2 k) = (100000 : Int32) => h2 ((nI_eq (b := 100000) (by omega) (by decide)).mp z)), if_neg gi, if_neg (nI_in' (c := k) (by omega) (by decide))]
        by_cases h3 : s 3 k = 100000
        · have el : elg s h i := ⟨n142, by rw [ek]; exact h2, by rw [ek]; exact h3⟩
          obtain ⟨g2, f2, et⟩ := tunM E1 R1 N1 L1 (r := i) (by omega) hk e1 hF
          have f3 := f.tr f2
          obtain ⟨q2, q3⟩ := ru_k w f3
          rw [if_pos (show nI (s 3 k) = (100000 : Int32) by rw [h3]; rfl), et, ob, tvl_ru w f]
          have tv : tvl s h i k = tvl s h i (wtk h i) := by rw [ek]
          rw [tv]
          cases e : fmN s h i with
          | none =>
            rw [e] at ih'
            rw [if_pos ⟨el, fun b hb => by cases hb⟩] at ih'
            rw [show oI none = -1 from rfl, if_pos rfl]
            exact ih' g2 f3
          | some b =>
            obtain ⟨hb, -⟩ := fmN_lt i b e
            rw [e] at ih'
            have ca1 : btr s h i b → ∃ g', FR ruW [] (stk s) h g' ∧ p288_L7 F n g2 (nI i) (tvl s h i (wtk h i)) (nI (i + 1)) = fmE F g' (oI (fmN s h (s 0 10))) := fun z => by
              rw [if_pos ⟨el, fun b' hb' => by cases hb'; exact z⟩] at ih'
              exact ih' g2 f3
            have ca2 : ¬ btr s h i b → ∃ g', FR ruW [] (stk s) h g' ∧ p288_L7 F n g2 (nI b) (fmV s h (some b)) (nI (i + 1)) = fmE F g' (oI (fmN s h (s 0 10))) := fun z => by
              rw [if_neg (fun y => z (y.2 b rfl))] at ih'
              exact ih' g2 f3
            rw [show oI (some b) = nI b from rfl, if_neg (fun z => by have := m1_nI (n := b) (by omega); rw [this] at z; exact z), show fmV s h (some b) = tvl s h b (wtk h b) from rfl, if_neg gi, if_neg (nI_in (c := b) (by omega) (by decide)), nI_clamp (by omega), q3]
            by_cases g1 : 0 < lg_cmp (tvl s h i (wtk h i)) (tvl s h b (wtk h b))
            · rw [if_pos g1]
              exact ca1 (Or.inl g1)
            · rw [if_neg g1]
              by_cases g0 : lg_cmp (tvl s h i (wtk h i)) (tvl s h b (wtk h b)) = 0
              · rw [if_pos g0]
                by_cases g4 : hI h 143 i < hI h 143 b
                · rw [if_pos g4]
                  exact ca1 (Or.inr ⟨g0, g4⟩)
                · rw [if_neg g4]
                  exact ca2 (fun z => z.elim g1 (fun y => g4 y.2))
              · rw [if_neg g0]
                exact ca2 (fun z => z.elim g1 (fun y => g0 y.1))
        · rw [if_neg (fun z : nI (s 3 k) = (100000 : Int32) => h3 ((nI_eq (b := 100000) (by omega) (by decide)).mp z))]
          exact skip (fun z => h3 (by rw [← ek]; exact z.2.2))
/-- what is told -/
def tlW (v b : Nat) (x : Int32) : Int32 := if v = 0 then x ||| ((1 : Int32) <<< (nI b &&& 31)) else x
def tlL (v b : Nat) (x : Int32) : Int32 := if v = 1 then x ||| ((1 : Int32) <<< (nI b &&& 31)) else x
theorem tl_oth {v b r : Nat} (hb : b < 32) (hr : r < 32) (ne : ¬ r = b) (w l : Int32) : thw (tlW v b w) (tlL v b l) r = thw w l r := by
  have k : ∀ x : Int32, bt (x ||| ((1 : Int32) <<< (nI b &&& 31))) r = bt x r := fun x => by
    rw [bt_or, bt_1s b hb r hr, decide_eq_false ne, Bool.or_false]
  unfold thw tlW tlL
  by_cases h0 : v = 0
  · rw [if_pos h0, if_neg (show ¬ v = 1 by omega), k]
  · rw [if_neg h0]
    by_cases h1 : v = 1
    · rw [if_pos h1, k]
    · rw [if_neg h1]
theorem tl_own {v b : Nat} (hb : b < 32) (hv : v ≤ 2) (w l : Int32) : thw (tlW v b w) (tlL v b l) b = (if thw w l b < (2 : Int32) - nI v then (2 : Int32) - nI v else thw w l b) ∧ ∀ x, x = (2 : Int32) - nI v ∨ x = thw w l b → vp_nar .byte (x.toInt8.toInt32) = x := by
  have k : ∀ x : Int32, bt (x ||| ((1 : Int32) <<< (nI b &&& 31))) b = true := fun x => by
    rw [bt_or, bt_1s b hb b hb, decide_eq_true rfl, Bool.or_true]
  have tv : thw w l b = 0 ∨ thw w l b = 1 ∨ thw w l b = 2 := by
    unfold thw
    cases bt w b <;> cases bt l b
    · exact Or.inl rfl
    · exact Or.inr (Or.inl rfl)
    · exact Or.inr (Or.inr rfl)
    · exact Or.inr (Or.inr rfl)
  constructor
  · unfold tlW tlL
    by_cases h0 : v = 0
    · subst h0
      rw [if_pos rfl, if_neg (by decide)]
      have : thw (w ||| ((1 : Int32) <<< (nI b &&& 31))) l b = 2 := by unfold thw; rw [k]; rfl
      rw [this, show (2 : Int32) - nI 0 = 2 by decide]
      rcases tv with z | z | z <;> rw [z] <;> decide
    · rw [if_neg h0]
      by_cases h1 : v = 1
      · subst h1
        rw [if_pos rfl, show (2 : Int32) - nI 1 = 1 by decide]
        unfold thw
        rw [k]
        cases bt w b <;> cases bt l b <;> decide
      · rw [if_neg h1]
        have : v = 2 := by omega
        subst this
        rw [show (2 : Int32) - nI 2 = 0 by decide]
        rcases tv with z | z | z <;> rw [z] <;> decide
  · intro x hx
    rw [vp_nar_byte]
    have hz : ∀ x : Int32, x = 0 ∨ x = 1 ∨ x = 2 → x.toInt8.toInt32.toInt8.toInt32 = x := by rintro x (rfl | rfl | rfl) <;> decide
    apply hz
    rcases hx with rfl | rfl
    · have : v = 0 ∨ v = 1 ∨ v = 2 := by omega
      rcases this with rfl | rfl | rfl <;> decide
    · exact tv
def tlD (s : SS) (k : Nat) : Nat → Prop := fun x => stk s x ∨ x = s 30 k + 4 ∨ x = s 30 k + 5
theorem tl_fr (E : EV s h) (R : RDc s h) (N : LN1 s h) (L : LWc s h) (D : DI s) {k : Nat} (hk : k < s 0 3) {g : HS} (f : FR ruW [] (tlD s k) h g) : EV s g ∧ RDc s g ∧ LN1 s g ∧ LWc s g := by
  have tT : ∀ x, tlD s k x → hT h x = 23 ∨ hT h x = 20 := by
    rintro x (z | rfl | rfl)
    · exact Or.inl (stk_T L z)
    · exact Or.inr (E.sh.t4 hk).1
    · exact Or.inr (E.sh.t5 hk).1
  refine ⟨E.fr f (by decide) ⟨fun j hj z => ?_, fun j hj z => ?_, fun j hj z => ?_, fun j hj z => ?_⟩, R.fr E.w.1 f (by decide) (fun j hj z => ?_) rfl rfl (Nat.le_refl _) (Nat.le_refl _) (fun _ _ => rfl), N.fr E f (by decide) (fun i hi j hj z => ?_), L.fr E.w.1 f (by decide) (fun l hl j hj j1 z => ?_)⟩
  · have := E.sh.t hj; have := tT _ z; omega
  · have := E.sn.t hj; have := tT _ z; omega
  · have := E.rp.t hj; have := tT _ z; omega
  · have := E.bl.t hj; have := tT _ z; omega
  · have := (R.1 j hj).2.1; have := tT _ z; omega
  · rcases z with z | z | z
    · exact stk_ln L i hi j (by omega) z
    · by_cases e : i = k
      · subst e; omega
      · have := D.2.2.2.1 i k hi hk e; omega
    · by_cases e : i = k
      · subst e; omega
      · have := D.2.2.2.1 i k hi hk e; omega
  · rcases z with z | z | z
    · exact stk_lw L l hl j hj j1 z
    · have := L.2.2 l k hl hk; omega
    · have := L.2.2 l k hl hk; omega
theorem tlD160 (E : EV s h) (L : LWc s h) {k : Nat} (hk : k < s 0 3) : ∀ x, tlD s k x → 160 ≤ x := by
  have lo := E.sh.lo hk
  rintro x (z | rfl | rfl)
  · exact stk160 L x z
  · omega
  · omega
theorem vrb_eq {g : HS} {r i j : Nat} (e1 : hI g 141 = hI h 141) (e2 : hI g 142 = hI h 142) (e3 : hI g 143 = hI h 143) (e4 : hI g 144 = hI h 144) (e5 : hI g 145 = hI h 145) (e6 : hL g 138 = hL h 138) : vrb s g r i j = vrb s h r i j ∧ rcC s g r i j = rcC s h r i j ∧ rcM s g r i j = rcM s h r i j := by
  unfold vrb rcC rcM rcl
  rw [wRL_eq e1 e2 e3 e4 e5 e6]
  exact ⟨rfl, rfl, rfl⟩
end CAL
