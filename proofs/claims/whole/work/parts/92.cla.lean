/-! clauses: the model's worth of one; the first that holds -/
section CLA
variable {s : SS} {h : HS}
theorem evM_L {l c e b sz : Nat} {tk : Nat → Nat} {ws : Nat → Int64} (w : 160 ≤ h.1) (hl : l < 20) (hc : c < 12) (hbe : b ≤ e) (hes : e ≤ sz) (hsz : sz ≤ 400) (v4 : hI h 132 (12 * l + c) = nI e) (v5 : ∀ k, k < sz → okT (tk k) ∧ hI h 133 (400 * l + k) = nI (opM (tk k)) ∧ (tk k < 10021 → hI h 134 (400 * l + k) = nI (whM (tk k)))) (vw : ∀ j, j < 11 → hL h 137 j = ws j) (hty : ∃ T, tyR tk b (e - b) = some (T, 1)) (hvl : vals tk b (e - b) ≤ 80) (F : Nat) : ∀ (m k n : Nat) (g : HS), b + k + m = e → m < n → FR [136] [] nD h g → (∀ j, j < (evR ws tk b k).2 → hL g 136 j = (evR ws tk b k).1 j) → ∃ g', FR [136] [] nD h g' ∧ p272_L15 F (nI (12 * l + c)) n g (nI (evR ws tk b k).2) (nI l) (nI (b + k)) = some ((evR ws tk b (e - b)).1 0, g') := by
  intro m
  induction m with
  | zero =>
    intro k n g hk hn f hg
    obtain ⟨n, rfl⟩ : ∃ n', n = n' + 1 := ⟨n - 1, by omega⟩
    obtain ⟨T, hT1⟩ := hty
    have ek : e - b = k := by omega
    rw [ek] at hT1 ⊢
    have ev2 := (ty_ev ws tk b k _ hT1).1
    have gv4 : hI g 132 (12 * l + c) = nI e := (congrFun (f.fA w 132 (by decide)) _).trans v4
    have hbk : b + k = e := by omega
    rw [p272_L15, if_neg (nI_in (by omega) (by decide)), nI_clamp (by omega), gv4, hbk, if_neg Int32.lt_irrefl, if_neg (show ¬ ((0 : Int32) < 0 ∨ 400 ≤ (0 : Int32).toNatClampNeg) from nI_in (c := 0) (by decide) (by decide))]
    refine ⟨g, f, ?_⟩
    rw [show (0 : Int32).toNatClampNeg = 0 from rfl, hg 0 (by rw [ev2]; exact Nat.zero_lt_one)]
  | succ m ih =>
    intro k n g hk hn f hg
    obtain ⟨n, rfl⟩ : ∃ n', n = n' + 1 := ⟨n - 1, by omega⟩
    have ih' := fun g' => ih (k + 1) n g' (by omega) (by omega)
    have hb1 : b + k < sz := by omega
    obtain ⟨ok, u3, u4⟩ := v5 (b + k) hb1
    obtain ⟨q, hq⟩ := tyR_le tk b (k := e - b) (j := k + 1) (by omega) (hty.elim fun T hT => ⟨_, hT⟩)
    rw [tyR] at hq
    obtain ⟨p, hp⟩ := tyR_le tk b (k := e - b) (j := k) (by omega) (hty.elim fun T hT => ⟨_, hT⟩)
    rw [hp, ob] at hq
    obtain ⟨i1, i2, -⟩ := ty_ev ws tk b k p hp
    have lv := vals_mono tk b (i := k + 1) (j := e - b) (by omega)
    have lv0 := vals_mono tk b (i := k) (j := e - b) (by omega)
    have gv4 : hI g 132 (12 * l + c) = nI e := (congrFun (f.fA w 132 (by decide)) _).trans v4
    have g3 : hI g 133 (400 * l + (b + k)) = nI (opM (tk (b + k))) := (congrFun (f.fA w 133 (by decide)) _).trans u3
    have g4 : tk (b + k) < 10021 → hI g 134 (400 * l + (b + k)) = nI (whM (tk (b + k))) := fun z => (congrFun (f.fA w 134 (by decide)) _).trans (u4 z)
    have gvw : ∀ j, j < 11 → hL g 137 j = ws j := fun j hj => (congrFun (f.fL w 137 (by decide)) j).trans (vw j hj)
    rw [evR] at ih'
    generalize hE : evR ws tk b k = E at *
    generalize ht : tk (b + k) = t at *
    have ea : (400 : Int32) * nI l + nI (b + k) = nI (400 * l + (b + k)) := by rw [show (400 : Int32) = nI 400 from rfl, nI_mul, nI_add]
    have gA : ¬ (nI (400 * l + (b + k)) < 0 ∨ 8000 ≤ 400 * l + (b + k)) := nI_in' (by omega) (by decide)
    rw [p272_L15, if_neg (nI_in (by omega) (by decide)), nI_clamp (by omega), gv4, if_pos (nI_lt (by omega) (by omega)), ea, nI_clamp (n := 400 * l + (b + k)) (by omega), if_neg gA, if_neg gA, g3]
    unfold p272_j67 p272_j90 p272_j155
    unfold evF at ih'
    have fin : ∀ v, valT ws t = v → t < 10021 → ∃ g', FR [136] [] nD h g' ∧ (if nI E.2 < (0 : Int32) ∨ 400 ≤ (nI E.2).toNatClampNeg then none else p272_L15 F (nI (12 * l + c)) n (hsL g 136 (nI E.2).toNatClampNeg v) (nI E.2 + 1) (nI l) (nI (b + k) + 1)) = some ((evR ws tk b (e - b)).1 0, g') := fun v hv2 h1 => by
      rw [if_neg (nI_in (c := E.2) (N := 400) (by omega) (by decide)), nI_clamp (by omega), nI_1, nI_1]
      rw [if_pos h1] at ih'
      refine ih' _ (f.sL (Or.inl (by decide))) (fun j hj => ?_)
      have hj : j < E.2 + 1 := hj
      show _ = u1 E.1 E.2 (valT ws t) j
      by_cases z : j = E.2
      · subst z
        rw [u1_eq, hv2]
        exact if_pos ⟨rfl, rfl⟩
      · rw [u1_ne z]
        exact (if_neg (fun y => z y.2)).trans (hg j (by omega))
    by_cases h0 : t < 10000
    · have o0 : opM t = 0 := by unfold opM; rw [if_pos h0]
      have w0 : whM t = t := by unfold whM; rw [if_pos h0]
      rw [o0, g4 (by omega), w0, if_pos (show nI 0 = (0 : Int32) from rfl), if_pos (show nI 0 = (0 : Int32) from rfl)]
      exact fin _ (by unfold valT; rw [if_pos (by omega), nI_l (by omega)]) (by omega)
    · by_cases h1 : t < 10021
      · have ok2 : 10010 ≤ t := by
          rcases ok with z | z | z | z
          · omega
          · omega
          · omega
          · have := of_decide_eq_true z; omega
        have o1 : opM t = 1 := by unfold opM; rw [if_neg h0, if_pos h1]
        have w1 : whM t = t - 10010 := by unfold whM; rw [if_neg h0]
        rw [o1, g4 h1, w1, if_neg (show ¬ nI 1 = (0 : Int32) by decide), if_pos (show nI 1 = (1 : Int32) from rfl), if_neg (show ¬ nI 1 = (0 : Int32) by decide), if_neg (nI_in (c := t - 10010) (N := 11) (by omega) (by decide)), nI_clamp (n := t - 10010) (by omega), gvw _ (by omega)]
        exact fin _ (by unfold valT; rw [if_neg (by omega)]) h1
      · rw [if_neg h1] at ih'
        by_cases h2 : t = 10030
        · subst h2
          have hp0 := tyF_N hq
          rw [← i1] at hp0
          have es : nI E.2 - 1 = nI (E.2 - 1) := by
            obtain ⟨d, hd⟩ : ∃ d, E.2 = d + 1 := ⟨E.2 - 1, by omega⟩
            rw [hd, nI_pred, Nat.add_sub_cancel]
          rw [if_pos rfl] at ih'
          rw [show opM 10030 = 14 from rfl, if_neg (show ¬ nI 14 = (0 : Int32) by decide), if_neg (show ¬ nI 14 = (1 : Int32) by decide), if_pos (show nI 14 = (14 : Int32) from rfl), es, if_neg (nI_in (c := E.2 - 1) (N := 400) (by omega) (by decide)), if_neg (nI_in (c := E.2 - 1) (N := 400) (by omega) (by decide)), nI_clamp (by omega), nI_1, hg (E.2 - 1) (by omega)]
          refine ih' _ (f.sL (Or.inl (by decide))) (fun j hj => ?_)
          have hj : j < E.2 := hj
          show _ = u1 E.1 (E.2 - 1) (1 - E.1 (E.2 - 1)) j
          by_cases z : j = E.2 - 1
          · subst z
            rw [u1_eq]
            exact if_pos ⟨rfl, rfl⟩
          · rw [u1_ne z]
            exact (if_neg (fun y => z y.2)).trans (hg j hj)
        · rw [if_neg h2] at ih'
          obtain ⟨hj, hp2⟩ := tyF_J hq h1 h2
          rw [← i1] at hp2
          have zj := of_decide_eq_true hj
          have o3 : 3 ≤ opM t ∧ opM t ≤ 13 := by
            unfold opM
            rw [if_neg h0, if_neg h1, if_neg h2]
            split
            · omega
            · split
              · omega
              · split <;> omega
          have e1 : nI E.2 + -1 = nI (E.2 - 1) := by
            obtain ⟨d, hd⟩ : ∃ d, E.2 = d + 1 := ⟨E.2 - 1, by omega⟩
            rw [hd, ← Int32.sub_eq_add_neg, nI_pred, Nat.add_sub_cancel]
          have e2 : nI (E.2 - 1) - 1 = nI (E.2 - 2) := by
            obtain ⟨d, hd⟩ : ∃ d, E.2 = d + 2 := ⟨E.2 - 2, by omega⟩
            rw [hd, show d + 2 - 1 = d + 1 by omega, nI_pred, Nat.add_sub_cancel]
          rw [if_neg (show ¬ nI (opM t) = (0 : Int32) from fun z => by have := (nI_eq (b := 0) (by omega) (by decide)).mp z; omega), if_neg (show ¬ nI (opM t) = (1 : Int32) from fun z => by have := (nI_eq (b := 1) (by omega) (by decide)).mp z; omega), if_neg (show ¬ nI (opM t) = (14 : Int32) from fun z => by have := (nI_eq (b := 14) (by omega) (by decide)).mp z; omega), e1, e2, if_neg (nI_in (c := E.2 - 2) (N := 400) (by omega) (by decide)), if_neg (nI_in (c := E.2 - 1) (N := 400) (by omega) (by decide)), nI_clamp (by omega), nI_clamp (by omega), jM hj, ob, hg _ (by omega), hg _ (by omega), if_neg (nI_in' (c := E.2 - 2) (N := 400) (by omega) (by decide)), nI_1]
          refine ih' _ (f.sL (Or.inl (by decide))) (fun j hj => ?_)
          have hj : j < E.2 - 1 := hj
          show _ = u1 E.1 (E.2 - 2) _ j
          by_cases z : j = E.2 - 2
          · subst z
            rw [u1_eq]
            exact if_pos ⟨rfl, rfl⟩
          · rw [u1_ne z]
            exact (if_neg (fun y => z y.2)).trans (hg j (by omega))
theorem clE (L : LWc s h) {l c : Nat} (hl : l < s 0 9) (hc : c < s 45 l) : s (1100 + l) c ≤ 400 ∧ beg s l c ≤ 400 ∧ ∃ T, tyR (s (1000 + l)) (beg s l c) (s (1100 + l) c - beg s l c) = some (T, 1) := by
  obtain ⟨A, B, C, T⟩ := L.1 l hl
  obtain ⟨c1, c2, c3, c4, c5, c6, c7, c8, c9, ⟨T, cT, -⟩, c11⟩ := C c hc
  have := A.2.2.2.2.2.2.2.2.2
  exact ⟨by omega, by omega, T, cT⟩
/-- a test is worth 0 or 1 -/
theorem cval_b (L : LWc s h) {l c : Nat} (ws : Nat → Int64) (hl : l < s 0 9) (hc : c < s 45 l) (hk : s (1200 + l) c < 2) : cval s ws l c = 0 ∨ cval s ws l c = 1 := by
  obtain ⟨A, B, C, T⟩ := L.1 l hl
  obtain ⟨c1, c2, c3, c4, c5, c6, c7, c8, c9, ⟨T, cT, cb⟩, c11⟩ := C c hc
  exact (ty_ev ws _ _ _ _ cT).2.2 0 Nat.zero_lt_one (show T 0 = true by rw [cb]; exact decide_eq_true hk)
theorem worC (L : LWc s h) {l c : Nat} {ws : Nat → Int64} (hl : l < s 0 9) (hc : c < s 45 l) (tw : hT h 85 = 23 ∧ hN h 85 = 11) (vw : ∀ j, j < 11 → hL h 85 j = ws j) {F : Nat} (hF : 1000 ≤ F) : ∃ g, FR [] [] (fun x => x = s 34 l + 1) h g ∧ p27 F h (s 34 l) (nI c) (some 85) = some (cval s ws l c, g) := by
  obtain ⟨A, B, C, T⟩ := L.1 l hl
  obtain ⟨r6, r3, r2, r4, r5, t1, t2, t3, t4, t5⟩ := B
  obtain ⟨a1, a2, ⟨lo, up⟩, a4, a5, a6, a7, a8, a9, a10⟩ := A
  obtain ⟨c1, c2, c3, c4, c5, c6, c7, c8, c9, ⟨T', cT, -⟩, c11⟩ := C c hc
  have L1 := evC_L (h := h) (o := s 34 l) (c := c) (e := s (1100 + l) c) (b := beg s l c) (sz := s 46 l) (nc := s 45 l) (tk := s (1000 + l)) (ws := ws) lo up hc a9 c8 c9 a10 r4 t4 c5 r5 t5 (fun k hk => ⟨(T k hk).1, (T k hk).2.1⟩) r6 t1 tw vw ⟨T', cT⟩ c11 F (s (1100 + l) c - beg s l c) 0 F h (by omega) (by omega) (FR.rf (fun x z => by omega)) (fun j hj => absurd hj (Nat.not_lt_zero j))
  obtain ⟨g, fg, eg⟩ := L1
  refine ⟨g, fg, ?_⟩
  unfold p27 p27_j18
  have eg' : p27_L20 F (s 34 l) (nI c) (some 85) F h 0 (nI (beg s l c)) = some (cval s ws l c, g) := eg
  by_cases z : c = 0
  · subst z
    rw [if_pos (show nI 0 = (0 : Int32) from rfl)]
    exact eg'
  · have es : nI c - 1 = nI (c - 1) := by
      obtain ⟨d, hd⟩ : ∃ d, c = d + 1 := ⟨c - 1, by omega⟩
      rw [hd, nI_pred, Nat.add_sub_cancel]
    have hb : beg s l c = s (1100 + l) (c - 1) := if_neg z
    obtain ⟨-, -, -, -, d5, -⟩ := C (c - 1) (by omega)
    rw [if_neg (nI_ne0 (by omega) (by omega)), r4, ob, if_pos t4.1, t4.2, es, if_neg (nI_in (by omega) (by omega)), nI_clamp (by omega), d5, ← hb]
    exact eg'
theorem d12 : ∀ a, a < 240 → nI a / 12 = nI (a / 12) ∧ nI a - nI a / 12 * 12 = nI (a % 12) := by decide +kernel
theorem worM (E : EV s h) (L : LWc s h) {l c : Nat} {ws : Nat → Int64} (hl : l < s 0 9) (hc : c < s 45 l) (vw : ∀ j, j < 11 → hL h 137 j = ws j) {F : Nat} (hF : 1000 ≤ F) : ∃ g, FR [136] [] nD h g ∧ p272 F h (nI (12 * l + c)) = some (cval s ws l c, g) := by
  have b9 := E.cn.b9
  obtain ⟨A, B, C, T⟩ := L.1 l hl
  obtain ⟨a1, a2, ⟨lo, up⟩, a4, a5, a6, a7, a8, a9, a10⟩ := A
  obtain ⟨c1, c2, c3, c4, c5, c6, c7, c8, c9, ⟨T', cT, -⟩, c11⟩ := C c hc
  obtain ⟨g, fg, eg⟩ := evM_L (h := h) (l := l) (c := c) (e := s (1100 + l) c) (b := beg s l c) (sz := s 46 l) (tk := s (1000 + l)) (ws := ws) E.w.1 (by omega) (by omega) c8 c9 a10 c6 (fun k hk => (T k hk).2) vw ⟨T', cT⟩ c11 F (s (1100 + l) c - beg s l c) 0 F h (by omega) (by omega) (FR.rf nD160) (fun j hj => absurd hj (Nat.not_lt_zero j))
  refine ⟨g, fg, ?_⟩
  unfold p272
  rw [if_neg (by decide), if_neg (nI_in (by omega) (by decide)), nI_clamp (by omega), c7, (d12 _ (by omega)).1, show (12 * l + c) / 12 = l by omega]
  exact eg
/-- the first clause of a kind that holds: the class -/
theorem ftC (E : EV s h) (L : LWc s h) {l kd : Nat} {ws : Nat → Int64} (hl : l < s 0 9) (hk : kd < 2) (tw : hT h 85 = 23 ∧ hN h 85 = 11) (vw : ∀ j, j < 11 → hL h 85 j = ws j) {F : Nat} (hF : 1000 ≤ F) : ∀ (m c n : Nat) (g : HS), c + m = s 45 l → m < n → FR [] [] (fun x => x = s 34 l + 1) h g → (∀ j, j < c → fcl s ws l kd j = false) → ∃ g', FR [] [] (fun x => x = s 34 l + 1) h g' ∧ p25_L2 F (s 34 l) (nI (10021 + kd)) (some 85) n g (nI c) = some (opI (s 45 l) (fsN (fcl s ws l kd) (s 45 l)), g') := by
  have ow : wl [] [] := by decide
  obtain ⟨A, B, C, T⟩ := L.1 l hl
  obtain ⟨r6, r3, r2, r4, r5, t1, t2, t3, t4, t5⟩ := B
  obtain ⟨a1, a2, ⟨lo, up⟩, a4, a5, a6, a7, a8, a9, a10⟩ := A
  intro m
  induction m with
  | zero =>
    intro c n g hc hn f hb
    obtain ⟨n, rfl⟩ : ∃ n', n = n' + 1 := ⟨n - 1, by omega⟩
    have e : c = s 45 l := by omega
    subst e
    have g3 : hR g (s 34 l) 3 = some (s 34 l + 2) := (f.oR ow.1 lo (by omega) (by omega) 3).trans r3
    rw [p25_L2, g3, ob, if_pos ((f.T (by omega)).trans t2.1), (f.N (by omega)).trans t2.2, if_neg (show ¬ nI (s 45 l) < Int32.ofNat (s 45 l) from Int32.lt_irrefl)]
    refine ⟨g, f, ?_⟩
    rw [fsN_none hb]
    unfold opI
    rw [if_neg (Nat.lt_irrefl _)]
  | succ m ih =>
    intro c n g hc hn f hb
    obtain ⟨n, rfl⟩ : ∃ n', n = n' + 1 := ⟨n - 1, by omega⟩
    have hcl : c < s 45 l := by omega
    obtain ⟨c1, c2, c3, c4, c5, c6, c7, c8, c9, -, c11⟩ := C c hcl
    have g3 : hR g (s 34 l) 3 = some (s 34 l + 2) := (f.oR ow.1 lo (by omega) (by omega) 3).trans r3
    have gt2 : hT g (s 34 l + 2) = 20 := (f.T (by omega)).trans t2.1
    have gn2 : hN g (s 34 l + 2) = s 45 l := (f.N (by omega)).trans t2.2
    have gv2 : hI g (s 34 l + 2) c = nI (10021 + s (1200 + l) c) := (f.oI ow.1 ow.2 (by omega) (by omega) (by omega) c).trans c2
    have ga2 : hT g (s 34 l) = 1 := (f.T (by omega)).trans a2
    rw [p25_L2, g3, ob, if_pos gt2, gn2, if_pos (show nI c < Int32.ofNat (s 45 l) from nI_lt hcl (by omega)), ob, if_pos gt2, gn2, if_neg (nI_in hcl (by omega)), nI_clamp (by omega), gv2]
    unfold p25_j34
    rw [nI_1 c]
    have go : fcl s ws l kd c = false → ∀ g2, FR [] [] (fun x => x = s 34 l + 1) h g2 → ∃ g', FR [] [] (fun x => x = s 34 l + 1) h g' ∧ (if hT g2 (s 34 l) = 1 then p25_L2 F (s 34 l) (nI (10021 + kd)) (some 85) n g2 (nI (c + 1)) else none) = some (opI (s 45 l) (fsN (fcl s ws l kd) (s 45 l)), g') := fun hz g2 f2 => by
      rw [if_pos ((f2.T (by omega)).trans a2)]
      exact ih (c + 1) n g2 (by omega) (by omega) f2 (fun j hj => by
        by_cases z : j = c
        · subst z; exact hz
        · exact hb j (by omega))
    by_cases h1 : s (1200 + l) c = kd
    · have L2 : LWc s g := L.fr E.w.1 f (by decide) (fun m hm k hk k1 z => stk_lw L m hm k hk k1 ⟨l, hl, z⟩)
      have gw : hT g 85 = 23 ∧ hN g 85 = 11 := ⟨(f.T (by have := E.w.1; omega)).trans tw.1, (f.N (by have := E.w.1; omega)).trans tw.2⟩
      have gvw : ∀ j, j < 11 → hL g 85 j = ws j := fun j hj => (congrFun (f.fL E.w.1 85 (by decide)) j).trans (vw j hj)
      obtain ⟨g2, f2, e2⟩ := worC L2 hl hcl gw gvw hF
      have f3 := f.tr f2
      rw [h1, if_pos rfl, e2, ob]
      have fv : fcl s ws l kd c = decide (¬ cval s ws l c = 0) := by unfold fcl; rw [decide_eq_true h1, Bool.true_and]
      by_cases h2 : cval s ws l c = 0
      · rw [if_pos (show lg_cmp (cval s ws l c) 0 = 0 by rw [lg0]; exact h2)]
        have nz : ¬ ¬ cval s ws l c = 0 := fun z => z h2
        exact go (by rw [fv, decide_eq_false nz]) g2 f3
      · rw [if_neg (show ¬ lg_cmp (cval s ws l c) 0 = 0 by rw [lg0]; exact h2)]
        refine ⟨g2, f3, ?_⟩
        rw [fsN_first hcl (by rw [fv, decide_eq_true h2]) hb]
        unfold opI
        rw [if_pos hcl]
    · rw [if_neg (fun z => h1 (by have := (nI_eq (by omega) (by omega)).mp z; omega))]
      exact go (by unfold fcl; rw [decide_eq_false h1, Bool.false_and]) g f
def opL (l nc k : Nat) : Int32 := if k < nc then nI (12 * l + k) else -1
theorem lg1 (u : Int64) : (lg_cmp u 1 = 0) = (u = 1) := lg_sub0 u 1
/-- the model's first clause that holds -/
theorem ftM (E : EV s h) (L : LWc s h) {l kd : Nat} {ws : Nat → Int64} (hl : l < s 0 9) (hk : kd < 2) (vw : ∀ j, j < 11 → hL h 137 j = ws j) {F : Nat} (hF : 1000 ≤ F) : ∀ (m c n : Nat) (g : HS), c + m = s 45 l → m < n → FR [136] [] nD h g → (∀ j, j < c → fcl s ws l kd j = false) → ∃ g', FR [136] [] nD h g' ∧ p274_L2 F (nI l) (nI kd) n g (nI c) = some (opL l (s 45 l) (fsN (fcl s ws l kd) (s 45 l)), g') := by
  have w := E.w.1
  have b9 := E.cn.b9
  obtain ⟨A, B, C, T⟩ := L.1 l hl
  obtain ⟨a1, a2, ⟨lo, up⟩, a4, a5, a6, a7, a8, a9, a10⟩ := A
  have lm : ¬ nI l = -1 := fun z => by have := m1_nI (n := l) (by omega); rw [this] at z; exact z
  intro m
  induction m with
  | zero =>
    intro c n g hc hn f hb
    obtain ⟨n, rfl⟩ : ∃ n', n = n' + 1 := ⟨n - 1, by omega⟩
    have e : c = s 45 l := by omega
    subst e
    have g8 : hI g 128 l = nI (s 45 l) := (congrFun (f.fA w 128 (by decide)) l).trans a8
    rw [p274_L2, if_neg lm, if_neg (nI_in (by omega) (by decide)), nI_clamp (by omega), g8, if_neg Int32.lt_irrefl]
    refine ⟨g, f, ?_⟩
    rw [fsN_none hb]
    unfold opL
    rw [if_neg (Nat.lt_irrefl _)]
  | succ m ih =>
    intro c n g hc hn f hb
    obtain ⟨n, rfl⟩ : ∃ n', n = n' + 1 := ⟨n - 1, by omega⟩
    have hcl : c < s 45 l := by omega
    obtain ⟨c1, c2, c3, c4, c5, c6, c7, c8, c9, -, c11⟩ := C c hcl
    have g8 : hI g 128 l = nI (s 45 l) := (congrFun (f.fA w 128 (by decide)) l).trans a8
    have g9 : hI g 129 (12 * l + c) = nI (s (1200 + l) c) := (congrFun (f.fA w 129 (by decide)) _).trans c3
    have ea : (12 : Int32) * nI l + nI c = nI (12 * l + c) := by rw [show (12 : Int32) = nI 12 from rfl, nI_mul, nI_add]
    rw [p274_L2, if_neg lm, if_neg (nI_in (by omega) (by decide)), nI_clamp (by omega), g8, if_pos (nI_lt hcl (by omega)), ea, if_neg (nI_in (by omega) (by decide)), nI_clamp (by omega), g9]
    unfold p274_j55
    rw [nI_1 c]
    have go : fcl s ws l kd c = false → ∀ g2, FR [136] [] nD h g2 → ∃ g', FR [136] [] nD h g' ∧ p274_L2 F (nI l) (nI kd) n g2 (nI (c + 1)) = some (opL l (s 45 l) (fsN (fcl s ws l kd) (s 45 l)), g') := fun hz g2 f2 =>
      ih (c + 1) n g2 (by omega) (by omega) f2 (fun j hj => by
        by_cases z : j = c
        · subst z; exact hz
        · exact hb j (by omega))
    by_cases h1 : s (1200 + l) c = kd
    · have E2 : EV s g := E.fr f (by decide) evD_n
      have L2 : LWc s g := L.fr w f (by decide) (fun _ _ _ _ _ => id)
      have gvw : ∀ j, j < 11 → hL g 137 j = ws j := fun j hj => (congrFun (f.fL w 137 (by decide)) j).trans (vw j hj)
      obtain ⟨g2, f2, e2⟩ := worM E2 L2 hl hcl gvw hF
      have f3 := f.tr f2
      rw [h1, if_pos rfl, if_neg (show ¬ nI kd = (2 : Int32) from fun z => by have := (nI_eq (b := 2) (by omega) (by decide)).mp z; omega), e2, ob]
      simp only [lg1]
      have fv : fcl s ws l kd c = decide (¬ cval s ws l c = 0) := by unfold fcl; rw [decide_eq_true h1, Bool.true_and]
      rcases cval_b L ws hl hcl (by omega) with h2 | h2
      · rw [if_neg (by rw [h2]; decide)]
        have nz : ¬ ¬ cval s ws l c = 0 := fun z => z h2
        exact go (by rw [fv, decide_eq_false nz]) g2 f3
      · rw [if_pos h2]
        refine ⟨g2, f3, ?_⟩
        have h3 : ¬ cval s ws l c = 0 := by rw [h2]; decide
        rw [fsN_first hcl (by rw [fv, decide_eq_true h3]) hb]
        unfold opL
        rw [if_pos hcl]
    · rw [if_neg (fun z => h1 ((nI_eq (by omega) (by omega)).mp z))]
      exact go (by unfold fcl; rw [decide_eq_false h1, Bool.false_and]) g f
/-- the clause turn: both sides -/
def tuc (s : SS) (l c : Nat) : Bool := decide (s (1200 + l) c = 2)
def tuV (s : SS) (ws : Nat → Int64) (l : Nat) : Int64 := if fsN (tuc s l) (s 45 l) < s 45 l then cval s ws l (fsN (tuc s l) (s 45 l)) else 0
theorem tuC (E : EV s h) (L : LWc s h) {l : Nat} {ws : Nat → Int64} (hl : l < s 0 9) (tw : hT h 85 = 23 ∧ hN h 85 = 11) (vw : ∀ j, j < 11 → hL h 85 j = ws j) {F : Nat} (hF : 1000 ≤ F) : ∀ (m c n : Nat), c + m = s 45 l → m < n → (∀ j, j < c → tuc s l j = false) → ∃ g', FR [] [] (fun x => x = s 34 l + 1) h g' ∧ p26_L2 F (s 34 l) (some 85) n h (nI c) = some (tuV s ws l, g') := by
  obtain ⟨A, B, C, T⟩ := L.1 l hl
  obtain ⟨r6, r3, r2, r4, r5, t1, t2, t3, t4, t5⟩ := B
  obtain ⟨a1, a2, ⟨lo, up⟩, a4, a5, a6, a7, a8, a9, a10⟩ := A
  intro m
  induction m with
  | zero =>
    intro c n hc hn hb
    obtain ⟨n, rfl⟩ : ∃ n', n = n' + 1 := ⟨n - 1, by omega⟩
    have e : c = s 45 l := by omega
    subst e
    rw [p26_L2, r3, ob, if_pos t2.1, t2.2, if_neg (show ¬ nI (s 45 l) < Int32.ofNat (s 45 l) from Int32.lt_irrefl)]
    refine ⟨h, FR.rf (fun x z => by omega), ?_⟩
    unfold tuV
    rw [fsN_none hb, if_neg (Nat.lt_irrefl _)]
  | succ m ih =>
    intro c n hc hn hb
    obtain ⟨n, rfl⟩ : ∃ n', n = n' + 1 := ⟨n - 1, by omega⟩
    have hcl : c < s 45 l := by omega
    obtain ⟨c1, c2, c3, c4, c5, c6, c7, c8, c9, -, c11⟩ := C c hcl
    rw [p26_L2, r3, ob, if_pos t2.1, t2.2, if_pos (show nI c < Int32.ofNat (s 45 l) from nI_lt hcl (by omega)), ob, if_pos t2.1, t2.2, if_neg (nI_in hcl (by omega)), nI_clamp (by omega), c2, nI_1 c]
    by_cases h1 : s (1200 + l) c = 2
    · obtain ⟨g2, f2, e2⟩ := worC L hl hcl tw vw hF
      rw [h1, if_pos (show nI (10021 + 2) = (10023 : Int32) from rfl), e2, ob]
      refine ⟨g2, f2, ?_⟩
      unfold tuV
      rw [fsN_first hcl (decide_eq_true h1) hb, if_pos hcl]
    · rw [if_neg (fun z => h1 (by have := (nI_eq (b := 10023) (by omega) (by decide)).mp z; omega))]
      exact ih (c + 1) n (by omega) (by omega) (fun j hj => by
        by_cases z : j = c
        · subst z; exact decide_eq_false h1
        · exact hb j (by omega))
theorem tuM (E : EV s h) (L : LWc s h) {l : Nat} (hl : l < s 0 9) (F : Nat) : ∀ (m c n : Nat), c + m = s 45 l → m < n → (∀ j, j < c → tuc s l j = false) → p274_L2 F (nI l) 2 n h (nI c) = some (opL l (s 45 l) (fsN (tuc s l) (s 45 l)), h) := by
  have b9 := E.cn.b9
  obtain ⟨A, B, C, T⟩ := L.1 l hl
  obtain ⟨a1, a2, ⟨lo, up⟩, a4, a5, a6, a7, a8, a9, a10⟩ := A
  have lm : ¬ nI l = -1 := fun z => by have := m1_nI (n := l) (by omega); rw [this] at z; exact z
  intro m
  induction m with
  | zero =>
    intro c n hc hn hb
    obtain ⟨n, rfl⟩ : ∃ n', n = n' + 1 := ⟨n - 1, by omega⟩
    have e : c = s 45 l := by omega
    subst e
    rw [p274_L2, if_neg lm, if_neg (nI_in (by omega) (by decide)), nI_clamp (by omega), a8, if_neg Int32.lt_irrefl, fsN_none hb]
    unfold opL
    rw [if_neg (Nat.lt_irrefl _)]
  | succ m ih =>
    intro c n hc hn hb
    obtain ⟨n, rfl⟩ : ∃ n', n = n' + 1 := ⟨n - 1, by omega⟩
    have hcl : c < s 45 l := by omega
    obtain ⟨c1, c2, c3, c4, c5, c6, c7, c8, c9, -, c11⟩ := C c hcl
    have ea : (12 : Int32) * nI l + nI c = nI (12 * l + c) := by rw [show (12 : Int32) = nI 12 from rfl, nI_mul, nI_add]
    rw [p274_L2, if_neg lm, if_neg (nI_in (by omega) (by decide)), nI_clamp (by omega), a8, if_pos (nI_lt hcl (by omega)), ea, if_neg (nI_in (by omega) (by decide)), nI_clamp (by omega), c3]
    unfold p274_j55
    rw [nI_1 c]
    by_cases h1 : s (1200 + l) c = 2
    · rw [h1, if_pos (show nI 2 = (2 : Int32) from rfl), if_pos rfl, fsN_first hcl (decide_eq_true h1) hb]
      unfold opL
      rw [if_pos hcl]
    · rw [if_neg (fun z : nI (s (1200 + l) c) = (2 : Int32) => h1 ((nI_eq (b := 2) (by omega) (by decide)).mp z))]
      exact ih (c + 1) n (by omega) (by omega) (fun j hj => by
        by_cases z : j = c
        · subst z; exact decide_eq_false h1
        · exact hb j (by omega))
end CLA
