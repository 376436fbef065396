/-! call: both sides -/
def clD (s : SS) : Nat → Prop := fun x => stk s x ∨ (∃ k, k < s 0 3 ∧ (x = s 30 k + 4 ∨ x = s 30 k + 5)) ∨ ∃ b, b < s 0 10 ∧ x = s 35 b
def clW : List Nat := [85, 136, 137, 142, 146, 147]
section CL2
variable {s : SS} {h : HS}
theorem clD160 (E : EV s h) (R : RDc s h) (L : LWc s h) : ∀ x, clD s x → 160 ≤ x := by
  rintro x (z | ⟨k, hk, z⟩ | ⟨b, hb, z⟩)
  · exact stk160 L x z
  · have := E.sh.lo hk; omega
  · have := (R.1 b hb).2.2.1.1; omega
theorem clD_T (E : EV s h) (R : RDc s h) (L : LWc s h) : ∀ x, clD s x → hT h x = 23 ∨ hT h x = 20 ∨ hT h x = 6 := by
  rintro x (z | ⟨k, hk, (z | z)⟩ | ⟨b, hb, z⟩)
  · exact Or.inl (stk_T L z)
  · rw [z]; exact Or.inr (Or.inl (E.sh.t4 hk).1)
  · rw [z]; exact Or.inr (Or.inl (E.sh.t5 hk).1)
  · rw [z]; exact Or.inr (Or.inr (R.1 b hb).2.1)
theorem clD_ev (E : EV s h) (R : RDc s h) (L : LWc s h) : evD s (clD s) := by
  have tT := clD_T E R L
  refine ⟨fun j hj z => ?_, fun j hj z => ?_, fun j hj z => ?_, fun j hj z => ?_⟩
  · have := E.sh.t hj; have := tT _ z; omega
  · have := E.sn.t hj; have := tT _ z; omega
  · have := E.rp.t hj; have := tT _ z; omega
  · have := E.bl.t hj; have := tT _ z; omega
theorem clD_lw (E : EV s h) (R : RDc s h) (L : LWc s h) : ∀ l, l < s 0 9 → ∀ k, k < 6 → ¬ k = 1 → ¬ clD s (s 34 l + k) := by
  rintro l hl j hj j1 (z | ⟨k, hk, z⟩ | ⟨b, hb, z⟩)
  · exact stk_lw L l hl j hj j1 z
  · have := L.2.2 l k hl hk; omega
  · have t := (R.1 b hb).2.1
    obtain ⟨A, B, -⟩ := L.1 l hl
    obtain ⟨-, -, -, -, -, t1, t2, t3, t4, t5⟩ := B
    rw [← z] at t
    have : j = 0 ∨ j = 2 ∨ j = 3 ∨ j = 4 ∨ j = 5 := by omega
    rcases this with rfl | rfl | rfl | rfl | rfl
    · have := A.2.1; rw [Nat.add_zero, this] at t; exact absurd t (by decide)
    · rw [t2.1] at t; exact absurd t (by decide)
    · rw [t3.1] at t; exact absurd t (by decide)
    · rw [t4.1] at t; exact absurd t (by decide)
    · rw [t5.1] at t; exact absurd t (by decide)
theorem w_call (E : EV s h) (R : RDc s h) (N : LNc s h) (L : LWc s h) (D : DI s) {F : Nat} (hF : 1000 ≤ F) : ∃ v h1 h2, p152 F h = some (v, h1) ∧ p288 F h1 = some (v, h2) ∧ FR clW [] (clD s) h h2 ∧ RDc s h2 ∧ LNc s h2 := by
  have w := E.w.1
  have b10 := E.cn.b10
  have b3 := E.cn.b3
  have b0 := E.cn.b0
  have b9 := E.cn.b9
  obtain ⟨g1, f1, e1⟩ := fmC_L E R N.1 L hF (s 0 10) 0 F h (by omega) (by omega) (FR.rf (stk160 L))
  have e1 : p182 F h = some (oI (fmN s h (s 0 10)), g1) := e1
  obtain ⟨E1, R1, N1, L1⟩ := ru_fr E R N L f1
  unfold p152
  rw [e1, ob]
  cases hm : fmN s h (s 0 10) with
  | none =>
    obtain ⟨g2, f2, e2⟩ := fmM_L E1 R1.m N1.1 L1 hF (s 0 10) 0 F g1 (by omega) (by omega) (FR.rf (stk160 L1))
    have hm1 : ∀ i, fmN s g1 i = fmN s h i := by
      intro i
      induction i with
      | zero => rfl
      | succ i ih =>
        have k2 := f1.fA w 142 (by decide)
        have k3 := f1.fA w 143 (by decide)
        have tq : ∀ r k, tvl s g1 r k = tvl s h r k := fun r k => tvl_ru w f1
        have el : ∀ i, elg s g1 i = elg s h i := fun i => by unfold elg wtk; rw [k2]
        have bq : ∀ i b, btr s g1 i b = btr s h i b := fun i b => by unfold btr wtk; rw [k2, k3, tq, tq]
        rw [fmN, fmN, ih]
        simp only [el, bq]
    obtain ⟨E2, R2, N2, L2⟩ := ru_fr E1 R1 N1 L1 f2
    refine ⟨-1, g1, g2, ?_, ?_, (f1.tr f2).mo (by decide) (fun _ z => absurd z List.not_mem_nil) (fun _ z => Or.inl z) (clD160 E R L), R2, N2⟩
    · show (if oI none = -1 then some (oI none, g1) else _) = _
      rw [show oI none = -1 from rfl, if_pos rfl]
    · unfold p288
      rw [show p288_L7 F F g1 (-1) 0 0 = _ from e2, hm1, hm]
      unfold fmE
      rw [show oI none = -1 from rfl, if_pos rfl]
  | some b =>
    obtain ⟨hb, el⟩ := fmN_lt _ _ hm
    have k142 : hI g1 142 = hI h 142 := f1.fA w 142 (by decide)
    obtain ⟨q1, q2, q3, q4, q5, q6, q7, q8⟩ := R1.1 b hb
    have hk' : ∃ k, k < s 0 3 ∧ hI g1 142 b = nI k ∧ hR g1 (s 35 b) 2 = some (s 30 k) := by
      rcases q6 with ⟨z, -⟩ | z
      · exact absurd (by rw [← k142]; exact z) el.1
      · exact z
    obtain ⟨k, hk, ek, er⟩ := hk'
    have l5 := E.sh.b5 hk
    have lo := E.sh.lo hk
    have up1 := E1.sh.hi hk
    have nb : ¬ nI b = -1 := fun z => by have := m1_nI (n := b) (by omega); rw [this] at z; exact z
    -- the class tells
    have tel : ∃ g2, FR ruW [] (tlD s k) g1 g2 ∧ (∀ i, hI g2 (s 30 k + 4) i = if i < s 5 k then tlW (vrb s g1 b k i) b (hI g1 (s 30 k + 4) i) else hI g1 (s 30 k + 4) i) ∧ (∀ i, hI g2 (s 30 k + 5) i = if i < s 5 k then tlL (vrb s g1 b k i) b (hI g1 (s 30 k + 5) i) else hI g1 (s 30 k + 5) i) ∧ p183 F g1 (nI b) = some g2 := by
      unfold p183 p176
      rw [if_neg (nI_in (by omega) (by decide)), nI_clamp (by omega), q1, ob, if_pos q2, er, if_neg (by intro z; cases z), ob, E1.cn.c0, inC E1 L1 b0 (by omega), ob]
      cases hf : ifN s (s 0 0) (s 0 9) with
      | none =>
        obtain ⟨g2, f2, c4, c5, e2⟩ := telC E1 R1 N1.1 L1 D hb hk (la := none) (x := 0) (by rw [hf]) (fun l hl => by rw [hf] at hl; cases hl) hF (s 5 k) 0 F g1 (by omega) (by omega) (FR.rf (tlD160 E1 L1 hk)) (fun i => (if_neg (Nat.not_lt_zero i)).symm) (fun i => (if_neg (Nat.not_lt_zero i)).symm)
        refine ⟨g2, f2, c4, c5, ?_⟩
        unfold p177
        rw [show oI none = -1 from rfl, if_pos rfl, ob, if_pos rfl, ob]
        exact e2
      | some l =>
        have hl := ifN_lt _ _ hf
        obtain ⟨x, hx, hxb⟩ := surC E1 L1 hl hF
        obtain ⟨g2, f2, c4, c5, e2⟩ := telC E1 R1 N1.1 L1 D hb hk (la := some (s 34 l)) (x := x) (by rw [hf]) (fun l' hl' => by rw [hf] at hl'; cases hl'; exact hxb) hF (s 5 k) 0 F g1 (by omega) (by omega) (FR.rf (tlD160 E1 L1 hk)) (fun i => (if_neg (Nat.not_lt_zero i)).symm) (fun i => (if_neg (Nat.not_lt_zero i)).symm)
        refine ⟨g2, f2, c4, c5, ?_⟩
        rw [show oI (some l) = nI l from rfl, if_neg (fun z => by have := m1_nI (n := l) (by omega); rw [this] at z; exact z), if_neg (nI_in (by omega) (by decide)), nI_clamp (by omega), (L1.1 l hl).1.1, ob, hx, ob]
        exact e2
    obtain ⟨g2, f2, c4, c5, e2⟩ := tel
    obtain ⟨E2, R2, N2, L2⟩ := tl_fr E1 R1 N1.1 L1 D hk f2
    have tl2 : ∀ x, tlD s k x → clD s x := by
      rintro x (z | z | z)
      · exact Or.inl z
      · exact Or.inr (Or.inl ⟨k, hk, Or.inl z⟩)
      · exact Or.inr (Or.inl ⟨k, hk, Or.inr z⟩)
    have u1' : FR clW [] (clD s) h g1 := f1.mo (by decide) (fun _ z => absurd z List.not_mem_nil) (fun _ z => Or.inl z) (clD160 E R L)
    have u2' : FR clW [] (clD s) h g2 := u1'.tr (f2.mo (by decide) (fun _ z => absurd z List.not_mem_nil) tl2 (clD160 E R L))
    have f3 : FR [] [] (fun x => x = s 35 b) g2 (hsR g2 (s 35 b) 2 none) := FR.sR (FR.rf (fun x z => by rw [z]; exact q3.1)) (Or.inr (Or.inl rfl))
    have u3 : FR clW [] (clD s) h (hsR g2 (s 35 b) 2 none) := u2'.tr (f3.mo (fun _ z => absurd z List.not_mem_nil) (fun _ z => absurd z List.not_mem_nil) (fun x z => Or.inr (Or.inr ⟨b, hb, z⟩)) (clD160 E R L))
    have w2 := E2.w.1
    have t6 := (R2.1 b hb).2.1
    have E3 : EV s (hsR g2 (s 35 b) 2 none) := E2.fr f3 (by decide) (rdD E2 t6)
    have N3 : LN1 s (hsR g2 (s 35 b) 2 none) := N2.fr E2 f3 (by decide) (fun i hi j hj z => by
      have : j = 0 ∨ j = 1 ∨ j = 2 ∨ j = 3 := by omega
      rcases this with rfl | rfl | rfl | rfl
      · have := E2.sh.t hi; rw [show s 30 i = s 35 b from z, t6] at this; exact absurd this (by decide)
      · have := (E2.sh.t1 hi).1; rw [z, t6] at this; exact absurd this (by decide)
      · have := (E2.sh.t2 hi).1; rw [z, t6] at this; exact absurd this (by decide)
      · have := (E2.sh.t3 hi).1; rw [z, t6] at this; exact absurd this (by decide))
    have L3 : LWc s (hsR g2 (s 35 b) 2 none) := L2.fr w2 f3 (by decide) (fun l hl j hj j1 z => clD_lw E R L l hl j hj j1 (Or.inr (Or.inr ⟨b, hb, z⟩)))
    have M3 : RDm s (hsR g2 (s 35 b) 2 none) := R2.m.fr w2 f3 (by decide)
    have kk : ∀ a, a ∈ [141, 142, 143, 144, 145, 146] → hI (hsR g2 (s 35 b) 2 none) a = hI h a := fun a m => by
      have hz : ∀ a, a ∈ [141, 142, 143, 144, 145, 146] → a < 160 ∧ ¬ a ∈ ruW ∧ ¬ a ∈ ([] : List (Nat × Nat)).map (fun p => p.1) := by decide
      have hz2 : ∀ a, a ∈ [141, 142, 143, 144, 145, 146] → a < 160 ∧ ¬ a ∈ ([] : List Nat) ∧ ¬ a ∈ ([] : List (Nat × Nat)).map (fun p => p.1) := by decide
      exact ((f3.fA w2 a (hz2 a m)).trans (f2.fA E1.w.1 a (hz a m))).trans (f1.fA w a (hz a m))
    have k138 : hL (hsR g2 (s 35 b) 2 none) 138 = hL h 138 := ((f3.fL w2 138 (by decide)).trans (f2.fL E1.w.1 138 (by decide))).trans (f1.fL w 138 (by decide))
    have wrq : ∀ r k, wRd s (hsR g2 (s 35 b) 2 none) r k = wRd s h r k := fun r k => wRd_eq (kk 142 (by decide)) (kk 143 (by decide)) (kk 144 (by decide)) (kk 145 (by decide))
    have vq : ∀ j, vrb s (hsR g2 (s 35 b) 2 none) b k j = vrb s h b k j := fun j => (vrb_eq (kk 141 (by decide)) (kk 142 (by decide)) (kk 143 (by decide)) (kk 144 (by decide)) (kk 145 (by decide)) k138).1
    have vq1 : ∀ j, vrb s g1 b k j = vrb s h b k j := fun j => (vrb_eq (f1.fA w 141 (by decide)) (f1.fA w 142 (by decide)) (f1.fA w 143 (by decide)) (f1.fA w 144 (by decide)) (f1.fA w 145 (by decide)) (f1.fL w 138 (by decide))).1
    have hm3 : ∀ i, fmN s (hsR g2 (s 35 b) 2 none) i = fmN s h i := by
      intro i
      induction i with
      | zero => rfl
      | succ i ih =>
        have k2 := kk 142 (by decide)
        have k3 := kk 143 (by decide)
        have tq : ∀ r k, tvl s (hsR g2 (s 35 b) 2 none) r k = tvl s h r k := fun r k => by unfold tvl; rw [wrq]
        have el : ∀ i, elg s (hsR g2 (s 35 b) 2 none) i = elg s h i := fun i => by unfold elg wtk; rw [k2]
        have bq : ∀ i b', btr s (hsR g2 (s 35 b) 2 none) i b' = btr s h i b' := fun i b' => by unfold btr wtk; rw [k2, k3, tq, tq]
        rw [fmN, fmN, ih]
        simp only [el, bq]
    have o4 : ∀ i, hI (hsR g2 (s 35 b) 2 none) (s 30 k + 4) i = hI g2 (s 30 k + 4) i := fun i => rfl
    have o5 : ∀ i, hI (hsR g2 (s 35 b) 2 none) (s 30 k + 5) i = hI g2 (s 30 k + 5) i := fun i => rfl
    have rnone : hR (hsR g2 (s 35 b) 2 none) (s 35 b) 2 = none := hR_s _ _ _ _
    have rI : ∀ j, hI (hsR g2 (s 35 b) 2 none) (s 35 b) j = hI h (s 35 b) j := fun j => by
      have a1 : hI g2 (s 35 b) j = hI g1 (s 35 b) j := f2.oI (by decide) (by decide) q3.1 q3.2 (fun z => by
        have := (R1.1 b hb).2.1
        rcases z with z | z | z
        · rw [stk_T L1 z] at this; exact absurd this (by decide)
        · rw [z, (E1.sh.t4 hk).1] at this; exact absurd this (by decide)
        · rw [z, (E1.sh.t5 hk).1] at this; exact absurd this (by decide)) j
      have a2 : hI g1 (s 35 b) j = hI h (s 35 b) j := f1.oI (by decide) (by decide) (R.1 b hb).2.2.1.1 (R.1 b hb).2.2.1.2 (stk_rd R L b hb) j
      exact (show hI (hsR g2 (s 35 b) 2 none) (s 35 b) j = hI g2 (s 35 b) j from rfl).trans (a1.trans a2)
    have w3 := E3.w.1
    have cls : (if oI (some b) = -1 then some (oI (some b), g1) else Option.bind (p183 F g1 (oI (some b))) fun r4 => if oI (some b) < 0 ∨ 30 ≤ (oI (some b)).toNatClampNeg then none else Option.bind (hR r4 67 (oI (some b)).toNatClampNeg) fun o7 => if hT r4 o7 = 6 then some (oI (some b), hsR r4 o7 2 none) else none) = some (nI b, hsR g2 (s 35 b) 2 none) := by
      rw [show oI (some b) = nI b from rfl, if_neg nb, e2, ob, if_neg (nI_in (by omega) (by decide)), nI_clamp (by omega), (R2.1 b hb).1, ob, if_pos t6]
    generalize hh3 : hsR g2 (s 35 b) 2 none = h3 at *
    -- the model
    obtain ⟨g4, f4, e4⟩ := fmM_L E3 M3 N3 L3 hF (s 0 10) 0 F h3 (by omega) (by omega) (FR.rf (stk160 L3))
    obtain ⟨E4, M4, N4, L4⟩ := ru_fr2 E3 M3 N3 L3 f4
    obtain ⟨g5, f5, e5, vs⟩ := srM E4 hF
    have E5 : EV s g5 := E4.fr f5 (by decide) evD_n
    have M5 : RDm s g5 := M4.fr E4.w.1 f5 (by decide)
    have N5 : LN1 s g5 := N4.fr E4 f5 (by decide) (fun _ _ _ _ => id)
    have L5 : LWc s g5 := L4.fr E4.w.1 f5 (by decide) (fun _ _ _ _ _ => id)
    have f35 : FR ruW [] (stk s) h3 g5 := f4.tr (f5.mo (by decide) (by decide) (fun _ z => z.elim) (stk160 L))
    have kk5 : ∀ a, a ∈ [141, 142, 143, 144, 145, 146] → hI g5 a = hI h a := fun a m => by
      have hz : ∀ a, a ∈ [141, 142, 143, 144, 145, 146] → a < 160 ∧ ¬ a ∈ ruW ∧ ¬ a ∈ ([] : List (Nat × Nat)).map (fun p => p.1) := by decide
      exact (f35.fA w3 a (hz a m)).trans (kk a m)
    have k1385 : hL g5 138 = hL h 138 := (f35.fL w3 138 (by decide)).trans k138
    have vq5 : ∀ j, vrb s g5 b k j = vrb s h b k j := fun j => (vrb_eq (kk5 141 (by decide)) (kk5 142 (by decide)) (kk5 143 (by decide)) (kk5 144 (by decide)) (kk5 145 (by decide)) k1385).1
    obtain ⟨g6, f6, t6', e6⟩ := telM E5 M5 N5 L5 hb hk vs (tw := fun i => hI h (s 30 k + 4) i) (tl := fun i => hI h (s 30 k + 5) i) (fun i hi => by
      rw [kk5 146 (by decide)]
      exact N.2.1 k hk i (by omega) b (by omega)) hF (s 5 k) 0 F g5 (by omega) (by omega) (FR.rf nD160) (fun p => (if_neg (by omega)).symm)
    have u6 : FR clW [] (clD s) h g6 := (u3.tr (f35.mo (by decide) (fun _ z => absurd z List.not_mem_nil) (fun _ z => Or.inl z) (clD160 E R L))).tr (f6.mo (by decide) (by decide) (fun _ z => z.elim) (clD160 E R L))
    have u7 : FR clW [] (clD s) h (hsI g6 142 b (-1)) := u6.sI (Or.inl (by decide))
    have m142 : hI g4 142 b = nI k := by rw [f4.fA w3 142 (by decide), kk 142 (by decide), ← k142]; exact ek
    have f36 : FR [85, 136, 137, 146, 147] [] (stk s) h3 g6 := (f35.mo (by decide) (fun _ z => absurd z List.not_mem_nil) (fun _ z => z) (stk160 L)).tr (f6.mo (by decide) (by decide) (fun _ z => z.elim) (stk160 L))
    have kk6 : ∀ a, a ∈ [141, 142, 143, 144, 145] → hI g6 a = hI h a := fun a m => by
      have hz : ∀ a, a ∈ [141, 142, 143, 144, 145] → a < 160 ∧ ¬ a ∈ [85, 136, 137, 146, 147] ∧ ¬ a ∈ ([] : List (Nat × Nat)).map (fun p => p.1) := by decide
      exact (f36.fA w3 a (hz a m)).trans (kk a (by
        have hz : ∀ a, a ∈ [141, 142, 143, 144, 145] → a ∈ [141, 142, 143, 144, 145, 146] := by decide
        exact hz a m))
    have E6 : EV s (hsI g6 142 b (-1)) := E.fr u7 (by decide) (clD_ev E R L)
    have up3 := E3.sh.hi hk
    refine ⟨nI b, h3, hsI g6 142 b (-1), cls, ?_, u7, ?_, ?_⟩
    · unfold p288
      rw [show p288_L7 F F h3 (-1) 0 0 = _ from e4, hm3, hm]
      unfold fmE
      rw [show oI (some b) = nI b from rfl, if_neg nb, if_neg (nI_in (by omega) (by decide)), nI_clamp (by omega), e5, ob, m142]
      exact e6
    · -- readers
      obtain ⟨Ra, Rb, Rc⟩ := R
      have c1 : ∀ a, a ∈ [141, 143, 144, 145] → hI (hsI g6 142 b (-1)) a = hI h a := fun a m => by
        have hz : ∀ a, a ∈ [141, 143, 144, 145] → ¬ a = 142 ∧ a ∈ [141, 142, 143, 144, 145] := by decide
        rw [← kk6 a (hz a m).2]
        funext j
        exact hI_sn (hz a m).1 j
      refine ⟨fun i hi => ?_, fun i hi => ?_, Rc⟩
      · obtain ⟨r1, r2, r3, r4, r5, r6, r7, r8⟩ := Ra i hi
        have d1 : hR (hsI g6 142 b (-1)) 67 i = some (s 35 i) := (congrFun (u7.fR w 67 (by decide)) i).trans r1
        have d2 : hT (hsI g6 142 b (-1)) (s 35 i) = 6 := (u7.T r3.2).trans r2
        rw [c1 141 (by decide), c1 143 (by decide), c1 144 (by decide), c1 145 (by decide)]
        have a36 : ∀ j, hI (hsI g6 142 b (-1)) (s 35 i) j = hI h3 (s 35 i) j := fun j => (hI_sn (by omega) j).trans (f36.oI (by decide) (by decide) r3.1 (Nat.lt_of_lt_of_le r3.2 u3.1) (fun z => by rw [stk_T L z] at r2; exact absurd r2 (by decide)) j)
        have b36 : hR (hsI g6 142 b (-1)) (s 35 i) 2 = hR h3 (s 35 i) 2 := f36.oR (by decide) r3.1 (Nat.lt_of_lt_of_le r3.2 u3.1) (fun z => by rw [stk_T L z] at r2; exact absurd r2 (by decide)) 2
        by_cases e : i = b
        · subst e
          rw [a36, a36, a36, a36, rI, rI, rI, rI]
          exact ⟨d1, d2, ⟨r3.1, Nat.lt_of_lt_of_le r3.2 u7.1⟩, r4, r5, Or.inl ⟨hI_s _ _ _ _, b36.trans rnone⟩, r7, r8⟩
        · have ne : ¬ s 35 i = s 35 b := fun z => e (Rc i b hi hb z)
          have rI2 : (∀ j, hI h3 (s 35 i) j = hI h (s 35 i) j) ∧ hR h3 (s 35 i) 2 = hR h (s 35 i) 2 := by
            have nt : ¬ tlD s k (s 35 i) := fun z => by
              have q2' : hT g1 (s 35 i) = 6 := (f1.T r3.2).trans r2
              rcases z with z | z | z
              · rw [stk_T L1 z] at q2'; exact absurd q2' (by decide)
              · rw [z, (E1.sh.t4 hk).1] at q2'; exact absurd q2' (by decide)
              · rw [z, (E1.sh.t5 hk).1] at q2'; exact absurd q2' (by decide)
            have ns : ¬ stk s (s 35 i) := fun z => by rw [stk_T L z] at r2; exact absurd r2 (by decide)
            have l1 : s 35 i < g1.1 := Nat.lt_of_lt_of_le r3.2 f1.1
            have l2 : s 35 i < g2.1 := Nat.lt_of_lt_of_le l1 f2.1
            refine ⟨fun j => ?_, ?_⟩
            · exact (f3.oI (by decide) (by decide) r3.1 l2 ne j).trans ((f2.oI (by decide) (by decide) r3.1 l1 nt j).trans (f1.oI (by decide) (by decide) r3.1 r3.2 ns j))
            · exact (f3.oR (by decide) r3.1 l2 ne 2).trans ((f2.oR (by decide) r3.1 l1 nt 2).trans (f1.oR (by decide) r3.1 r3.2 ns 2))
          have c142 : hI (hsI g6 142 b (-1)) 142 i = hI h 142 i := (hI_sk e).trans (congrFun (kk6 142 (by decide)) i)
          rw [a36, a36, a36, a36, rI2.1, rI2.1, rI2.1, rI2.1, b36, rI2.2, c142]
          exact ⟨d1, d2, ⟨r3.1, Nat.lt_of_lt_of_le r3.2 u7.1⟩, r4, r5, r6, r7, r8⟩
      · rw [c1 143 (by decide), c1 144 (by decide)]
        exact Rb i hi
    · -- lines
      obtain ⟨Na, Nb, Nc⟩ := N
      have N6 : LN1 s (hsI g6 142 b (-1)) := LN1.fr Na E u7 (by decide) (fun i hi j hj z => by
        rcases z with z | ⟨k', hk', z⟩ | ⟨b', hb', z⟩
        · exact stk_ln L i hi j (by omega) z
        · by_cases e : i = k'
          · subst e; omega
          · have := D.2.2.2.1 i k' hi hk' e; omega
        · have t := (R.1 b' hb').2.1
          rw [← z] at t
          have : j = 0 ∨ j = 1 ∨ j = 2 ∨ j = 3 := by omega
          rcases this with rfl | rfl | rfl | rfl
          · have := E.sh.t hi; rw [Nat.add_zero, this] at t; exact absurd t (by decide)
          · rw [(E.sh.t1 hi).1] at t; exact absurd t (by decide)
          · rw [(E.sh.t2 hi).1] at t; exact absurd t (by decide)
          · rw [(E.sh.t3 hi).1] at t; exact absurd t (by decide))
      have m146 : ∀ p, hI (hsI g6 142 b (-1)) 146 p = hI g6 146 p := fun p => hI_sn (by decide) p
      have k146 : hI g5 146 = hI h 146 := kk5 146 (by decide)
      have v4 : ∀ i, hI h3 (s 30 k + 4) i = if i < s 5 k then tlW (vrb s h b k i) b (hI h (s 30 k + 4) i) else hI h (s 30 k + 4) i := fun i => by
        have a : hI g1 (s 30 k + 4) i = hI h (s 30 k + 4) i := f1.oI (by decide) (by decide) (by omega) (by have := E.sh.hi hk; omega) (stk_ln L k hk 4 (by decide)) i
        rw [o4, c4, vq1, a]
      have v5 : ∀ i, hI h3 (s 30 k + 5) i = if i < s 5 k then tlL (vrb s h b k i) b (hI h (s 30 k + 5) i) else hI h (s 30 k + 5) i := fun i => by
        have a : hI g1 (s 30 k + 5) i = hI h (s 30 k + 5) i := f1.oI (by decide) (by decide) (by omega) (by have := E.sh.hi hk; omega) (stk_ln L k hk 5 (by decide)) i
        rw [o5, c5, vq1, a]
      have z4 : ∀ d, d = 4 ∨ d = 5 → ∀ i, hI (hsI g6 142 b (-1)) (s 30 k + d) i = hI h3 (s 30 k + d) i := fun d hd i => (hI_sn (by omega) i).trans (f36.oI (by decide) (by decide) (by omega) (by omega) (stk_ln L k hk d (by omega)) i)
      have p146 : ∀ p, hI g6 146 p = if 4000 * b + 20 * k ≤ p ∧ p < 4000 * b + 20 * k + s 5 k then thw (tlW (vrb s h b k (p - (4000 * b + 20 * k))) b (hI h (s 30 k + 4) (p - (4000 * b + 20 * k)))) (tlL (vrb s h b k (p - (4000 * b + 20 * k))) b (hI h (s 30 k + 5) (p - (4000 * b + 20 * k)))) b else hI h 146 p := fun p => by
        rw [t6' p]
        simp only [vq5, k146]
      refine ⟨N6, fun i hi j hj r hr => ?_, fun i hi h2 j hj r hr => ?_⟩
      · rw [m146, p146]
        by_cases e : i = k
        · subst e
          rw [z4 4 (Or.inl rfl), z4 5 (Or.inr rfl), v4, v5]
          by_cases er' : r = b
          · subst er'
            by_cases ej : j < s 5 i
            · rw [if_pos (by omega), if_pos ej, if_pos ej, show 4000 * r + 20 * i + j - (4000 * r + 20 * i) = j by omega]
            · rw [if_neg (by omega), if_neg ej, if_neg ej]
              exact Nb i hi j hj r hr
          · rw [if_neg (by omega)]
            by_cases ej : j < s 5 i
            · rw [if_pos ej, if_pos ej, tl_oth (by omega) (by omega) er']
              exact Nb i hi j hj r hr
            · rw [if_neg ej, if_neg ej]
              exact Nb i hi j hj r hr
        · rw [if_neg (by omega)]
          have li := E.sh.lo hi
          have ui := E.sh.hi hi
          have dj := D.2.2.2.1 i k hi hk e
          have ot : ∀ d, d = 4 ∨ d = 5 → ∀ j, hI (hsI g6 142 b (-1)) (s 30 i + d) j = hI h (s 30 i + d) j := fun d hd j => by
            have ns : ¬ stk s (s 30 i + d) := stk_ln L i hi d (by omega)
            have nt : ¬ tlD s k (s 30 i + d) := fun z => by
              rcases z with z | z | z
              · exact ns z
              · omega
              · omega
            have nr : ¬ s 30 i + d = s 35 b := fun z => by
              have t := (R.1 b hb).2.1
              rw [← z] at t
              rcases hd with rfl | rfl
              · rw [(E.sh.t4 hi).1] at t; exact absurd t (by decide)
              · rw [(E.sh.t5 hi).1] at t; exact absurd t (by decide)
            have l0 : s 30 i + d < h.1 := by omega
            have l1 : s 30 i + d < g1.1 := Nat.lt_of_lt_of_le l0 f1.1
            have l2 : s 30 i + d < g2.1 := Nat.lt_of_lt_of_le l1 f2.1
            have l3 : s 30 i + d < h3.1 := Nat.lt_of_lt_of_le l2 f3.1
            exact (hI_sn (by omega) j).trans ((f36.oI (by decide) (by decide) (by omega) l3 ns j).trans ((f3.oI (by decide) (by decide) (by omega) l2 nr j).trans ((f2.oI (by decide) (by decide) (by omega) l1 nt j).trans (f1.oI (by decide) (by decide) (by omega) l0 ns j))))
          rw [ot 4 (Or.inl rfl), ot 5 (Or.inr rfl)]
          exact Nb i hi j hj r hr
      · rw [m146, p146, if_neg (by omega)]
        exact Nc i hi h2 j hj r hr
end CL2
