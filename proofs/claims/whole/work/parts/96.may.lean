/-! how a reader may read a line: the class; may, why -/
def asks (s : SS) (l : Nat) : Bool := anyN (fun k => decide (s (1000 + l) k = 10012)) (s 46 l)
section MAY
variable {s : SS} {h : HS}
theorem fcl_c (L : LWc s h) {l kd c : Nat} {ws ws' : Nat → Int64} (hl : l < s 0 9) (hc : c < s 45 l) (e : ∀ k, ¬ k = 2 → ws k = ws' k) (e2 : asks s l = true → ws 2 = ws' 2) : fcl s ws l kd c = fcl s ws' l kd c := by
  obtain ⟨A, B, C, T⟩ := L.1 l hl
  obtain ⟨c1, c2, c3, c4, c5, c6, c7, c8, c9, -, c11⟩ := C c hc
  have : cval s ws l c = cval s ws' l c := by
    unfold cval
    rw [evR_congr (ws := ws) (ws' := ws') _ (fun i hi h1 h2 => ?_)]
    by_cases z : s (1000 + l) (beg s l c + i) = 10012
    · rw [z]
      exact e2 (anyN_iff.mpr ⟨beg s l c + i, by omega, decide_eq_true z⟩)
    · exact e _ (by omega)
  unfold fcl
  rw [this]
theorem surC (E : EV s h) (L : LWc s h) {l : Nat} (hl : l < s 0 9) {F : Nat} (hF : 1000 ≤ F) : ∃ x, p177 F h (some (s 34 l)) = some x ∧ ∀ q, q < 64 → b6 x q = (asks s l && srP s q) := by
  obtain ⟨A, B, C, T⟩ := L.1 l hl
  obtain ⟨a1, a2, a3, a4, a5, a6, a7, -⟩ := A
  unfold p177
  rw [if_neg (by intro z; cases z), ob, if_pos a2, a7, E.cn.c0, b2_if]
  obtain ⟨x, hx, hxb⟩ := srC E hF
  rw [hx, ob]
  show ∃ x', (if asks s l = true then some x else some 0) = some x' ∧ _
  cases hz : asks s l with
  | true => exact ⟨x, rfl, fun q hq => by rw [hxb q hq, Bool.true_and]⟩
  | false => exact ⟨0, rfl, fun q hq => by rw [b6_0, Bool.false_and]⟩
theorem ownC (E : EV s h) (R : RDc s h) {r : Nat} (hr : r < s 0 10) : ∃ w : Int64, (∀ q, q < 64 → b6 w q = decide (nI q = hI h 141 r)) ∧ ∀ (f : Int64 → Option (Int32 × HS)), (if hI h (s 35 r) 0 = -1 then f 0 else f ((1 : Int64) <<< ((hI h (s 35 r) 0).toInt64 &&& 63))) = f w := by
  have b4 := E.cn.b4
  obtain ⟨r1, r2, r3, r4, r5, r6, r7, r8⟩ := R.1 r hr
  rw [r4.1]
  rcases r4.2 with z | ⟨p, hp, z⟩
  · refine ⟨0, fun q hq => ?_, fun f => if_pos z⟩
    rw [b6_0, z, decide_eq_false (fun y => by have := m1_nI (n := q) (by omega); rw [this] at y; exact y)]
  · refine ⟨(1 : Int64) <<< ((nI p).toInt64 &&& 63), fun q hq => ?_, fun f => ?_⟩
    · rw [b6_sh (by omega), z]
      by_cases y : q = p
      · subst y; rw [decide_eq_true rfl, decide_eq_true rfl]
      · rw [decide_eq_false y, decide_eq_false (fun x => y ((nI_eq (by omega) (by omega)).mp x))]
    · rw [z, if_neg (fun y => by have := m1_nI (n := p) (by omega); rw [this] at y; exact y)]
theorem redC (E : EV s h) (R : RDc s h) (N : LN1 s h) (L : LWc s h) {r i j l : Nat} (hr : r < s 0 10) (hi : i < s 0 3) (hj : j < s 5 i) (hf : ifN s (s 0 0) (s 0 9) = some l) {x : Int64} (hx : ∀ q, q < 64 → b6 x q = (asks s l && srP s q)) {F : Nat} (hF : 1000 ≤ F) : ∃ g, FR ruW [] (stk s) h g ∧ p179 F h (some (s 34 l)) (some (s 35 r)) (some (s 30 i)) (nI j) x = some (rcC s h r i j, g) := by
  have w := E.w.1
  have b0 := E.cn.b0
  have b9 := E.cn.b9
  have b4 := E.cn.b4
  have b3 := E.cn.b3
  have l5 := E.sh.b5 hi
  have hl := ifN_lt _ _ hf
  have c12 := (L.1 l hl).1.2.2.2.2.2.2.2.2.1
  obtain ⟨l3, l4, l5', l6, l7, l10, l0, l1, l2⟩ := c_lit
  obtain ⟨own, ho, hif⟩ := ownC E R hr
  obtain ⟨q1, q2, q3, q4⟩ := N i hi j hj
  obtain ⟨g, f, e1, v⟩ := rdwC E R hr hi hF
  have r1 := ru85 L f
  obtain ⟨E1, R1, N1, L1⟩ := ru_fr1 E R N L r1
  have nmb : ∀ q, b6 (hL h 138 (20 * i + j)) q = nmd h i j q := fun q => rfl
  have own2 : ∀ q, q < 64 → b6 (hL h 138 (20 * i + j) &&& (own ^^^ (-1 : Int64))) q = (decide (q < s 0 4) && oth s h r i j q) := fun q hq => by
    rw [b6_and, b6_not hq, ho q hq, nmb]
    unfold oth
    cases hb : nmd h i j q with
    | false => rw [Bool.false_and, Bool.false_and, Bool.and_false]
    | true =>
      rw [decide_eq_true (q4 q hq hb), Bool.true_and, Bool.true_and, Bool.true_and]
      by_cases z : nI q = hI h 141 r
      · have nz : ¬ ¬ nI q = hI h 141 r := fun y => y z
        rw [decide_eq_true z, decide_eq_false nz]; rfl
      · rw [decide_eq_false z, decide_eq_true z]; rfl
  have slfE : (hL h 138 (20 * i + j) &&& own = 0) = (slf s h r i j = false) := by
    apply propext
    rw [b6_z]
    unfold slf
    constructor
    · intro hz
      refine anyN_false.mpr (fun q hq => ?_)
      have := hz q (by omega)
      rw [b6_and, ho q (by omega), nmb] at this
      exact this
    · intro hz q hq
      rw [b6_and, ho q hq, nmb]
      cases hb : nmd h i j q with
      | false => rfl
      | true =>
        have := anyN_false.mp hz q (q4 q hq hb)
        rw [hb] at this
        exact this
  have c1 : ∀ g', p307 g' (hL h 138 (20 * i + j) &&& (own ^^^ (-1 : Int64))) = some (nI (cnt (oth s h r i j) (s 0 4))) := fun g' => by
    rw [popE, cnt_congr (Q := fun q => decide (q < s 0 4) && oth s h r i j q) own2, cnt_cut (by omega)]
  have c2 : ∀ g', p307 g' (hL h 138 (20 * i + j) &&& (own ^^^ (-1 : Int64)) &&& x) = some (nI (cnt (fun q => oth s h r i j q && (asks s l && srP s q)) (s 0 4))) := fun g' => by
    rw [popE, cnt_congr (Q := fun q => decide (q < s 0 4) && (oth s h r i j q && (asks s l && srP s q))) (fun q hq => by rw [b6_and, own2 q hq, hx q hq, Bool.and_assoc]), cnt_cut (by omega)]
  have lo := E.sh.lo hi
  have up := E.sh.hi hi
  have gr8 : hR g (s 30 i) 8 = some (s 30 i + 1) := E1.sh.r8 hi
  have gL : hL g (s 30 i + 1) j = hL h 138 (20 * i + j) := by
    rw [(N1 i hi j hj).1, f.fL w 138 (by decide)]
  have m1 : cnt (oth s h r i j) (s 0 4) ≤ s 0 4 := cnt_le _ _
  have m2 : cnt (fun q => oth s h r i j q && (asks s l && srP s q)) (s 0 4) ≤ s 0 4 := cnt_le _ _
  have j73 : ∀ v0 : Int64, v0 = wRL s h r i j 0 → ∃ g', FR ruW [] (stk s) h g' ∧ p179_j73 F (some (s 34 l)) (some (s 35 r)) (some (s 30 i)) (nI j) x g (hL h 138 (20 * i + j) &&& (own ^^^ (-1 : Int64))) v0 0 = some (rcC s h r i j, g') := fun v0 hv0 => by
    unfold p179_j73
    rw [if_neg (g11 0 (by decide)), c1, ob, if_neg (g11 1 (by decide)), c2, ob, if_neg (g11 2 (by decide)), l0, l1, l2, ob, ob, nI_l (by omega), nI_l (by omega)]
    have f2 : FR [85] [] nD h (hsL (hsL (hsL g 85 0 v0) 85 1 (lN (cnt (oth s h r i j) (s 0 4)))) 85 2 (lN (cnt (fun q => oth s h r i j q && (asks s l && srP s q)) (s 0 4)))) := ((f.sL (Or.inl (by decide))).sL (Or.inl (by decide))).sL (Or.inl (by decide))
    have r2 := ru85 L f2
    obtain ⟨E2, R2, N2, L2⟩ := ru_fr1 E R N L r2
    have v2 : ∀ k, k < 11 → hL (hsL (hsL (hsL g 85 0 v0) 85 1 (lN (cnt (oth s h r i j) (s 0 4)))) 85 2 (lN (cnt (fun q => oth s h r i j q && (asks s l && srP s q)) (s 0 4)))) 85 k = u1 (wRL s h r i j) 2 (lN (cnt (fun q => oth s h r i j q && (asks s l && srP s q)) (s 0 4))) k := fun k hk => by
      rw [hL_s, hL_s, hL_s]
      by_cases k2 : k = 2
      · subst k2; rw [u1_eq, u1_eq]
      rw [u1_ne k2, u1_ne k2]
      by_cases k1 : k = 1
      · subst k1; rw [u1_eq]; rfl
      rw [u1_ne k1]
      by_cases k0 : k = 0
      · subst k0; rw [u1_eq, hv0]
      rw [u1_ne k0, v k hk]
      unfold wRL
      rw [if_neg k0, if_neg k1, if_neg k2]
    have t85 := E2.w.t 85 (by decide)
    have n85 := E2.w.n 85 (by decide)
    generalize hsL (hsL (hsL g 85 0 v0) 85 1 (lN (cnt (oth s h r i j) (s 0 4)))) 85 2 (lN (cnt (fun q => oth s h r i j q && (asks s l && srP s q)) (s 0 4))) = g2 at *
    obtain ⟨g3, f3, e3⟩ := ftC E2 L2 hl (kd := 0) (by decide) ⟨t85, n85⟩ v2 hF (s 45 l) 0 F g2 (by omega) (by omega) (FR.rf (fun y z => by have := (L.1 l hl).1.2.2.1.1; omega)) (fun j z => absurd z (Nat.not_lt_zero j))
    refine ⟨g3, r2.tr (ruS L2 hl f3), ?_⟩
    have e4 : p25 F g2 (s 34 l) 10021 (some 85) = some (opI (s 45 l) (fsN (fcl s (u1 (wRL s h r i j) 2 (lN (cnt (fun q => oth s h r i j q && (asks s l && srP s q)) (s 0 4)))) l 0) (s 45 l)), g3) := e3
    rw [if_pos (L2.1 l hl).1.2.1, e4, ob]
    have : rcC s h r i j = opI (s 45 l) (fsN (fcl s (u1 (wRL s h r i j) 2 (lN (cnt (fun q => oth s h r i j q && (asks s l && srP s q)) (s 0 4)))) l 0) (s 45 l)) := by
      unfold rcC rcl
      rw [hf]
      show opI _ _ = opI _ _
      rw [fsN_congr (Q := fcl s (u1 (wRL s h r i j) 2 (lN (cnt (fun q => oth s h r i j q && (asks s l && srP s q)) (s 0 4)))) l 0) (fun c hc => fcl_c L hl hc (fun k hk => (u1_ne hk).symm) (fun ha => by
        rw [u1_eq]
        show lN _ = lN _
        rw [ha]
        simp only [Bool.true_and]))]
    rw [this]
  unfold p179
  rw [if_neg (by intro z; cases z), ob, ob, if_pos (R.1 r hr).2.1, hif]
  unfold p179_j24
  rw [ob, if_pos (E.sh.t hi), E.sh.r8 hi, ob, if_pos (E.sh.t1 hi).1, (E.sh.t1 hi).2, if_neg (nI_in (by omega) (by decide)), nI_clamp (by omega), e1, ob, if_pos (E1.sh.t hi), gr8, ob, if_pos (E1.sh.t1 hi).1, (E1.sh.t1 hi).2, if_neg (nI_in' (by omega) (by decide)), gL, q1]
  simp only [lg0, slfE]
  have w0 : wRL s h r i j 0 = (if slf s h r i j then 1 else 0) := rfl
  cases hz : slf s h r i j with
  | false =>
    rw [if_pos rfl]
    exact j73 0 (by rw [w0, hz]; rfl)
  | true =>
    rw [if_neg (by decide)]
    exact j73 1 (by rw [w0, hz]; rfl)
/-- the verb of a clause -/
def vrb (s : SS) (h : HS) (r i j : Nat) : Nat := match ifN s (s 0 0) (s 0 9) with
  | none => 2
  | some l => if rcl s h r i j l < s 45 l then s (1300 + l) (rcl s h r i j l) else 2
theorem rcl_k {r i j l : Nat} (z : rcl s h r i j l < s 45 l) : s (1200 + l) (rcl s h r i j l) = 0 := by
  have := (fsN_spec (P := fcl s (wRL s h r i j) l 0) (n := s 45 l)).1 z
  unfold fcl at this
  rw [Bool.and_eq_true] at this
  exact of_decide_eq_true this.1
theorem vrb_le (L : LWc s h) {r i j : Nat} : vrb s h r i j ≤ 2 := by
  unfold vrb
  cases hf : ifN s (s 0 0) (s 0 9) with
  | none => exact Nat.le_refl _
  | some l =>
    have hl := ifN_lt _ _ hf
    show (if _ then _ else _) ≤ 2
    by_cases z : rcl s h r i j l < s 45 l
    · rw [if_pos z]
      obtain ⟨A, B, C, T⟩ := L.1 l hl
      obtain ⟨c1, c2, c3, c4, -⟩ := C _ z
      have k0 := rcl_k z
      exact (c4 (by omega)).2.2.2 k0
    · rw [if_neg z]; exact Nat.le_refl _
theorem vrbC (L : LWc s h) {r i j l : Nat} (hf : ifN s (s 0 0) (s 0 9) = some l) {g : HS} (Lg : LWc s g) : p180 g (some (s 34 l)) (rcC s h r i j) = some (nI (vrb s h r i j)) := by
  have hl := ifN_lt _ _ hf
  obtain ⟨A, B, C, T⟩ := Lg.1 l hl
  obtain ⟨r6, r3, r2, r4, r5, t1, t2, t3, t4, t5⟩ := B
  obtain ⟨a1, a2, ⟨lo, up⟩, a4, a5, a6, a7, a8, a9, a10⟩ := A
  have ec : rcC s h r i j = opI (s 45 l) (rcl s h r i j l) := by unfold rcC; rw [hf]
  have ev : vrb s h r i j = if rcl s h r i j l < s 45 l then s (1300 + l) (rcl s h r i j l) else 2 := by unfold vrb; rw [hf]
  unfold p180
  rw [if_neg (by intro z; cases z), ob, ec, ev]
  unfold opI
  by_cases z : rcl s h r i j l < s 45 l
  · obtain ⟨c1, c2, c3, c4, -⟩ := C _ z
    have k0 := rcl_k z
    rw [if_pos z, if_pos z, if_neg (fun y => by have := m1_nI (n := rcl s h r i j l) (by omega); rw [this] at y; exact y), if_pos a2, r2, ob, if_pos t3.1, t3.2, if_neg (nI_in z (by omega)), nI_clamp (by omega), (c4 (by omega)).1]
  · rw [if_neg z, if_neg z, if_pos rfl]
    rfl
theorem vrbM (L : LWc s h) {r i j : Nat} (b9 : s 0 9 ≤ 20) {g : HS} (Lg : LWc s g) : (rcM s h r i j = -1 ∧ vrb s h r i j = 2 ∧ rcC s h r i j = -1) ∨ ∃ at' : Nat, at' < 240 ∧ rcM s h r i j = nI at' ∧ hI g 130 at' = nI (vrb s h r i j) ∧ rcC s h r i j = nI (at' % 12) := by
  unfold rcM rcC vrb
  cases hf : ifN s (s 0 0) (s 0 9) with
  | none => exact Or.inl ⟨rfl, rfl, rfl⟩
  | some l =>
    have hl := ifN_lt _ _ hf
    obtain ⟨A, B, C, T⟩ := Lg.1 l hl
    have a9 := A.2.2.2.2.2.2.2.2.1
    show (opL _ _ _ = -1 ∧ (if _ then _ else _) = 2 ∧ opI _ _ = -1) ∨ _
    by_cases z : rcl s h r i j l < s 45 l
    · right
      obtain ⟨c1, c2, c3, c4, -⟩ := C _ z
      have k0 := rcl_k z
      refine ⟨12 * l + rcl s h r i j l, by omega, if_pos z, ?_, ?_⟩
      · show _ = nI (if _ then _ else _)
        rw [if_pos z, (c4 (by omega)).2.1]
      · show opI _ _ = _
        unfold opI
        rw [if_pos z, show (12 * l + rcl s h r i j l) % 12 = rcl s h r i j l by omega]
    · left
      exact ⟨if_neg z, if_neg z, if_neg z⟩
def mayK : List (Nat × Nat) := [(32, 1), (86, 73)]
theorem w_may (E : EV s h) (R : RDc s h) (N : LN1 s h) (L : LWc s h) (H : hI h 32 1 = hI h 86 73) {F : Nat} (hF : 1000 ≤ F) (a b c : Int32) : ∃ v h1 h2, p148 F h a b c = some (v, h1) ∧ p283 F h1 a b c = some (v, h2) ∧ FR ruW mayK (stk s) h h2 ∧ hI h2 32 1 = hI h2 86 73 := by
  have w := E.w.1
  have b0 := E.cn.b0
  have b3 := E.cn.b3
  have b9 := E.cn.b9
  have b10 := E.cn.b10
  have no : ∀ v, p148 F h a b c = some (v, h) → p283 F h a b c = some (v, h) → ∃ v h1 h2, p148 F h a b c = some (v, h1) ∧ p283 F h1 a b c = some (v, h2) ∧ FR ruW mayK (stk s) h h2 ∧ hI h2 32 1 = hI h2 86 73 := fun v e1 e2 => ⟨v, h, h, e1, e2, FR.rf (stk160 L), H⟩
  rcases rdr E a with ⟨h1, h2⟩ | ⟨r, hr, rfl, h1, h2⟩
  · refine no (-1) ?_ ?_
    · unfold p148
      rcases whc E b with ⟨h3, -⟩ | ⟨k, hk, -, rfl, h3, -⟩
      · rw [h3, ob, h1, ob, if_pos rfl]
      · rw [h3, ob, h1, ob, if_pos rfl]
    · unfold p283
      rw [h2 h E.cn.m10, ob, if_pos rfl]
  · rcases whc E b with ⟨h3, h4⟩ | ⟨i, hi, ht, rfl, h3, h4⟩
    · refine no (-1) ?_ ?_
      · unfold p148
        rw [h3, ob, h1, ob, if_neg n10, if_pos rfl]
      · unfold p283
        rw [h2 h E.cn.m10, ob, if_neg n10, h4 h E.cn.m3 rfl, ob, if_pos rfl]
    · have l5 := E.sh.b5 hi
      have sh5 : ∀ g, hI g 86 14 = nI (s 0 3) → p205 g (nI i) = some 1 := by
        rcases shc E (nI i) with ⟨z, -⟩ | ⟨k, hk, e, -, z⟩
        · exfalso
          unfold p171 at h3
          rw [z, ob, if_pos rfl] at h3
          cases h3
        · intro g hg
          have := z g hg
          rw [← e] at this
          exact this
      rcases ixc c (s 5 i) (by omega) with ⟨h5, h6, -⟩ | ⟨j, hj, rfl, h5, h6⟩
      · refine no (-1) ?_ ?_
        · unfold p148 p95
          rw [h3, ob, h1, ob, if_neg n10, if_neg (by intro z; cases z), ob, if_pos (E.sh.t hi), E.sh.f7 hi, h5, ob, if_pos (Or.inl rfl), ob, if_pos rfl]
        · unfold p283 p282
          rw [h2 h E.cn.m10, ob, if_neg n10, h4 h E.cn.m3 rfl, ob, if_neg n10, sh5 h E.cn.m3, ob, if_neg n10, if_neg (nI_in (by omega) (by decide)), nI_clamp (by omega), E.sh.m5 hi, h6, ob, if_pos rfl, ob, if_pos rfl]
      · have r1 := (R.1 r hr).1
        -- the class
        have cls : ∃ g, FR ruW [] (stk s) h g ∧ p148 F h (nI r) (nI i) (nI j) = some (nI (vrb s h r i j), hsI g 32 1 (rcC s h r i j)) := by
          unfold p148 p95 p176
          rw [h3, ob, h1, ob, if_neg n10, if_neg (by intro z; cases z), ob, if_pos (E.sh.t hi), E.sh.f7 hi, h5, ob, if_pos (Or.inr rfl), ob, if_neg n10, E.cn.c0, inC E L b0 (by omega), ob]
          cases hf : ifN s (s 0 0) (s 0 9) with
          | none =>
            refine ⟨h, FR.rf (stk160 L), ?_⟩
            have e1 : rcC s h r i j = -1 := by unfold rcC; rw [hf]
            have e2 : vrb s h r i j = 2 := by unfold vrb; rw [hf]
            unfold p177 p179 p180
            rw [e1, e2, show oI none = -1 from rfl, if_pos rfl, ob, if_neg (nI_in (by omega) (by decide)), nI_clamp (by omega), if_pos rfl, ob, if_pos rfl, ob, if_pos rfl, ob]
            rfl
          | some l =>
            have hl := ifN_lt _ _ hf
            obtain ⟨x, hx, hxb⟩ := surC E L hl hF
            obtain ⟨g, fg, eg⟩ := redC E R N L hr hi hj hf hxb hF
            obtain ⟨E1, R1, N1, L1⟩ := ru_fr1 E R N L fg
            refine ⟨g, fg, ?_⟩
            have f2 : FR ruW mayK (stk s) g (hsI g 32 1 (rcC s h r i j)) := (FR.rf (stk160 L)).sI (Or.inr (Or.inr (Or.inl (by decide))))
            have L2 : LWc s (hsI g 32 1 (rcC s h r i j)) := L1.fr E1.w.1 f2 (by decide) (stk_lw L1)
            rw [show oI (some l) = nI l from rfl, if_neg (fun z => by have := m1_nI (n := l) (by omega); rw [this] at z; exact z), if_neg (nI_in (by omega) (by decide)), nI_clamp (by omega), (L.1 l hl).1.1, ob, if_neg (nI_in (by omega) (by decide)), nI_clamp (by omega), hx, ob, r1, eg, ob, hI_s, vrbC L hf L2, ob]
        obtain ⟨g, fg, eg⟩ := cls
        have f1 : FR ruW mayK (stk s) h g := fg.mo (fun _ z => z) (fun _ z => absurd z List.not_mem_nil) (fun _ z => z) (stk160 L)
        have f2 : FR ruW mayK (stk s) h (hsI g 32 1 (rcC s h r i j)) := f1.sI (Or.inr (Or.inr (Or.inl (by decide))))
        have E1 : EV s (hsI g 32 1 (rcC s h r i j)) := E.fr f2 (by decide) (stk_evD E L)
        have R1 : RDc s (hsI g 32 1 (rcC s h r i j)) := R.fr w f2 (by decide) (stk_rd R L) rfl rfl (Nat.le_refl _) (Nat.le_refl _) (fun _ _ => rfl)
        have N1 : LN1 s (hsI g 32 1 (rcC s h r i j)) := N.fr E f2 (by decide) (fun i hi k hk => stk_ln L i hi k (by omega))
        have L1 : LWc s (hsI g 32 1 (rcC s h r i j)) := L.fr w f2 (by decide) (stk_lw L)
        have eq1 : wRL s (hsI g 32 1 (rcC s h r i j)) r i j = wRL s h r i j := wRL_eq (f2.fA w 141 (by decide)) (f2.fA w 142 (by decide)) (f2.fA w 143 (by decide)) (f2.fA w 144 (by decide)) (f2.fA w 145 (by decide)) (f2.fL w 138 (by decide))
        have v32 : hI (hsI g 32 1 (rcC s h r i j)) 32 1 = rcC s h r i j := hI_s _ _ _ _
        have k97 : hI (hsI g 32 1 (rcC s h r i j)) 97 = hI h 97 := f2.fA w 97 (by decide)
        generalize hsI g 32 1 (rcC s h r i j) = h1' at *
        obtain ⟨g2, fg2, eg2, vs⟩ := srM E1 hF
        have E2 : EV s g2 := E1.fr fg2 (by decide) evD_n
        have R2 : RDc s g2 := R1.fr E1.w.1 fg2 (by decide) (fun _ _ z => z) rfl rfl (Nat.le_refl _) (Nat.le_refl _) (fun _ _ => rfl)
        have N2 : LN1 s g2 := N1.fr E1 fg2 (by decide) (fun _ _ _ _ => id)
        have L2 : LWc s g2 := L1.fr E1.w.1 fg2 (by decide) (fun _ _ _ _ _ => id)
        have w1 := E1.w.1
        have eq2 : wRL s g2 r i j = wRL s h1' r i j := wRL_eq (fg2.fA w1 141 (by decide)) (fg2.fA w1 142 (by decide)) (fg2.fA w1 143 (by decide)) (fg2.fA w1 144 (by decide)) (fg2.fA w1 145 (by decide)) (fg2.fL w1 138 (by decide))
        obtain ⟨g3, fg3, eg3⟩ := redM E2 R2.m N2 L2 hr hi hj vs hF
        have L3 : LWc s g3 := L2.fr E2.w.1 fg3 (by decide) (fun _ _ _ _ _ => id)
        have eM : rcM s g2 r i j = rcM s h r i j := by unfold rcM rcl; rw [eq2, eq1]
        rw [eM] at eg3
        have F3 : FR ruW mayK (stk s) h g3 := (f2.tr (fg2.mo (by decide) (by decide) (fun _ z => z.elim) (stk160 L))).tr (fg3.mo (by decide) (by decide) (fun _ z => z.elim) (stk160 L))
        have v3 : hI g3 32 1 = rcC s h r i j := ((fg3.fI E2.w.1 32 1 (by decide)).trans (fg2.fI w1 32 1 (by decide))).trans v32
        rcases vrbM (r := r) (i := i) (j := j) L b9 L3 with ⟨z1, z2, z3⟩ | ⟨t, ht, z1, z2, z3⟩
        · refine ⟨nI (vrb s h r i j), h1', hsI g3 86 73 (-1), eg, ?_, F3.sI (Or.inr (Or.inr (Or.inl (by decide)))), ?_⟩
          · unfold p283 p282
            rw [h2 h1' E1.cn.m10, ob, if_neg n10, h4 h1' E1.cn.m3 k97, ob, if_neg n10, sh5 h1' E1.cn.m3, ob, if_neg n10, if_neg (nI_in (by omega) (by decide)), nI_clamp (by omega), E1.sh.m5 hi, h6, ob, if_neg n10, ob, if_neg n10, eg2, ob, eg3, ob, z1, if_pos rfl]
            unfold p283_j56
            rw [if_pos rfl, z2]
            rfl
          · rw [hI_s, hI_sn (by decide), v3, z3]
        · refine ⟨nI (vrb s h r i j), h1', hsI g3 86 73 (nI (t % 12)), eg, ?_, F3.sI (Or.inr (Or.inr (Or.inl (by decide)))), ?_⟩
          · have nz : ¬ nI t = -1 := fun z => by have := m1_nI (n := t) (by omega); rw [this] at z; exact z
            unfold p283 p282
            rw [h2 h1' E1.cn.m10, ob, if_neg n10, h4 h1' E1.cn.m3 k97, ob, if_neg n10, sh5 h1' E1.cn.m3, ob, if_neg n10, if_neg (nI_in (by omega) (by decide)), nI_clamp (by omega), E1.sh.m5 hi, h6, ob, if_neg n10, ob, if_neg n10, eg2, ob, eg3, ob, z1, if_neg nz, if_neg (by decide)]
            unfold p283_j56
            rw [if_neg nz, if_neg (nI_in ht (by decide)), nI_clamp (by omega), (d12 t ht).2, hI_sn (by decide), z2]
          · rw [hI_s, hI_sn (by decide), v3, z3]
theorem q_why (H : hI h 32 1 = hI h 86 73) : ∃ v, p149 h = some v ∧ p284 h = some v := ⟨hI h 32 1, rfl, by unfold p284; rw [H]⟩
end MAY
