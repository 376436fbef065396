/-! turn -/
def tvl (s : SS) (h : HS) (r k : Nat) : Int64 := match ifN s (s 0 0) (s 0 9) with
  | none => 0
  | some l => tuV s (wRd s h r k) l
section TUR
variable {s : SS} {h : HS}
theorem wRd_eq {g : HS} {r k : Nat} (e2 : hI g 142 = hI h 142) (e3 : hI g 143 = hI h 143) (e4 : hI g 144 = hI h 144) (e5 : hI g 145 = hI h 145) : wRd s g r k = wRd s h r k := by
  funext j
  unfold wRd
  rw [e2, e3, e4, e5]
theorem tvl_ru {g : HS} {r k : Nat} (w : 160 ≤ h.1) (f : FR ruW [] (stk s) h g) : tvl s g r k = tvl s h r k := by
  unfold tvl
  rw [wRd_eq (f.fA w 142 (by decide)) (f.fA w 143 (by decide)) (f.fA w 144 (by decide)) (f.fA w 145 (by decide))]
theorem ru85 {g : HS} (L : LWc s h) (f : FR [85] [] nD h g) : FR ruW [] (stk s) h g := f.mo (by decide) (by decide) (fun _ z => z.elim) (stk160 L)
theorem ru137 {g : HS} (L : LWc s h) (f : FR [137] [] nD h g) : FR ruW [] (stk s) h g := f.mo (by decide) (by decide) (fun _ z => z.elim) (stk160 L)
theorem ru136 {g : HS} (L : LWc s h) (f : FR [136] [] nD h g) : FR ruW [] (stk s) h g := f.mo (by decide) (by decide) (fun _ z => z.elim) (stk160 L)
theorem ruS {g : HS} {l : Nat} (L : LWc s h) (hl : l < s 0 9) (f : FR [] [] (fun x => x = s 34 l + 1) h g) : FR ruW [] (stk s) h g := f.mo (by decide) (by decide) (fun x z => ⟨l, hl, z⟩) (stk160 L)
theorem tunC (E : EV s h) (R : RDc s h) (N : LN1 s h) (L : LWc s h) {r k : Nat} (hr : r < s 0 10) (hk : k < s 0 3) (e2 : hR h (s 35 r) 2 = some (s 30 k)) {F : Nat} (hF : 1000 ≤ F) : ∃ g, FR ruW [] (stk s) h g ∧ p181 F h (some (s 35 r)) = some (tvl s h r k, g) := by
  have b0 := E.cn.b0
  have b9 := E.cn.b9
  unfold p181 p176
  rw [E.cn.c0, inC E L b0 (by omega), ob]
  cases hi : ifN s (s 0 0) (s 0 9) with
  | none =>
    refine ⟨h, FR.rf (stk160 L), ?_⟩
    have : tvl s h r k = 0 := by unfold tvl; rw [hi]
    rw [this, show oI none = -1 from rfl, if_pos rfl, ob, if_pos rfl]
  | some l =>
    have hl := ifN_lt _ _ hi
    obtain ⟨A, B, C, T⟩ := L.1 l hl
    have tv : tvl s h r k = tuV s (wRd s h r k) l := by unfold tvl; rw [hi]
    obtain ⟨g1, f1, e1, v1⟩ := rdwC E R hr hk hF
    have r1 := ru85 L f1
    obtain ⟨E1, R1, N1, L1⟩ := ru_fr1 E R N L r1
    have t85 : hT g1 85 = 23 := E1.w.t 85 (by decide)
    have n85 : hN g1 85 = 11 := E1.w.n 85 (by decide)
    obtain ⟨g2, f2, e3⟩ := tuC E1 L1 hl ⟨t85, n85⟩ v1 hF (s 45 l) 0 F (by omega) (by have := (L.1 l hl).1.2.2.2.2.2.2.2.2.1; omega) (fun j z => absurd z (Nat.not_lt_zero j))
    refine ⟨g2, r1.tr (ruS L1 hl f2), ?_⟩
    have e26 : p26 F g1 (s 34 l) (some 85) = some (tuV s (wRd s h r k) l, g2) := e3
    rw [show oI (some l) = nI l from rfl, if_neg (fun z => by have := m1_nI (n := l) (by omega); rw [this] at z; exact z), if_neg (nI_in (by omega) (by decide)), nI_clamp (by omega), A.1, ob, if_neg (by intro z; cases z), ob, ob, if_pos (R.1 r hr).2.1, e2, if_neg (by intro z; cases z), ob, e1, ob, if_pos ((L1.1 l hl).1.2.1), e26, ob, tv]
theorem tunM (E : EV s h) (R : RDm s h) (N : LN1 s h) (L : LWc s h) {r k : Nat} (hr : r < s 0 10) (hk : k < s 0 3) (e2 : hI h 142 r = nI k) {F : Nat} (hF : 1000 ≤ F) : ∃ g, FR ruW [] (stk s) h g ∧ p286 F h (nI r) = some (tvl s h r k, g) := by
  have w := E.w.1
  have b0 := E.cn.b0
  have b9 := E.cn.b9
  have b10 := E.cn.b10
  obtain ⟨g1, g2, g, f, f2, e1, e3, e4, v⟩ := rdwM E R hr hk hF
  have r1 := ru137 L f
  obtain ⟨E1, R1, N1, L1⟩ := ru_fr2 E R N L r1
  have k2 : hI g2 142 r = nI k := (congrFun (f2.fA w 142 (by decide)) r).trans e2
  unfold p286
  rw [E.cn.m0, e1, ob, e3, ob, if_neg (nI_in (by omega) (by decide)), nI_clamp (by omega), k2, e4, ob, E1.cn.m0, inM E1 L1 b0 (by omega), ob]
  unfold p274
  cases hi : ifN s (s 0 0) (s 0 9) with
  | none =>
    refine ⟨g, r1, ?_⟩
    have : tvl s h r k = 0 := by unfold tvl; rw [hi]
    obtain ⟨F', rfl⟩ : ∃ F', F = F' + 1 := ⟨F - 1, by omega⟩
    rw [this, p274_L2, show oI none = -1 from rfl, if_pos rfl, ob, if_pos rfl]
  | some l =>
    have hl := ifN_lt _ _ hi
    have tv : tvl s h r k = tuV s (wRd s h r k) l := by unfold tvl; rw [hi]
    have c12 := (L.1 l hl).1.2.2.2.2.2.2.2.2.1
    have e5 := tuM E1 L1 hl F (s 45 l) 0 F (by omega) (by omega) (fun j z => absurd z (Nat.not_lt_zero j))
    rw [show oI (some l) = nI l from rfl, show p274_L2 F (nI l) 2 F g 0 = _ from e5, ob]
    by_cases z : fsN (tuc s l) (s 45 l) < s 45 l
    · have eo : opL l (s 45 l) (fsN (tuc s l) (s 45 l)) = nI (12 * l + fsN (tuc s l) (s 45 l)) := if_pos z
      obtain ⟨g3, f3, e6⟩ := worM E1 L1 hl z v hF
      refine ⟨g3, r1.tr (ru136 L1 f3), ?_⟩
      rw [eo, if_neg (fun z2 => by have := m1_nI (n := 12 * l + fsN (tuc s l) (s 45 l)) (by omega); rw [this] at z2; exact z2), e6, ob, tv]
      unfold tuV
      rw [if_pos z]
    · have eo : opL l (s 45 l) (fsN (tuc s l) (s 45 l)) = -1 := if_neg z
      refine ⟨g, r1, ?_⟩
      rw [eo, if_pos rfl, tv]
      unfold tuV
      rw [if_neg z]
theorem w_turn (E : EV s h) (R : RDc s h) (N : LN1 s h) (L : LWc s h) {F : Nat} (hF : 1000 ≤ F) (a : Int32) : ∃ v h1 h2, p151 F h a = some (v, h1) ∧ p287 F h1 a = some (v, h2) ∧ FR ruW [] (stk s) h h2 := by
  have w := E.w.1
  have b10 := E.cn.b10
  have b3 := E.cn.b3
  rcases rdr E a with ⟨h1, h2⟩ | ⟨i, hi, rfl, h1, h2⟩
  · refine ⟨(-9223372036854775808 : Int64), h, h, ?_, ?_, FR.rf (stk160 L)⟩
    · unfold p151
      rw [h1, ob, if_pos rfl]
    · unfold p287
      rw [h2 h E.cn.m10, ob, if_pos rfl]
  · obtain ⟨r1, r2, r3, r4, r5, r6, r7, r8⟩ := R.1 i hi
    rcases r6 with ⟨e1, e2⟩ | ⟨k, hk, e1, e2⟩
    · refine ⟨(-9223372036854775808 : Int64), h, h, ?_, ?_, FR.rf (stk160 L)⟩
      · unfold p151
        rw [h1, ob, if_neg n10, if_neg (nI_in (by omega) (by decide)), nI_clamp (by omega), r1, ob, if_pos r2, e2, if_pos rfl]
      · unfold p287
        rw [h2 h E.cn.m10, ob, if_neg n10, if_neg (nI_in (by omega) (by decide)), nI_clamp (by omega), e1, if_pos rfl]
    · obtain ⟨g, fg, eg⟩ := tunC E R N L hi hk e2 hF
      obtain ⟨E1, R1, N1, L1⟩ := ru_fr1 E R N L fg
      have k2 : hI g 142 i = nI k := (congrFun (fg.fA w 142 (by decide)) i).trans e1
      obtain ⟨g2, fg2, eg2⟩ := tunM E1 R1.m N1 L1 hi hk k2 hF
      refine ⟨tvl s h i k, g, g2, ?_, ?_, fg.tr fg2⟩
      · unfold p151
        rw [h1, ob, if_neg n10, if_neg (nI_in (by omega) (by decide)), nI_clamp (by omega), r1, ob, if_pos r2, e2, if_neg (by intro z; cases z), ob, if_neg (nI_in' (by omega) (by decide)), eg, ob]
      · unfold p287
        rw [h2 g E1.cn.m10, ob, if_neg n10, if_neg (nI_in (by omega) (by decide)), nI_clamp (by omega), k2, if_neg (fun z => by have := m1_nI (n := k) (by omega); rw [this] at z; exact z), eg2, ob, tvl_ru w fg]
end TUR
