/-! a law's text: the class reads it so -/
def CK4 : List (Nat × Nat) := [(61, 2), (61, 3), (61, 4), (61, 6)]
def TB (h : HS) (T P : Nat → Nat) (m : Nat) : Prop := m ≤ 400 ∧ T m = 10002 ∧ ∀ k, k ≤ m → hI h 59 k = nI (T k) ∧ T k < 20000 ∧ hI h 60 k = nI (P k) ∧ P k ≤ 400
def KC (h0 g : HS) (s : PST) : Prop := FR [65] CK4 nD h0 g ∧ hI g 61 2 = nI s.1 ∧ hI g 61 3 = 0 ∧ hI g 61 4 = nI s.2.1 ∧ hI g 61 6 = nI s.2.2.length ∧ ∀ j, j < s.2.2.length → hI g 65 j = nI (s.2.2.getD j 0)
def KF (h0 g : HS) (e : Nat) : Prop := FR [65] CK4 nD h0 g ∧ (hI g 61 3 = nI e ∧ 0 < e ∧ e < 100000) ∧ ∃ a, a ≤ 401 ∧ hI g 61 2 = nI a
section CIM
variable {h0 g : HS} {T P : Nat → Nat} {m F : Nat} {s : PST} {e : Nat}
theorem KF.n0 (K : KF h0 g e) : ¬ hI g 61 3 = 0 := by
  rw [K.2.1.1]
  exact nI_ne0 K.2.1.2.1 (by have := K.2.1.2.2; omega)
theorem KF.rf (K : KF h0 g e) (x : Int32) : p32 g x = some g := by unfold p32; rw [if_neg K.n0]
theorem KF.ac (K : KF h0 g e) (x : Int32) : p33 g x = some (0, g) := by unfold p33; rw [if_neg K.n0]
theorem KF.em (K : KF h0 g e) (x : Int32) : p34 g x = some g := by unfold p34; rw [if_neg K.n0]
theorem KF.tk (K : KF h0 g e) : ∃ t, p31 g = some t ∧ (t = 10002 ∨ ∃ a, a < 401 ∧ hI g 61 2 = nI a) := by
  obtain ⟨-, -, a, ha, ea⟩ := K
  unfold p31
  rw [ea]
  by_cases z : a < 401
  · rw [if_pos (show nI a < 401 from nI_lt (b := 401) z (by decide)), if_neg (nI_in z (by decide))]
    exact ⟨_, rfl, Or.inr ⟨a, z, rfl⟩⟩
  · rw [if_neg (show ¬ nI a < 401 from nI_nlt (a := a) (b := 401) (by omega) (by omega))]
    exact ⟨_, rfl, Or.inl rfl⟩
theorem KF.at (K : KF h0 g e) {a : Nat} (ha : a < 401) (ea : hI g 61 2 = nI a) : KF h0 (hsI g 61 2 (hI g 61 2 + 1)) e := by
  obtain ⟨f, k, -⟩ := K
  refine ⟨f.sI (Or.inr (Or.inr (Or.inl (by decide)))), ⟨by rw [hsI_k (by decide)]; exact k.1, k.2⟩, a + 1, by omega, ?_⟩
  rw [hsI_s, ea, nI_1]
theorem KF.cn (K : KF h0 g e) (x : Int32) : KF h0 (hsI g 61 4 x) e := by
  obtain ⟨f, k, a, ha, ea⟩ := K
  exact ⟨f.sI (Or.inr (Or.inr (Or.inl (by decide)))), ⟨by rw [hsI_k (by decide)]; exact k.1, k.2⟩, a, ha, by rw [hsI_k (by decide)]; exact ea⟩
theorem TB.k (B : TB h0 T P m) (w : 160 ≤ h0.1) (f : FR [65] CK4 nD h0 g) {k : Nat} (hk : k ≤ m) : hI g 59 k = nI (T k) ∧ hI g 60 k = nI (P k) := by
  obtain ⟨b1, -, b2', -⟩ := B.2.2 k hk
  rw [f.fA w 59 (by decide), f.fA w 60 (by decide)]
  exact ⟨b1, b2'⟩
theorem KC.tk (K : KC h0 g s) (B : TB h0 T P m) (w : 160 ≤ h0.1) (hs : s.1 ≤ m) : p31 g = some (nI (T s.1)) := by
  have hm := B.1
  unfold p31
  rw [K.2.1, if_pos (show nI s.1 < 401 from nI_lt (b := 401) (by omega) (by decide)), if_neg (nI_in (by omega) (by decide)), nI_clamp (by omega), (B.k w K.1 hs).1]
theorem KC.rf (K : KC h0 g s) (B : TB h0 T P m) (w : 160 ≤ h0.1) (hs : s.1 ≤ m) {x : Int32} {k : Nat} (hx : x = nI k) (hk : k < 8) : ∃ g', p32 g x = some g' ∧ KF h0 g' (1 + 8 * P s.1 + k) := by
  have hm := B.1
  have hP := (B.2.2 s.1 hs).2.2.2
  refine ⟨hsI g 61 3 (nI (1 + 8 * P s.1 + k)), ?_, K.1.sI (Or.inr (Or.inr (Or.inl (by decide)))), ⟨hsI_s _ _ _ _, by omega, by omega⟩, s.1, by omega, by rw [hsI_k (by decide)]; exact K.2.1⟩
  unfold p32
  rw [K.2.2.1, if_pos rfl, K.2.1, if_pos (show nI s.1 < 401 from nI_lt (b := 401) (by omega) (by decide)), if_neg (nI_in (by omega) (by decide)), nI_clamp (by omega), (B.k w K.1 hs).2, hx, show (8 : Int32) = nI 8 from rfl, show (1 : Int32) = nI 1 from rfl, pk_mul, nI_add, nI_add]
theorem KC.rf2 (K : KC h0 g s) {x : Int32} {g' : HS} (e : p32 g x = some g') : hI g' 61 2 = nI s.1 := by
  unfold p32 at e
  rw [K.2.2.1, if_pos rfl] at e
  have r : ∀ v, hI (hsI g 61 3 v) 61 2 = nI s.1 := fun v => by rw [hsI_k (by decide)]; exact K.2.1
  by_cases z : hI g 61 2 < 401
  · rw [if_pos z] at e
    by_cases y : hI g 61 2 < 0 ∨ 401 ≤ (hI g 61 2).toNatClampNeg
    · rw [if_pos y] at e; cases e
    · rw [if_neg y] at e
      injection e with e
      rw [← e]
      exact r _
  · rw [if_neg z] at e
    injection e with e
    rw [← e]
    exact K.2.1
theorem KC.at (K : KC h0 g s) : KC h0 (hsI g 61 2 (hI g 61 2 + 1)) (s.1 + 1, s.2.1, s.2.2) := by
  obtain ⟨f, k1, k2, k3, k4, k5⟩ := K
  refine ⟨f.sI (Or.inr (Or.inr (Or.inl (by decide)))), ?_, ?_, ?_, ?_, fun j hj => ?_⟩
  · rw [hsI_s, k1, nI_1]
  · rw [hsI_k (by decide)]; exact k2
  · rw [hsI_k (by decide)]; exact k3
  · rw [hsI_k (by decide)]; exact k4
  · rw [hsI_n (by decide)]; exact k5 j hj
theorem KC.cn (K : KC h0 g s) : KC h0 (hsI g 61 4 (hI g 61 4 + 1)) (s.1, s.2.1 + 1, s.2.2) := by
  obtain ⟨f, k1, k2, k3, k4, k5⟩ := K
  refine ⟨f.sI (Or.inr (Or.inr (Or.inl (by decide)))), ?_, ?_, ?_, ?_, fun j hj => ?_⟩
  · rw [hsI_k (by decide)]; exact k1
  · rw [hsI_k (by decide)]; exact k2
  · rw [hsI_s, k3, nI_1]
  · rw [hsI_k (by decide)]; exact k4
  · rw [hsI_n (by decide)]; exact k5 j hj
theorem KC.ac (K : KC h0 g s) (B : TB h0 T P m) (w : 160 ≤ h0.1) (hs : s.1 ≤ m) {x : Int32} {t : Nat} (hx : x = nI t) (ht : t < 20000) : p33 g x = if T s.1 = t then some (1, hsI g 61 2 (hI g 61 2 + 1)) else some (0, g) := by
  have hm := B.1
  unfold p33
  rw [K.2.2.1, if_pos rfl]
  have e1 := K.2.1
  have l1 : hI g 61 2 < 401 := by rw [e1]; exact nI_lt (b := 401) (by omega) (by decide)
  have l2 : ¬ (hI g 61 2 < 0 ∨ 401 ≤ (hI g 61 2).toNatClampNeg) := by rw [e1]; exact nI_in (by omega) (by decide)
  have l3 : hI g 59 (hI g 61 2).toNatClampNeg = nI (T s.1) := by rw [e1, nI_clamp (by omega)]; exact (B.k w K.1 hs).1
  rw [if_pos l1, if_neg l2, l3, hx]
  have := (B.2.2 s.1 hs).2.1
  by_cases z : T s.1 = t
  · rw [if_pos z, if_pos (by rw [z])]
  · rw [if_neg z, if_neg (fun y => z ((nI_eq (by omega) (by omega)).mp y))]
theorem KC.em (K : KC h0 g s) {x : Int32} {t : Nat} (hx : x = nI t) (hl : s.2.2.length < 400) : ∃ g', p34 g x = some g' ∧ KC h0 g' (s.1, s.2.1, s.2.2 ++ [t]) := by
  obtain ⟨f, k1, k2, k3, k4, k5⟩ := K
  have e6 : hI (hsI g 65 s.2.2.length x) 61 6 = nI s.2.2.length := by rw [hsI_n (by decide)]; exact k4
  refine ⟨hsI (hsI g 65 s.2.2.length x) 61 6 (nI (s.2.2.length + 1)), ?_, (f.sI (Or.inl (by decide))).sI (Or.inr (Or.inr (Or.inl (by decide)))), ?_, ?_, ?_, ?_, fun j hj => ?_⟩
  · unfold p34
    rw [k2, if_pos rfl, k4, if_pos (show nI s.2.2.length < 400 from nI_lt (b := 400) hl (by decide)), if_neg (nI_in hl (by decide)), nI_clamp (by omega), e6, nI_1, ob]
  · rw [hsI_k (by decide), hsI_n (by decide)]; exact k1
  · rw [hsI_k (by decide), hsI_n (by decide)]; exact k2
  · rw [hsI_k (by decide), hsI_n (by decide)]; exact k3
  · rw [hsI_s, List.length_append]; rfl
  · rw [hsI_n (by decide)]
    rw [List.length_append] at hj
    have hj : j < s.2.2.length + 1 := hj
    show _ = nI ((s.2.2 ++ [t]).getD j 0)
    rw [gdA]
    by_cases z : j = s.2.2.length
    · subst z
      rw [hsI_s, if_neg (Nat.lt_irrefl _), Nat.sub_self, hx]
      rfl
    · rw [hsI_k z, if_pos (by omega)]
      exact k5 j (by omega)
def IMP (h0 : HS) (m : Nat) (X : HS → Option HS) (A : PST → PRS) : Prop := ∀ g s, KC h0 g s → s.1 ≤ m → s.2.2.length ≤ s.1 → s.2.1 ≤ 80 → ∃ g', X g = some g' ∧ ((∃ e, A s = Sum.inl e ∧ KF h0 g' e) ∨ ∃ r, A s = Sum.inr r ∧ KC h0 g' r)
/-! sums -/
theorem smF1 (R : HS → Int32 → Option HS) (a0 : Int32) (K4 : HS → Int32 → Int32 → Option HS) (hK : ∀ g', KF h0 g' e → ∀ x y, ∃ g2, K4 g' x y = some g2 ∧ KF h0 g2 e) (K : KF h0 g e) (v2 v3 : Int32) : ∃ g2, p40_j62 F R a0 K4 g v2 v3 = some g2 ∧ KF h0 g2 e := by
  have j72 : ∃ g2, p40_j72 F R a0 K4 g v3 = some g2 ∧ KF h0 g2 e := by
    unfold p40_j72 p40_j92
    obtain ⟨t, e1, e2⟩ := K.tk
    rw [e1, ob]
    by_cases z1 : t = 10045
    · rw [if_pos z1]
      rcases e2 with y | ⟨a, ha, ea⟩
      · rw [z1] at y; exact absurd y (by decide)
      · exact hK _ (K.at ha ea) _ _
    · rw [if_neg z1]
      by_cases z2 : t = 10046
      · rw [if_pos z2]
        rcases e2 with y | ⟨a, ha, ea⟩
        · rw [z2] at y; exact absurd y (by decide)
        · exact hK _ (K.at ha ea) _ _
      · rw [if_neg z2]
        exact ⟨g, rfl, K⟩
  unfold p40_j62
  by_cases z : v2 = -1
  · rw [if_pos z]; exact j72
  · rw [if_neg z, K.em, ob]; exact j72
theorem smF (R : HS → Int32 → Option HS) (a0 : Int32) (n : Nat) (K : KF h0 g e) (v2 v3 : Int32) : ∃ g2, p40_L4 F R a0 (n + 1) g v2 v3 = some g2 ∧ KF h0 g2 e := by
  rw [p40_L4, if_neg K.n0, ite_self]
  exact ⟨g, rfl, K⟩
theorem smF0 {R : HS → Int32 → Option HS} {a0 : Int32} {K4 : HS → Int32 → Int32 → Option HS} {n : Nat} {v2 v3 x : Int32} (K : KF h0 g e) : p40_L26 F R a0 K4 (n + 1) g v2 v3 x = p40_j62 F R a0 K4 g v2 v3 := by
  rw [p40_L26]
  by_cases z : x < 400
  · rw [if_pos z, K.ac, ob, if_pos rfl]
  · rw [if_neg z]
theorem spF (hF : 1000 ≤ F) (R : HS → Int32 → Option HS) (a0 : Int32) (K : KF h0 g e) : p40 F R g a0 = some g := by
  obtain ⟨F', hF'⟩ : ∃ F', F = F' + 1 := ⟨F - 1, by omega⟩
  unfold p40
  rw [show p40_L4 F R a0 F g (-1) 0 = p40_L4 F R a0 (F' + 1) g (-1) 0 by rw [← hF'], p40_L4, if_neg K.n0, ite_self]
theorem smT (B : TB h0 T P m) (w : 160 ≤ h0.1) {A : PST → PRS} (hG : GDA T m false A) {R : HS → Int32 → Option HS} {a0 : Int32} (hV : IMP h0 m (fun g => R g a0) A) (K4 : HS → Int32 → Int32 → Option HS) (v2 v3 : Int32) : ∀ (n f : Nat) (g : HS) (s : PST) (v4 : Nat), m - s.1 < n → m - s.1 + 1 < f → v4 ≤ s.1 → KC h0 g s → s.1 ≤ m → s.2.2.length ≤ s.1 → s.2.1 ≤ 80 → ∃ g', p40_L26 F R a0 K4 f g v2 v3 (nI v4) = p40_j62 F R a0 K4 g' v2 v3 ∧ ((∃ e, aIn T A 10047 n s = Sum.inl e ∧ KF h0 g' e) ∨ ∃ r, aIn T A 10047 n s = Sum.inr r ∧ KC h0 g' r ∧ r.1 ≤ m ∧ r.2.2.length ≤ r.1 ∧ r.2.1 ≤ 80 ∧ s.1 ≤ r.1 ∧ r.2.2.length + s.1 ≤ s.2.2.length + r.1) := by
  have hm := B.1
  intro n
  induction n with
  | zero => intro f g s v4 z; omega
  | succ n ih =>
    intro f g s v4 hn hf hv K hs hl hc
    obtain ⟨f, rfl⟩ : ∃ f', f = f' + 1 := ⟨f - 1, by omega⟩
    have tk := (B.2.2 s.1 hs).2.1
    rw [aIn]
    by_cases zt : T s.1 = 10047
    · have lt : s.1 < m := lt_m B.2.1 hs (by rw [zt]; decide)
      rw [if_pos zt, p40_L26, if_pos (show nI v4 < 400 from nI_lt (b := 400) (by omega) (by decide)), K.ac B w hs (show (10047 : Int32) = nI 10047 from rfl) (by decide), if_pos zt, ob, if_neg n10]
      obtain ⟨g2, e2, c⟩ := hV _ _ K.at (show s.1 + 1 ≤ m from lt) (Nat.le_succ_of_le hl) hc
      have e2 : R (hsI g 61 2 (hI g 61 2 + 1)) a0 = some g2 := e2
      rcases c with ⟨e, ea, Kf⟩ | ⟨r, ea, Kr⟩
      · obtain ⟨f, rfl⟩ : ∃ f', f = f' + 1 := ⟨f - 1, by omega⟩
        rw [e2, ob, Kf.em, ob, smF0 Kf, ea]
        exact ⟨g2, rfl, Or.inl ⟨e, rfl, Kf⟩⟩
      · obtain ⟨l1, D, d1, d2, d3, d4, -⟩ := hG _ _ (show s.1 + 1 ≤ m from lt) ea
        have l1 : s.1 + 1 < r.1 := l1
        have d2 : r.2.2.length + (s.1 + 1) ≤ s.2.2.length + r.1 := d2
        obtain ⟨g3, e3, K3⟩ := Kr.em (show (10047 : Int32) = nI 10047 from rfl) (by omega)
        have le3 : (r.2.2 ++ [10047]).length = r.2.2.length + 1 := by rw [List.length_append]; rfl
        obtain ⟨g', x1, x2⟩ := ih f g3 _ (v4 + 1) (by show m - r.1 < n; omega) (by show m - r.1 + 1 < f; omega) (by show v4 + 1 ≤ r.1; omega) K3 d1 (by show (r.2.2 ++ [10047]).length ≤ r.1; rw [le3]; omega) (d4 hc)
        rw [e2, ob, e3, ob, nI_1, ea, pbd_r]
        refine ⟨g', x1, x2.imp id (fun ⟨r2, y1, y2, y3, y4, y5, y6, y7⟩ => ⟨r2, y1, y2, y3, y4, y5, ?_, ?_⟩)⟩
        · have y6 : r.1 ≤ r2.1 := y6; omega
        · have y7 : r2.2.2.length + r.1 ≤ (r.2.2 ++ [10047]).length + r2.1 := y7
          rw [le3] at y7
          omega
    · rw [if_neg zt]
      refine ⟨g, ?_, Or.inr ⟨s, rfl, K, hs, hl, hc, Nat.le_refl _, Nat.le_refl _⟩⟩
      rw [p40_L26]
      by_cases zv : nI v4 < 400
      · rw [if_pos zv, K.ac B w hs (show (10047 : Int32) = nI 10047 from rfl) (by decide), if_neg zt, ob, if_pos rfl]
      · rw [if_neg zv]
theorem suL (B : TB h0 T P m) (w : 160 ≤ h0.1) {A : PST → PRS} (hG : GDA T m false A) {R : HS → Int32 → Option HS} {a0 : Int32} (hV : IMP h0 m (fun g => R g a0) A) (hF : 1000 ≤ F) : ∀ (n f : Nat) (J : List Nat) (v2 : Int32) (g : HS) (s : PST) (v3 : Nat), m - s.1 < n → m - s.1 + 1 < f → 2 * v3 ≤ s.1 → ((J = [] ∧ v2 = -1) ∨ ∃ j, J = [j] ∧ j < 20000 ∧ v2 = nI j) → KC h0 g s → s.1 ≤ m → s.2.2.length + J.length ≤ s.1 → s.2.1 ≤ 80 → ∃ g', p40_L4 F R a0 f g v2 (nI v3) = some g' ∧ ((∃ e, aOu T A 10047 isPM n J s = Sum.inl e ∧ KF h0 g' e) ∨ ∃ r, aOu T A 10047 isPM n J s = Sum.inr r ∧ KC h0 g' r) := by
  have hm := B.1
  intro n
  induction n with
  | zero => intro f J v2 g s v3 z; omega
  | succ n ih =>
    intro f J v2 g s v3 hn hf hv hJ K hs hl hc
    obtain ⟨f, rfl⟩ : ∃ f', f = f' + 2 := ⟨f - 2, by omega⟩
    have fK : ∀ e g', KF h0 g' e → ∀ x y, ∃ g2, p40_L4 F R a0 (f + 1) g' x y = some g2 ∧ KF h0 g2 e := fun e g' K' x y => smF R a0 f K' x y
    obtain ⟨F', hF'⟩ : ∃ F', F = F' + 1 := ⟨F - 1, by omega⟩
    rw [p40_L4, if_pos (show nI v3 < 400 from nI_lt (b := 400) (by omega) (by decide)), K.2.2.1, if_pos rfl, aOu]
    obtain ⟨g2, e2, c⟩ := hV _ _ K hs (by omega) hc
    have e2 : R g a0 = some g2 := e2
    rw [e2, ob]
    rcases c with ⟨e, ea, Kf⟩ | ⟨r, ea, Kr⟩
    · obtain ⟨g3, e3, K3⟩ := smF1 (F := F) (e := e) R a0 (p40_L4 F R a0 (f + 1)) (fK e) Kf v2 (nI v3)
      rw [show p40_L26 F R a0 (p40_L4 F R a0 (f + 1)) F g2 v2 (nI v3) 0 = p40_L26 F R a0 (p40_L4 F R a0 (f + 1)) (F' + 1) g2 v2 (nI v3) 0 by rw [← hF'], smF0 Kf, e3, ea]
      exact ⟨g3, rfl, Or.inl ⟨e, rfl, K3⟩⟩
    · obtain ⟨l1, D, d1, d2, d3, d4, -⟩ := hG _ _ hs ea
      obtain ⟨g3, e3, c3⟩ := smT (F := F) B w hG hV (p40_L4 F R a0 (f + 1)) v2 (nI v3) 401 F g2 r 0 (by omega) (by omega) (Nat.zero_le _) Kr d1 (by omega) (d4 hc)
      rw [show p40_L26 F R a0 (p40_L4 F R a0 (f + 1)) F g2 v2 (nI v3) 0 = _ from e3, ea, pbd_r]
      rcases c3 with ⟨e, ei, Kf⟩ | ⟨q, ei, Kq, q1, q2, q3, q4, q5⟩
      · obtain ⟨g4, e4, K4⟩ := smF1 (F := F) (e := e) R a0 (p40_L4 F R a0 (f + 1)) (fK e) Kf v2 (nI v3)
        rw [e4, ei]
        exact ⟨g4, rfl, Or.inl ⟨e, rfl, K4⟩⟩
      · rw [ei, pbd_r]
        have j72 : ∀ (g4 : HS) (J4 : List Nat), J4.length ≤ 1 → KC h0 g4 (q.1, q.2.1, q.2.2 ++ J4) → q.2.2.length + J4.length ≤ q.1 → ∃ g', p40_j72 F R a0 (p40_L4 F R a0 (f + 1)) g4 (nI v3) = some g' ∧ ((∃ e, (if isPM (T q.1) then aOu T A 10047 isPM n [T q.1] (q.1 + 1, q.2.1, q.2.2 ++ J4) else Sum.inr (q.1, q.2.1, q.2.2 ++ J4)) = Sum.inl e ∧ KF h0 g' e) ∨ ∃ r, (if isPM (T q.1) then aOu T A 10047 isPM n [T q.1] (q.1 + 1, q.2.1, q.2.2 ++ J4) else Sum.inr (q.1, q.2.1, q.2.2 ++ J4)) = Sum.inr r ∧ KC h0 g' r) := by
          intro g4 J4 hJ4 K4 hl4
          have tq := (B.2.2 q.1 q1).2.1
          have go : isPM (T q.1) = true → ∃ g', p40_j92 F R a0 (p40_L4 F R a0 (f + 1)) g4 (nI (T q.1)) (nI v3) = some g' ∧ ((∃ e, aOu T A 10047 isPM n [T q.1] (q.1 + 1, q.2.1, q.2.2 ++ J4) = Sum.inl e ∧ KF h0 g' e) ∨ ∃ r, aOu T A 10047 isPM n [T q.1] (q.1 + 1, q.2.1, q.2.2 ++ J4) = Sum.inr r ∧ KC h0 g' r) := by
            intro hp
            have lq : q.1 < m := lt_m B.2.1 q1 (by have := isPM_c _ hp; omega)
            unfold p40_j92
            rw [nI_1]
            exact ih (f + 1) [T q.1] (nI (T q.1)) _ _ (v3 + 1) (by show m - (q.1 + 1) < n; omega) (by show m - (q.1 + 1) + 1 < f + 1; omega) (by show 2 * (v3 + 1) ≤ q.1 + 1; omega) (Or.inr ⟨_, rfl, tq, rfl⟩) K4.at lq (by show (q.2.2 ++ J4).length + 1 ≤ q.1 + 1; rw [List.length_append]; omega) q3
          unfold p40_j72
          rw [K4.tk B w q1, ob]
          cases hp : isPM (T q.1)
          · have n1 : ¬ nI (T q.1) = 10045 := fun z => by
              have := (nI_eq (b := 10045) (by omega) (by decide)).mp z
              rw [this] at hp; exact absurd hp (by decide)
            have n2 : ¬ nI (T q.1) = 10046 := fun z => by
              have := (nI_eq (b := 10046) (by omega) (by decide)).mp z
              rw [this] at hp; exact absurd hp (by decide)
            rw [if_neg n1, if_neg n2]
            exact ⟨g4, rfl, Or.inr ⟨_, rfl, K4⟩⟩
          · rw [if_pos rfl]
            rcases isPM_c _ hp with z | z
            · rw [if_pos (show nI (T q.1) = 10045 by rw [z]; rfl)]; exact go hp
            · rw [if_neg (show ¬ nI (T q.1) = 10045 by rw [z]; decide), if_pos (show nI (T q.1) = 10046 by rw [z]; rfl)]; exact go hp
        unfold p40_j62
        rcases hJ with ⟨rfl, rfl⟩ | ⟨j, rfl, hj, rfl⟩
        · rw [if_pos rfl]
          exact j72 g3 [] (Nat.zero_le _) (by rw [List.append_nil]; exact Kq) q2
        · have nj : ¬ nI j = -1 := fun z => by have := m1_nI (n := j) (by omega); rw [this] at z; exact z
          have hl : s.2.2.length + 1 ≤ s.1 := hl
          obtain ⟨g4, e4, K4⟩ := Kq.em (show nI j = nI j from rfl) (by omega)
          rw [if_neg nj, e4, ob]
          exact j72 g4 [j] (Nat.le_refl _) K4 (by show q.2.2.length + 1 ≤ q.1; omega)
theorem imp_sum (B : TB h0 T P m) (w : 160 ≤ h0.1) {A : PST → PRS} (hG : GDA T m false A) {R : HS → Int32 → Option HS} {a0 : Int32} (hV : IMP h0 m (fun g => R g a0) A) (hF : 1000 ≤ F) : IMP h0 m (fun g => p40 F R g a0) (aOu T A 10047 isPM 401 []) := by
  have hm := B.1
  intro g s K hs hl hc
  exact suL (F := F) B w hG hV hF 401 F [] (-1) g s 0 (by omega) (by omega) (Nat.zero_le _) (Or.inl ⟨rfl, rfl⟩) K hs hl hc
/-! values -/
theorem vlS (B : TB h0 T P m) (w : 160 ≤ h0.1) (d : Nat) (hd : d ≤ 10) (R : HS → Int32 → Option HS) (hR : ¬ d = 0 → IMP h0 m (fun g => R g (nI (10 - (d - 1)))) (aOu T (aVl T P d) 10047 isPM 401 [])) (hRF : ∀ e g, KF h0 g e → R g (nI (10 - d) + 1) = some g) : IMP h0 m (fun g => p41 F R g (nI (10 - d))) (aVl T P (d + 1)) := by
  have hm := B.1
  intro g s K hs hl hc
  have tk := (B.2.2 s.1 hs).2.1
  have lit : ∀ c, c < 20000 → (nI (T s.1) = nI c ↔ T s.1 = c) := fun c hc => nI_eq (by omega) (by omega)
  -- counted, and then
  have j79 : ∀ v3 : Int32, s.1 < m → (s.2.1 = 80 → ∃ g', p41_j79 F R (nI (10 - d)) g (nI (T s.1)) v3 = some g' ∧ KF h0 g' (1 + 8 * P s.1 + 3)) ∧ (¬ s.2.1 = 80 → p41_j79 F R (nI (10 - d)) g (nI (T s.1)) v3 = p41_j103 F R (nI (10 - d)) (hsI g 61 4 (hI g 61 4 + 1)) (nI (T s.1)) v3) := by
    intro v3 lt
    have Kc := K.cn
    unfold p41_j79
    have ec : hI (hsI g 61 4 (hI g 61 4 + 1)) 61 4 = nI (s.2.1 + 1) := Kc.2.2.2.1
    rw [ec]
    refine ⟨fun z => ?_, fun z => ?_⟩
    · obtain ⟨g2, e2, K2⟩ := Kc.rf B w hs (show (3 : Int32) = nI 3 from rfl) (by decide)
      have e2' : hI g2 61 2 = nI s.1 := Kc.rf2 e2
      rw [if_pos (show (80 : Int32) < nI (s.2.1 + 1) from nI_lt (a := 80) (by omega) (by omega)), e2, ob]
      have Ka := K2.at (a := s.1) (by omega) e2'
      unfold p41_j103
      by_cases y : v3 = 0
      · rw [if_pos y, hRF _ _ Ka, ob, Ka.ac, ob, if_pos rfl, Ka.rf, ob]
        exact ⟨_, rfl, Ka⟩
      · rw [if_neg y, Ka.em, ob]
        exact ⟨_, rfl, Ka⟩
    · rw [if_neg (show ¬ (80 : Int32) < nI (s.2.1 + 1) from nI_nlt (a := 80) (by omega) (by decide))]
  show ∃ g', p41 F R g (nI (10 - d)) = some g' ∧ _
  unfold p41
  rw [K.tk B w hs, ob, aVl]
  cases hp : isPl (T s.1)
  · have np : ¬ T s.1 < 10000 ∧ ¬ (10010 ≤ T s.1 ∧ T s.1 < 10021) := by
      refine ⟨fun z => ?_, fun z => ?_⟩
      · unfold isPl at hp; rw [decide_eq_true z] at hp; cases hp
      · unfold isPl at hp; rw [decide_eq_true z.1, decide_eq_true z.2, Bool.and_self, Bool.or_true] at hp; cases hp
    have pl : (if nI (T s.1) < 10000 then p41_j26 F R (nI (10 - d)) g (nI (T s.1)) else if nI (T s.1) < 10010 then p41_j30 F R (nI (10 - d)) g (nI (T s.1)) else if nI (T s.1) < 10021 then p41_j26 F R (nI (10 - d)) g (nI (T s.1)) else p41_j30 F R (nI (10 - d)) g (nI (T s.1))) = p41_j30 F R (nI (10 - d)) g (nI (T s.1)) := by
      rw [if_neg (show ¬ nI (T s.1) < 10000 from nI_nlt (a := T s.1) (b := 10000) (by omega) (by omega))]
      by_cases y : T s.1 < 10010
      · rw [if_pos (show nI (T s.1) < 10010 from nI_lt (b := 10010) y (by decide))]
      · rw [if_neg (show ¬ nI (T s.1) < 10010 from nI_nlt (a := T s.1) (b := 10010) (by omega) (by omega)), if_neg (show ¬ nI (T s.1) < 10021 from nI_nlt (a := T s.1) (b := 10021) (by omega) (by omega))]
    rw [pl, if_neg (by decide)]
    unfold p41_j30 p41_j31
    rw [if_pos rfl]
    by_cases z : T s.1 = 10041
    · have lt : s.1 < m := lt_m B.2.1 hs (by rw [z]; decide)
      rw [if_pos (show nI (T s.1) = 10041 by rw [z]; rfl), if_pos z]
      unfold p41_j60
      rw [if_pos (show nI (T s.1) = 10041 by rw [z]; rfl)]
      by_cases d0 : d = 0
      · rw [if_neg (show ¬ nI (10 - d) < 10 by rw [d0]; decide), if_pos d0]
        obtain ⟨g2, e2, K2⟩ := K.rf B w hs (show (2 : Int32) = nI 2 from rfl) (by decide)
        rw [e2, ob]
        exact ⟨g2, rfl, Or.inl ⟨_, rfl, K2⟩⟩
      · rw [if_pos (show nI (10 - d) < 10 from nI_lt (b := 10) (by omega) (by decide)), if_neg d0]
        by_cases c80 : s.2.1 = 80
        · obtain ⟨g2, e2, K2⟩ := (j79 0 lt).1 c80
          rw [e2, if_pos c80]
          exact ⟨g2, rfl, Or.inl ⟨_, rfl, K2⟩⟩
        · rw [(j79 0 lt).2 c80, if_neg c80]
          unfold p41_j103
          rw [if_pos rfl]
          obtain ⟨g2, e2, c⟩ := hR d0 _ _ K.cn.at (show s.1 + 1 ≤ m from lt) (Nat.le_succ_of_le hl) (by show s.2.1 + 1 ≤ 80; omega)
          have ed : nI (10 - d) + 1 = nI (10 - (d - 1)) := by rw [nI_1]; congr 1; omega
          have e2 : R (hsI (hsI g 61 4 (hI g 61 4 + 1)) 61 2 (hI (hsI g 61 4 (hI g 61 4 + 1)) 61 2 + 1)) (nI (10 - (d - 1))) = some g2 := e2
          rw [ed, e2, ob]
          rcases c with ⟨e, ea, Kf⟩ | ⟨r, ea, Kr⟩
          · rw [Kf.ac, ob, if_pos rfl, Kf.rf, ob, ea]
            exact ⟨g2, rfl, Or.inl ⟨e, rfl, Kf⟩⟩
          · obtain ⟨⟨-, D, d1, -⟩, -, -⟩ := gd_sum B.2.1 (gd_val (P := P) B.2.1 d) _ _ (show s.1 + 1 ≤ m from lt) ea
            rw [Kr.ac B w d1 (show (10042 : Int32) = nI 10042 from rfl) (by decide), ea, pbd_r]
            by_cases y : T r.1 = 10042
            · rw [if_pos y, ob, if_neg n10, if_pos y]
              exact ⟨_, rfl, Or.inr ⟨_, rfl, Kr.at⟩⟩
            · rw [if_neg y, ob, if_pos rfl, if_neg y]
              obtain ⟨g3, e3, K3⟩ := Kr.rf B w d1 (show (0 : Int32) = nI 0 from rfl) (by decide)
              rw [e3, ob]
              exact ⟨g3, rfl, Or.inl ⟨_, rfl, K3⟩⟩
    · rw [if_neg (show ¬ nI (T s.1) = 10041 from fun y => z ((lit 10041 (by decide)).mp y)), if_neg z]
      unfold p41_j56
      by_cases y : T s.1 = 10000
      · rw [if_pos (show nI (T s.1) = 10000 by rw [y]; rfl), if_pos y]
        obtain ⟨g2, e2, K2⟩ := K.rf B w hs (show (1 : Int32) = nI 1 from rfl) (by decide)
        rw [e2, ob]
        exact ⟨g2, rfl, Or.inl ⟨_, rfl, K2⟩⟩
      · rw [if_neg (show ¬ nI (T s.1) = 10000 from fun x => y ((lit 10000 (by decide)).mp x)), if_neg y]
        obtain ⟨g2, e2, K2⟩ := K.rf B w hs (show (0 : Int32) = nI 0 from rfl) (by decide)
        rw [e2, ob]
        exact ⟨g2, rfl, Or.inl ⟨_, rfl, K2⟩⟩
  · have pc := isPl_c hp
    have lt : s.1 < m := lt_m B.2.1 hs (by omega)
    have pl : (if nI (T s.1) < 10000 then p41_j26 F R (nI (10 - d)) g (nI (T s.1)) else if nI (T s.1) < 10010 then p41_j30 F R (nI (10 - d)) g (nI (T s.1)) else if nI (T s.1) < 10021 then p41_j26 F R (nI (10 - d)) g (nI (T s.1)) else p41_j30 F R (nI (10 - d)) g (nI (T s.1))) = p41_j26 F R (nI (10 - d)) g (nI (T s.1)) := by
      by_cases y : T s.1 < 10000
      · rw [if_pos (show nI (T s.1) < 10000 from nI_lt (b := 10000) y (by decide))]
      · rw [if_neg (show ¬ nI (T s.1) < 10000 from nI_nlt (a := T s.1) (b := 10000) (by omega) (by omega)), if_neg (show ¬ nI (T s.1) < 10010 from nI_nlt (a := T s.1) (b := 10010) (by omega) (by omega)), if_pos (show nI (T s.1) < 10021 from nI_lt (b := 10021) (by omega) (by decide))]
    rw [pl, if_pos rfl]
    unfold p41_j26 p41_j31
    rw [if_neg n10]
    unfold p41_j60
    rw [if_neg (show ¬ nI (T s.1) = 10041 from fun y => by have := (lit 10041 (by decide)).mp y; omega)]
    by_cases c80 : s.2.1 = 80
    · obtain ⟨g2, e2, K2⟩ := (j79 1 lt).1 c80
      rw [e2, if_pos c80]
      exact ⟨g2, rfl, Or.inl ⟨_, rfl, K2⟩⟩
    · rw [(j79 1 lt).2 c80, if_neg c80]
      unfold p41_j103
      rw [if_neg n10]
      obtain ⟨g2, e2, K2⟩ := K.cn.at.em (show nI (T s.1) = nI (T s.1) from rfl) (by show s.2.2.length < 400; omega)
      rw [e2, ob]
      exact ⟨g2, rfl, Or.inr ⟨_, rfl, K2⟩⟩
theorem imp_val (B : TB h0 T P m) (w : 160 ≤ h0.1) (hF : 1000 ≤ F) : ∀ (g : Nat), g ≤ 10 → ∀ K, 2 * g + 2 ≤ K → IMP h0 m (fun h => (qr40_41 F K).2 h (nI (10 - g))) (aVl T P (g + 1)) := by
  have hm := B.1
  intro g
  induction g with
  | zero =>
    intro _ K hK g0 s K0 hs hl hc
    obtain ⟨K, rfl⟩ : ∃ K', K = K' + 2 := ⟨K - 2, by omega⟩
    exact vlS (F := F) B w 0 (by decide) (qr40_41 F (K + 1)).1 (fun z => absurd rfl z) (fun e g K => spF hF _ _ K) g0 s K0 hs hl hc
  | succ g ih =>
    intro hg K hK g0 s K0 hs hl hc
    obtain ⟨K, rfl⟩ : ∃ K', K = K' + 2 := ⟨K - 2, by omega⟩
    have i1 := ih (by omega) K (by omega)
    have i2 := imp_sum (F := F) B w (gd_val (P := P) B.2.1 (g + 1)) i1 hF
    exact vlS (F := F) B w (g + 1) hg (qr40_41 F (K + 1)).1 (fun _ => i2) (fun e g K => spF hF _ _ K) g0 s K0 hs hl hc
end CIM
