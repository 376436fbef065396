/-! a law's text: the class reads tests and facts so -/
section CFT
variable {h0 g : HS} {T P : Nat → Nat} {m F : Nat} {s : PST} {e : Nat}
theorem tsF1 (R : HS → Int32 → Option HS) (a0 : Int32) (K2 : HS → Int32 → Option HS) (K : KF h0 g e) (v2 : Int32) : p38_j58 F R a0 K2 g v2 = some g := by
  have j69 : p38_j69 F R a0 K2 g v2 = some g := by unfold p38_j69; rw [K.ac, ob, if_pos rfl]
  unfold p38_j58
  by_cases z : 0 < v2
  · rw [if_pos z, K.em, ob]; exact j69
  · rw [if_neg z]; exact j69
theorem tsF0 {R : HS → Int32 → Option HS} {a0 : Int32} {K2 : HS → Int32 → Option HS} {n : Nat} {v2 x : Int32} (K : KF h0 g e) : p38_L23 F R a0 K2 (n + 1) g v2 x = p38_j58 F R a0 K2 g v2 := by
  rw [p38_L23]
  by_cases z : x < 400
  · rw [if_pos z, K.ac, ob, if_pos rfl]
  · rw [if_neg z]
theorem tsT (B : TB h0 T P m) (w : 160 ≤ h0.1) {A : PST → PRS} (hG : GDA T m true A) {R : HS → Int32 → Option HS} {a0 : Int32} (hV : IMP h0 m (fun g => R g a0) A) (K2 : HS → Int32 → Option HS) (v2 : Int32) : ∀ (n f : Nat) (g : HS) (s : PST) (v4 : Nat), m - s.1 < n → m - s.1 + 1 < f → v4 ≤ s.1 → KC h0 g s → s.1 ≤ m → s.2.2.length ≤ s.1 → s.2.1 ≤ 80 → ∃ g', p38_L23 F R a0 K2 f g v2 (nI v4) = p38_j58 F R a0 K2 g' v2 ∧ ((∃ e, aIn T A 10029 n s = Sum.inl e ∧ KF h0 g' e) ∨ ∃ r, aIn T A 10029 n s = Sum.inr r ∧ KC h0 g' r ∧ r.1 ≤ m ∧ r.2.2.length ≤ r.1 ∧ r.2.1 ≤ 80 ∧ s.1 ≤ r.1 ∧ r.2.2.length + s.1 ≤ s.2.2.length + r.1) := by
  have hm := B.1
  intro n
  induction n with
  | zero => intro f g s v4 z; omega
  | succ n ih =>
    intro f g s v4 hn hf hv K hs hl hc
    obtain ⟨f, rfl⟩ : ∃ f', f = f' + 1 := ⟨f - 1, by omega⟩
    rw [aIn]
    by_cases zt : T s.1 = 10029
    · have lt : s.1 < m := lt_m B.2.1 hs (by rw [zt]; decide)
      rw [if_pos zt, p38_L23, if_pos (show nI v4 < 400 from nI_lt (b := 400) (by omega) (by decide)), K.ac B w hs (show (10029 : Int32) = nI 10029 from rfl) (by decide), if_pos zt, ob, if_neg n10]
      obtain ⟨g2, e2, c⟩ := hV _ _ K.at (show s.1 + 1 ≤ m from lt) (Nat.le_succ_of_le hl) hc
      have e2 : R (hsI g 61 2 (hI g 61 2 + 1)) a0 = some g2 := e2
      rcases c with ⟨e, ea, Kf⟩ | ⟨r, ea, Kr⟩
      · obtain ⟨f, rfl⟩ : ∃ f', f = f' + 1 := ⟨f - 1, by omega⟩
        rw [e2, ob, Kf.em, ob, tsF0 Kf, ea]
        exact ⟨g2, rfl, Or.inl ⟨e, rfl, Kf⟩⟩
      · obtain ⟨l1, D, d1, d2, d3, d4, -⟩ := hG _ _ (show s.1 + 1 ≤ m from lt) ea
        have l1 : s.1 + 1 < r.1 := l1
        have d2 : r.2.2.length + (s.1 + 1) ≤ s.2.2.length + r.1 := d2
        obtain ⟨g3, e3, K3⟩ := Kr.em (show (10029 : Int32) = nI 10029 from rfl) (by omega)
        have le3 : (r.2.2 ++ [10029]).length = r.2.2.length + 1 := by rw [List.length_append]; rfl
        obtain ⟨g', x1, x2⟩ := ih f g3 _ (v4 + 1) (by show m - r.1 < n; omega) (by show m - r.1 + 1 < f; omega) (by show v4 + 1 ≤ r.1; omega) K3 d1 (by show (r.2.2 ++ [10029]).length ≤ r.1; rw [le3]; omega) (d4 hc)
        rw [e2, ob, e3, ob, nI_1, ea, pbd_r]
        refine ⟨g', x1, x2.imp id (fun ⟨r2, y1, y2, y3, y4, y5, y6, y7⟩ => ⟨r2, y1, y2, y3, y4, y5, ?_, ?_⟩)⟩
        · have y6 : r.1 ≤ r2.1 := y6; omega
        · have y7 : r2.2.2.length + r.1 ≤ (r.2.2 ++ [10029]).length + r2.1 := y7
          rw [le3] at y7
          omega
    · rw [if_neg zt]
      refine ⟨g, ?_, Or.inr ⟨s, rfl, K, hs, hl, hc, Nat.le_refl _, Nat.le_refl _⟩⟩
      rw [p38_L23]
      by_cases zv : nI v4 < 400
      · rw [if_pos zv, K.ac B w hs (show (10029 : Int32) = nI 10029 from rfl) (by decide), if_neg zt, ob, if_pos rfl]
      · rw [if_neg zv]
theorem tsL (B : TB h0 T P m) (w : 160 ≤ h0.1) {A : PST → PRS} (hG : GDA T m true A) {R : HS → Int32 → Option HS} {a0 : Int32} (hV : IMP h0 m (fun g => R g a0) A) (hF : 1000 ≤ F) : ∀ (n f : Nat) (J : List Nat) (g : HS) (s : PST) (v2 : Nat), m - s.1 < n → m - s.1 + 1 < f → 2 * v2 ≤ s.1 → ((J = [] ∧ v2 = 0) ∨ (J = [10028] ∧ 0 < v2)) → KC h0 g s → s.1 ≤ m → s.2.2.length + J.length ≤ s.1 → s.2.1 ≤ 80 → ∃ g', p38_L2 F R a0 f g (nI v2) = some g' ∧ ((∃ e, aOu T A 10029 isOR n J s = Sum.inl e ∧ KF h0 g' e) ∨ ∃ r, aOu T A 10029 isOR n J s = Sum.inr r ∧ KC h0 g' r) := by
  have hm := B.1
  intro n
  induction n with
  | zero => intro f J g s v2 z; omega
  | succ n ih =>
    intro f J g s v2 hn hf hv hJ K hs hl hc
    obtain ⟨f, rfl⟩ : ∃ f', f = f' + 2 := ⟨f - 2, by omega⟩
    obtain ⟨F', hF'⟩ : ∃ F', F = F' + 1 := ⟨F - 1, by omega⟩
    rw [p38_L2, if_pos (show nI v2 < 400 from nI_lt (b := 400) (by omega) (by decide)), K.2.2.1, if_pos rfl, aOu]
    obtain ⟨g2, e2, c⟩ := hV _ _ K hs (by omega) hc
    have e2 : R g a0 = some g2 := e2
    rw [e2, ob]
    rcases c with ⟨e, ea, Kf⟩ | ⟨r, ea, Kr⟩
    · rw [show p38_L23 F R a0 (p38_L2 F R a0 (f + 1)) F g2 (nI v2) 0 = p38_L23 F R a0 (p38_L2 F R a0 (f + 1)) (F' + 1) g2 (nI v2) 0 by rw [← hF'], tsF0 Kf, tsF1 R a0 _ Kf, ea]
      exact ⟨g2, rfl, Or.inl ⟨e, rfl, Kf⟩⟩
    · obtain ⟨l1, D, d1, d2, d3, d4, -⟩ := hG _ _ hs ea
      obtain ⟨g3, e3, c3⟩ := tsT (F := F) B w hG hV (p38_L2 F R a0 (f + 1)) (nI v2) 401 F g2 r 0 (by omega) (by omega) (Nat.zero_le _) Kr d1 (by omega) (d4 hc)
      rw [show p38_L23 F R a0 (p38_L2 F R a0 (f + 1)) F g2 (nI v2) 0 = _ from e3, ea, pbd_r]
      rcases c3 with ⟨e, ei, Kf⟩ | ⟨q, ei, Kq, q1, q2, q3, q4, q5⟩
      · rw [tsF1 R a0 _ Kf, ei]
        exact ⟨g3, rfl, Or.inl ⟨e, rfl, Kf⟩⟩
      · rw [ei, pbd_r]
        have j69 : ∀ (g4 : HS) (J4 : List Nat), J4.length ≤ 1 → KC h0 g4 (q.1, q.2.1, q.2.2 ++ J4) → q.2.2.length + J4.length ≤ q.1 → ∃ g', p38_j69 F R a0 (p38_L2 F R a0 (f + 1)) g4 (nI v2) = some g' ∧ ((∃ e, (if isOR (T q.1) then aOu T A 10029 isOR n [T q.1] (q.1 + 1, q.2.1, q.2.2 ++ J4) else Sum.inr (q.1, q.2.1, q.2.2 ++ J4)) = Sum.inl e ∧ KF h0 g' e) ∨ ∃ r, (if isOR (T q.1) then aOu T A 10029 isOR n [T q.1] (q.1 + 1, q.2.1, q.2.2 ++ J4) else Sum.inr (q.1, q.2.1, q.2.2 ++ J4)) = Sum.inr r ∧ KC h0 g' r) := by
          intro g4 J4 hJ4 K4 hl4
          unfold p38_j69
          rw [K4.ac B w q1 (show (10028 : Int32) = nI 10028 from rfl) (by decide)]
          by_cases hp : T q.1 = 10028
          · have lq : q.1 < m := lt_m B.2.1 q1 (by rw [hp]; decide)
            have hp2 : isOR (T q.1) = true := decide_eq_true hp
            rw [if_pos hp, ob, if_neg n10, if_pos hp2, nI_1]
            exact ih (f + 1) [T q.1] _ _ (v2 + 1) (by show m - (q.1 + 1) < n; omega) (by show m - (q.1 + 1) + 1 < f + 1; omega) (by show 2 * (v2 + 1) ≤ q.1 + 1; omega) (Or.inr ⟨by rw [hp], Nat.succ_pos _⟩) K4.at lq (by show (q.2.2 ++ J4).length + 1 ≤ q.1 + 1; rw [List.length_append]; omega) q3
          · have hp2 : isOR (T q.1) = false := decide_eq_false hp
            rw [if_neg hp, ob, if_pos rfl, hp2, if_neg (by decide)]
            exact ⟨g4, rfl, Or.inr ⟨_, rfl, K4⟩⟩
        unfold p38_j58
        rcases hJ with ⟨rfl, rfl⟩ | ⟨rfl, hv2⟩
        · rw [if_neg (show ¬ (0 : Int32) < nI 0 by decide)]
          exact j69 g3 [] (Nat.zero_le _) (by rw [List.append_nil]; exact Kq) q2
        · have hl : s.2.2.length + 1 ≤ s.1 := hl
          obtain ⟨g4, e4, K4⟩ := Kq.em (show (10028 : Int32) = nI 10028 from rfl) (by omega)
          rw [if_pos (show (0 : Int32) < nI v2 from nI_lt (a := 0) hv2 (by omega)), e4, ob]
          exact j69 g4 [10028] (Nat.le_refl _) K4 (by show q.2.2.length + 1 ≤ q.1; omega)
theorem imp_test (B : TB h0 T P m) (w : 160 ≤ h0.1) {A : PST → PRS} (hG : GDA T m true A) {R : HS → Int32 → Option HS} {a0 : Int32} (hV : IMP h0 m (fun g => R g a0) A) (hF : 1000 ≤ F) : IMP h0 m (fun g => p38 F R g a0) (aOu T A 10029 isOR 401 []) := by
  have hm := B.1
  intro g s K hs hl hc
  exact tsL (F := F) B w hG hV hF 401 F [] g s 0 (by omega) (by omega) (Nat.zero_le _) (Or.inl ⟨rfl, rfl⟩) K hs hl hc
theorem imp_t40 (B : TB h0 T P m) (w : 160 ≤ h0.1) (hF : 1000 ≤ F) (d : Nat) (hd : d ≤ 10) : IMP h0 m (fun g => t40 F g (nI (10 - d))) (aSu T P (d + 1)) := imp_sum (F := F) B w (gd_val (P := P) B.2.1 (d + 1)) (imp_val (F := F) B w hF d hd 29 (by omega)) hF
theorem t40F (hF : 1000 ≤ F) (a0 : Int32) (K : KF h0 g e) : t40 F g a0 = some g := spF hF _ a0 K
theorem ftS (B : TB h0 T P m) (w : 160 ≤ h0.1) (hF : 1000 ≤ F) (d : Nat) (hd : d ≤ 10) (R38 R39 : HS → Int32 → Option HS) (h38 : ¬ d = 0 → IMP h0 m (fun g => R38 g (nI (10 - (d - 1)))) (aOu T (aFt T P d) 10029 isOR 401 [])) (h39 : ¬ d = 0 → IMP h0 m (fun g => R39 g (nI (10 - (d - 1)))) (aFt T P d)) : IMP h0 m (fun g => p39 F R38 R39 g (nI (10 - d))) (aFt T P (d + 1)) := by
  have hm := B.1
  intro g s K hs hl hc
  have lit : ∀ c, c < 20000 → (nI (T s.1) = nI c ↔ T s.1 = c) := fun c hc => nI_eq (by have := (B.2.2 s.1 hs).2.1; omega) (by omega)
  have ed : ¬ d = 0 → nI (10 - d) + 1 = nI (10 - (d - 1)) := fun z => by rw [nI_1]; congr 1; omega
  show ∃ g', p39 F R38 R39 g (nI (10 - d)) = some g' ∧ _
  unfold p39
  rw [K.tk B w hs, ob, aFt]
  by_cases z1 : T s.1 = 10030
  · have lt : s.1 < m := lt_m B.2.1 hs (by rw [z1]; decide)
    rw [if_pos (show nI (T s.1) = 10030 by rw [z1]; rfl), if_pos z1]
    unfold p39_j19
    by_cases d0 : d = 0
    · rw [if_neg (show ¬ nI (10 - d) < 10 by rw [d0]; decide), if_pos d0]
      obtain ⟨g2, e2, K2⟩ := K.rf B w hs (show (2 : Int32) = nI 2 from rfl) (by decide)
      rw [e2, ob]
      exact ⟨g2, rfl, Or.inl ⟨_, rfl, K2⟩⟩
    · rw [if_pos (show nI (10 - d) < 10 from nI_lt (b := 10) (by omega) (by decide)), if_neg d0]
      unfold p39_j33
      rw [K.ac B w hs (show (10030 : Int32) = nI 10030 from rfl) (by decide), if_pos z1, ob, if_neg n10]
      obtain ⟨g2, e2, c⟩ := h39 d0 _ _ K.at (show s.1 + 1 ≤ m from lt) (Nat.le_succ_of_le hl) hc
      have e2 : R39 (hsI g 61 2 (hI g 61 2 + 1)) (nI (10 - (d - 1))) = some g2 := e2
      rw [ed d0, e2, ob]
      rcases c with ⟨e, ea, Kf⟩ | ⟨r, ea, Kr⟩
      · rw [Kf.em, ob, ea]
        exact ⟨g2, rfl, Or.inl ⟨e, rfl, Kf⟩⟩
      · obtain ⟨l1, D, d1, d2, -⟩ := gd_fact (P := P) B.2.1 d _ _ (show s.1 + 1 ≤ m from lt) ea
        have d2 : r.2.2.length + (s.1 + 1) ≤ s.2.2.length + r.1 := d2
        obtain ⟨g3, e3, K3⟩ := Kr.em (show (10030 : Int32) = nI 10030 from rfl) (by omega)
        rw [e3, ob, ea]
        exact ⟨g3, rfl, Or.inr ⟨_, rfl, K3⟩⟩
  · rw [if_neg (show ¬ nI (T s.1) = 10030 from fun y => z1 ((lit 10030 (by decide)).mp y)), if_neg z1]
    by_cases z2 : T s.1 = 10043
    · have lt : s.1 < m := lt_m B.2.1 hs (by rw [z2]; decide)
      rw [if_pos (show nI (T s.1) = 10043 by rw [z2]; rfl), if_pos z2]
      unfold p39_j19
      by_cases d0 : d = 0
      · rw [if_neg (show ¬ nI (10 - d) < 10 by rw [d0]; decide), if_pos d0]
        obtain ⟨g2, e2, K2⟩ := K.rf B w hs (show (2 : Int32) = nI 2 from rfl) (by decide)
        rw [e2, ob]
        exact ⟨g2, rfl, Or.inl ⟨_, rfl, K2⟩⟩
      · rw [if_pos (show nI (10 - d) < 10 from nI_lt (b := 10) (by omega) (by decide)), if_neg d0]
        unfold p39_j33
        rw [K.ac B w hs (show (10030 : Int32) = nI 10030 from rfl) (by decide), if_neg z1, ob, if_pos rfl, K.ac B w hs (show (10043 : Int32) = nI 10043 from rfl) (by decide), if_pos z2, ob, if_neg n10]
        obtain ⟨g2, e2, c⟩ := h38 d0 _ _ K.at (show s.1 + 1 ≤ m from lt) (Nat.le_succ_of_le hl) hc
        have e2 : R38 (hsI g 61 2 (hI g 61 2 + 1)) (nI (10 - (d - 1))) = some g2 := e2
        rw [ed d0, e2, ob]
        rcases c with ⟨e, ea, Kf⟩ | ⟨r, ea, Kr⟩
        · rw [Kf.ac, ob, if_pos rfl, Kf.rf, ob, ea]
          exact ⟨g2, rfl, Or.inl ⟨e, rfl, Kf⟩⟩
        · obtain ⟨⟨-, D, d1, -⟩, -, -⟩ := gd_test B.2.1 (gd_fact (P := P) B.2.1 d) _ _ (show s.1 + 1 ≤ m from lt) ea
          rw [Kr.ac B w d1 (show (10044 : Int32) = nI 10044 from rfl) (by decide), ea, pbd_r]
          by_cases y : T r.1 = 10044
          · rw [if_pos y, ob, if_neg n10, if_pos y]
            exact ⟨_, rfl, Or.inr ⟨_, rfl, Kr.at⟩⟩
          · rw [if_neg y, ob, if_pos rfl, if_neg y]
            obtain ⟨g3, e3, K3⟩ := Kr.rf B w d1 (show (0 : Int32) = nI 0 from rfl) (by decide)
            rw [e3, ob]
            exact ⟨g3, rfl, Or.inl ⟨_, rfl, K3⟩⟩
    · rw [if_neg (show ¬ nI (T s.1) = 10043 from fun y => z2 ((lit 10043 (by decide)).mp y)), if_neg z2]
      unfold p39_j33
      rw [K.ac B w hs (show (10030 : Int32) = nI 10030 from rfl) (by decide), if_neg z1, ob, if_pos rfl, K.ac B w hs (show (10043 : Int32) = nI 10043 from rfl) (by decide), if_neg z2, ob, if_pos rfl]
      have iS := imp_t40 (F := F) (P := P) B w hF d hd
      obtain ⟨g2, e2, c⟩ := iS _ _ K hs hl hc
      have e2 : t40 F g (nI (10 - d)) = some g2 := e2
      rw [e2, ob]
      rcases c with ⟨e, ea, Kf⟩ | ⟨r, ea, Kr⟩
      · obtain ⟨t, et, ct⟩ := Kf.tk
        rw [et, ob, ea]
        unfold p39_j119
        by_cases y1 : t < 10048
        · rw [if_pos y1, Kf.rf, ob]
          exact ⟨g2, rfl, Or.inl ⟨e, rfl, Kf⟩⟩
        · rw [if_neg y1]
          by_cases y2 : 10052 < t
          · rw [if_pos y2, Kf.rf, ob]
            exact ⟨g2, rfl, Or.inl ⟨e, rfl, Kf⟩⟩
          · rw [if_neg y2]
            have Kc := Kf.cn (hI g2 61 4 + 1)
            rcases ct with y | ⟨a, ha, ea2⟩
            · rw [y] at y1; exact absurd (show (10002 : Int32) < 10048 by decide) y1
            · have Ka := Kc.at (a := a) ha (by rw [hsI_k (by decide)]; exact ea2)
              have j149 : p39_j149 F R38 R39 (nI (10 - d)) (hsI g2 61 4 (hI g2 61 4 + 1)) t = some (hsI (hsI g2 61 4 (hI g2 61 4 + 1)) 61 2 (hI (hsI g2 61 4 (hI g2 61 4 + 1)) 61 2 + 1)) := by
                unfold p39_j149
                rw [t40F hF _ Ka, ob, Ka.em, ob]
              rw [Kc.rf, ob, j149, ite_self]
              exact ⟨_, rfl, Or.inl ⟨e, rfl, Ka⟩⟩
      · obtain ⟨⟨l1, D, d1, d2, d3, d4, -⟩, -, -⟩ := gd_sum B.2.1 (gd_val (P := P) B.2.1 (d + 1)) _ _ hs ea
        have d4 := d4 hc
        rw [Kr.tk B w d1, ob, ea, pbd_r]
        have tr := (B.2.2 r.1 d1).2.1
        cases hg : isSg (T r.1)
        · rw [if_neg (show ¬ false = true by decide)]
          unfold p39_j119
          obtain ⟨g3, e3, K3⟩ := Kr.rf B w d1 (show (0 : Int32) = nI 0 from rfl) (by decide)
          have : (if nI (T r.1) < 10048 then (Option.bind (p32 g2 0) fun r34 => some r34) else if 10052 < nI (T r.1) then (Option.bind (p32 g2 0) fun r34 => some r34) else if 80 < hI (hsI g2 61 4 (hI g2 61 4 + 1)) 61 4 then (Option.bind (p32 (hsI g2 61 4 (hI g2 61 4 + 1)) 3) fun r21 => p39_j149 F R38 R39 (nI (10 - d)) r21 (nI (T r.1))) else p39_j149 F R38 R39 (nI (10 - d)) (hsI g2 61 4 (hI g2 61 4 + 1)) (nI (T r.1))) = some g3 := by
            by_cases y : T r.1 < 10048
            · rw [if_pos (show nI (T r.1) < 10048 from nI_lt (b := 10048) y (by decide)), e3, ob]
            · rw [if_neg (show ¬ nI (T r.1) < 10048 from nI_nlt (a := T r.1) (b := 10048) (by omega) (by omega))]
              by_cases y2 : 10052 < T r.1
              · rw [if_pos (show (10052 : Int32) < nI (T r.1) from nI_lt (a := 10052) y2 (by omega)), e3, ob]
              · exfalso
                unfold isSg at hg
                rw [decide_eq_true (show 10048 ≤ T r.1 by omega), decide_eq_true (show T r.1 ≤ 10052 by omega)] at hg
                cases hg
          rw [this]
          exact ⟨g3, rfl, Or.inl ⟨_, rfl, K3⟩⟩
        · obtain ⟨s1, s2⟩ := isSg_c hg
          have lr : r.1 < m := lt_m B.2.1 d1 (by omega)
          have Kc := Kr.cn
          have ec : hI (hsI g2 61 4 (hI g2 61 4 + 1)) 61 4 = nI (r.2.1 + 1) := Kc.2.2.2.1
          rw [if_pos rfl, if_neg (show ¬ nI (T r.1) < 10048 from nI_nlt (a := T r.1) (b := 10048) s1 (by omega)), if_neg (show ¬ (10052 : Int32) < nI (T r.1) from nI_nlt (a := 10052) s2 (by decide)), ec]
          by_cases c80 : r.2.1 = 80
          · obtain ⟨g3, e3, K3⟩ := Kc.rf B w d1 (show (3 : Int32) = nI 3 from rfl) (by decide)
            have e3' := Kc.rf2 e3
            have Ka := K3.at (a := r.1) (by omega) e3'
            rw [if_pos (show (80 : Int32) < nI (r.2.1 + 1) from nI_lt (a := 80) (by omega) (by omega)), e3, ob, if_pos c80]
            unfold p39_j149
            rw [t40F hF _ Ka, ob, Ka.em, ob]
            exact ⟨_, rfl, Or.inl ⟨_, rfl, Ka⟩⟩
          · rw [if_neg (show ¬ (80 : Int32) < nI (r.2.1 + 1) from nI_nlt (a := 80) (by omega) (by decide)), if_neg c80]
            unfold p39_j149
            obtain ⟨g3, e3, c3⟩ := iS _ _ Kc.at (show r.1 + 1 ≤ m from lr) (by show r.2.2.length ≤ r.1 + 1; omega) (by show r.2.1 + 1 ≤ 80; omega)
            have e3 : t40 F (hsI (hsI g2 61 4 (hI g2 61 4 + 1)) 61 2 (hI (hsI g2 61 4 (hI g2 61 4 + 1)) 61 2 + 1)) (nI (10 - d)) = some g3 := e3
            rw [e3, ob]
            rcases c3 with ⟨e, ea3, Kf⟩ | ⟨q, ea3, Kq⟩
            · rw [Kf.em, ob, ea3]
              exact ⟨g3, rfl, Or.inl ⟨e, rfl, Kf⟩⟩
            · obtain ⟨⟨l1, D, f1, f2, -⟩, -, -⟩ := gd_sum B.2.1 (gd_val (P := P) B.2.1 (d + 1)) _ _ (show r.1 + 1 ≤ m from lr) ea3
              have f2 : q.2.2.length + (r.1 + 1) ≤ r.2.2.length + q.1 := f2
              obtain ⟨g4, e4, K4⟩ := Kq.em (show nI (T r.1) = nI (T r.1) from rfl) (by omega)
              rw [e4, ob, ea3]
              exact ⟨g4, rfl, Or.inr ⟨_, rfl, K4⟩⟩
theorem imp_fact (B : TB h0 T P m) (w : 160 ≤ h0.1) (hF : 1000 ≤ F) : ∀ (g : Nat), g ≤ 10 → ∀ K, 2 * g + 2 ≤ K → IMP h0 m (fun h => (qr38_39 F K).2 h (nI (10 - g))) (aFt T P (g + 1)) := by
  intro g
  induction g with
  | zero =>
    intro _ K hK
    obtain ⟨K, rfl⟩ : ∃ K', K = K' + 1 := ⟨K - 1, by omega⟩
    exact ftS (F := F) B w hF 0 (by decide) (qr38_39 F K).1 (qr38_39 F K).2 (fun z => absurd rfl z) (fun z => absurd rfl z)
  | succ g ih =>
    intro hg K hK
    obtain ⟨K, rfl⟩ : ∃ K', K = K' + 2 := ⟨K - 2, by omega⟩
    have i1 := ih (by omega) K (by omega)
    have i2 := imp_test (F := F) B w (gd_fact (P := P) B.2.1 (g + 1)) i1 hF
    have i3 := ih (by omega) (K + 1) (by omega)
    exact ftS (F := F) B w hF (g + 1) hg (qr38_39 F (K + 1)).1 (qr38_39 F (K + 1)).2 (fun _ => i2) (fun _ => i3)
theorem imp_t38 (B : TB h0 T P m) (w : 160 ≤ h0.1) (hF : 1000 ≤ F) : IMP h0 m (fun g => t38 F g 0) (aTe T P 11) := imp_test (F := F) B w (gd_fact (P := P) B.2.1 11) (imp_fact (F := F) B w hF 10 (by decide) 29 (by decide)) hF
end CFT
