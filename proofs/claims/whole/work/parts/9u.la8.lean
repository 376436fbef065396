/-! lay: both sides -/
theorem lphi_cg {h g : HS} (e : ∀ a b c, jn g a b c = jn h a b c) (m : Nat → Nat) (w n : Nat) : lphi g m w n = lphi h m w n := by
  funext q
  unfold lphi fitC
  simp only [e]
theorem jn_fr {h g : HS} {W : List Nat} {K : List (Nat × Nat)} {D : Nat → Prop} (w : 160 ≤ h.1) (f : FR W K D h g) (ok : frO [89, 90] W K) : ∀ a b c, jn g a b c = jn h a b c := fun a b c => by unfold jn; rw [f.fA w 89 (ok 89 (by decide)), f.fA w 90 (ok 90 (by decide))]
theorem blk_1 {φ : List Nat → Nat} : ∀ (r : Nat) (p : List Nat) (σ : LYS) (U : List Nat), U.length = r → 1 ≤ (blk φ r p σ U).1 := by
  intro r
  induction r with
  | zero =>
    intro p σ U _
    show 1 ≤ (lst φ σ p).1
    unfold lst
    by_cases z : σ.1 ≤ φ p + 1
    · rw [if_pos z]; exact Nat.le_add_left _ _
    · rw [if_neg z]; omega
  | succ r ih =>
    intro p σ U hU
    have k : ∀ (l : List Nat) (τ : LYS), 1 ≤ τ.1 → (∀ y, y ∈ l → y ∈ U) → 1 ≤ (l.foldl (fun σ x => blk φ r (p ++ [x]) σ (U.erase x)) τ).1 := by
      intro l
      induction l with
      | nil => intro τ t _; exact t
      | cons y l ihl => intro τ _ hm; exact ihl _ (ih _ _ _ (le_e (hm y (List.mem_cons_self ..)) hU)) (fun z mz => hm z (List.mem_cons_of_mem _ mz))
    match U, hU, k with
    | x :: T, hU, k => exact k T _ (ih _ _ _ (le_e (List.mem_cons_self ..) hU)) (fun z mz => List.mem_cons_of_mem _ mz)
def LPP (R : List Nat) (σ : LYS) : Prop := (0 < σ.2.1 → σ.2.2.1.Perm R) ∧ (1 < σ.2.1 → σ.2.2.2.Perm R)
theorem blk_P {φ : List Nat → Nat} {R : List Nat} : ∀ (r : Nat) (p : List Nat) (σ : LYS) (U : List Nat), U.length = r → (p ++ U).Perm R → LPP R σ → LPP R (blk φ r p σ U) := by
  intro r
  induction r with
  | zero =>
    intro p σ U hU hp H
    have e : U = [] := List.length_eq_zero_iff.mp hU
    subst e
    rw [List.append_nil] at hp
    show LPP R (lst φ σ p)
    unfold lst
    by_cases z : σ.1 ≤ φ p + 1
    · rw [if_pos z]
      have := lsw_le (σ := σ) (c := φ p)
      refine ⟨fun _ => ?_, fun y => ?_⟩
      · show (if lsw σ (φ p) = 0 then p else σ.2.2.1).Perm R
        by_cases x : lsw σ (φ p) = 0
        · rw [if_pos x]; exact hp
        · rw [if_neg x]; exact H.1 (by omega)
      · have y : 1 < lsw σ (φ p) + 1 := y
        show (if lsw σ (φ p) = 1 then p else σ.2.2.2).Perm R
        by_cases x : lsw σ (φ p) = 1
        · rw [if_pos x]; exact hp
        · rw [if_neg x]; exact H.2 (by omega)
    · rw [if_neg z]; exact H
  | succ r ih =>
    intro p σ U hU hp H
    have k : ∀ (l : List Nat) (τ : LYS), LPP R τ → (∀ y, y ∈ l → y ∈ U) → LPP R (l.foldl (fun σ x => blk φ r (p ++ [x]) σ (U.erase x)) τ) := by
      intro l
      induction l with
      | nil => intro τ t _; exact t
      | cons y l ihl =>
        intro τ t hm
        have m := hm y (List.mem_cons_self ..)
        exact ihl _ (ih _ _ _ (le_e m hU) (by rw [la_ap]; exact ((List.perm_append_left_iff p).mpr (List.perm_cons_erase m).symm).trans hp) t) (fun z mz => hm z (List.mem_cons_of_mem _ mz))
    exact k U σ H (fun _ m => m)
theorem fct_8 : ∀ n, n ≤ 8 → fct n ≤ 40320 := by decide
def layW : List Nat := [40, 41, 42, 43, 44, 45, 46, 47, 92, 93, 94]
def layK : List (Nat × Nat) := [(39, 1), (39, 2), (39, 3), (39, 4), (86, 12), (86, 13)]
/-- the rows of a laying hold scraps, both ways the same ones -/
def LTr (h : HS) (n W N : Nat) : Prop := (0 < W → ∀ i, i < n → ∃ x, x < N ∧ hI h 46 i = nI x) ∧ (1 < W → (∀ i, i < n → ∃ j, j < n ∧ hI h 47 i = hI h 46 j) ∧ ∀ j, j < n → ∃ i, i < n ∧ hI h 46 j = hI h 47 i)
theorem hopS {n w F : Nat} {g : HS} {hp : Nat → Nat} {a0 a1 a2 : Int32} (hn : n ≤ 8) (e1 : hI g 39 1 = nI n) (e43 : ∀ k, k < n → hI g 43 k = nI (hp k)) : ∀ (f i : Nat), i ≤ n → n - i < f → p44_L59 F a0 a1 a2 f g (nI (sumN hp i)) (nI i) = Option.bind (t48 F (hsI (hsI g 39 3 (-1)) 39 4 0) 0 0 0 (nI (sumN hp n))) fun r => some (hI r 39 3, r) := by
  intro f
  induction f with
  | zero => intro i _ z; omega
  | succ f ih =>
    intro i hi hf
    rw [p44_L59, e1]
    by_cases z : i < n
    · have := ih (i + 1) (by omega) (by omega)
      rw [sumN] at this
      rw [if_pos (nI_lt z (by omega)), if_neg (nI_in (by omega) (by decide)), nI_clamp (by omega), e43 i z, nI_add, nI_1]
      exact this
    · have : i = n := by omega
      subst this
      rw [if_neg Int32.lt_irrefl]
section LA8
variable {s : SS} {h : HS}
theorem w_lay (E : EV s h) (S : SCc s h) (A : FAc h) {F : Nat} (hF : 50000 ≤ F) (a b c : Int32) : ∃ v h1 h2, p119 F h a b c = some (v, h1) ∧ p201 F h1 a b c = some (v, h2) ∧ (FR [92] [] nD h h2 ∨ (FR layW layK nD h h2 ∧ ∃ n W, n ≤ 8 ∧ W < 1000000 ∧ hI h2 39 1 = nI n ∧ hI h2 86 12 = nI n ∧ hI h2 39 4 = nI W ∧ hI h2 86 13 = nI W ∧ (0 < W → ∀ i, i < n → hI h2 46 i = hI h2 93 i) ∧ (1 < W → ∀ i, i < n → hI h2 47 i = hI h2 94 i) ∧ LTr h2 n W (s 0 2))) := by
  have b1 := E.cn.b1
  have b2 := E.cn.b2
  have w0 := E.w.1
  unfold p119 p44 p201
  rcases ixc a (s 0 1) (by omega) with ⟨h1, h2, -⟩ | ⟨q, hq, rfl, h1, h2⟩
  · refine ⟨-1, h, h, ?_, ?_, Or.inl (FR.rf nD160)⟩
    · unfold p86
      rw [E.cn.c1, h1, ob, if_pos (Or.inl rfl), ob, if_pos rfl]
      rfl
    · rw [E.cn.m1, h2, ob, if_pos rfl]
  · have g86 : p86 h (nI q) = some 1 := by unfold p86; rw [E.cn.c1, h1]; rfl
    rcases shp b c with ⟨k1, k2⟩ | ⟨k1, k2, w, v, w1, w2, v1, v2, hn, rfl, rfl⟩
    · refine ⟨-1, h, h, ?_, ?_, Or.inl (FR.rf nD160)⟩
      · rw [g86, ob, if_neg n10, k1, ob, if_pos rfl]; rfl
      · rw [E.cn.m1, h2, ob, if_neg n10, k2, ob, if_pos rfl]
    · have hcl := cnt_le (lsP h (nI q)) (s 0 2)
      have e45 : p45 F h (nI q) = some (nI (cnt (lsP h (nI q)) (s 0 2))) := c_cntL E S (nI q) F 0 (by omega) (by omega)
      rw [g86, ob, if_neg n10, k1, ob, if_neg n10, e45, ob, nI_mul]
      by_cases en : nI (cnt (lsP h (nI q)) (s 0 2)) = nI (w * v)
      · have en' : cnt (lsP h (nI q)) (s 0 2) = w * v := (nI_eq (by omega) (by omega)).mp en
        rw [if_pos en]
        generalize hm : mth (lsP h (nI q)) (s 0 2) = m
        generalize hnn : w * v = n at *
        have hn0 : 0 < n := by rw [← hnn]; exact Nat.mul_pos w1 v1
        have ml : ∀ k, k < n → m k < s 0 2 := fun k hk => by rw [← hm]; exact (mth_s (by omega)).1
        have mo : ∀ a b, a < b → b < n → m a < m b := fun a b ab bn => by rw [← hm]; exact mth_mo a b ab (by omega)
        -- gathered
        have fa : FR [] [(39, 1), (39, 2)] nD h (hsI (hsI h 39 1 (nI n)) 39 2 (nI w)) := ((FR.rf nD160).sI (Or.inr (Or.inr (Or.inl (by decide))))).sI (Or.inr (Or.inr (Or.inl (by decide))))
        have Ea : EV s (hsI (hsI h 39 1 (nI n)) 39 2 (nI w)) := E.fr fa (by decide) evD_n
        have Sa := S.fr w0 fa (by decide) (by decide)
        have ea : lsP (hsI (hsI h 39 1 (nI n)) 39 2 (nI w)) (nI q) = lsP h (nI q) := by
          unfold lsP
          rw [fa.fA w0 88 (by decide), fa.fA w0 91 (by decide)]
        obtain ⟨g1, f1, r1, e1⟩ := c_gat (F := F) Ea Sa (nI q) hn (by rw [ea]; exact en'.symm) (by rw [hsI_k (by decide)]; exact hsI_s _ _ _ _) F 0 _ (by omega) (by omega) (FR.rf nD160) (fun k z => by omega)
        rw [ea] at r1
        have wa := Ea.w.1
        have E1 : EV s g1 := Ea.fr f1 (by decide) evD_n
        have S1 := Sa.fr wa f1 (by decide) (by decide)
        have L1 : LB g1 m n w := ⟨by rw [f1.fI wa 39 1 (by decide), hsI_k (by decide)]; exact hsI_s _ _ _ _, by rw [f1.fI wa 39 2 (by decide)]; exact hsI_s _ _ _ _, fun k hk => by rw [← hm]; exact gthd_r r1 en'.symm hn k hk⟩
        have e46 : p46 F (hsI (hsI h 39 1 (nI n)) 39 2 (nI w)) (nI q) = some g1 := e1
        rw [e46, ob]
        -- measured
        obtain ⟨g2, e2, f2, M2⟩ := c_meas (F := F) E1 S1 w1 w2 hn ml L1 (by omega)
        have w1h := E1.w.1
        have E2 : EV s g2 := E1.fr f2 (by decide) evD_n
        rw [e2, ob]
        have hs := hopS (F := F) (w := w) (a0 := nI q) (a1 := nI w) (a2 := nI v) hn M2.1.1 M2.2.2.1 F 0 (by omega) (by omega)
        rw [show p44_L59 F (nI q) (nI w) (nI v) F g2 0 0 = _ from hs]
        have f3 : FR [45, 46, 47] [(39, 3), (39, 4)] nD g2 (hsI (hsI g2 39 3 (-1)) 39 4 0) := ((FR.rf nD160).sI (Or.inr (Or.inr (Or.inl (by decide))))).sI (Or.inr (Or.inr (Or.inl (by decide))))
        have M3 := M2.fk E2.w.1 f3
        have F03 : FR layW layK nD h (hsI (hsI g2 39 3 (-1)) 39 4 0) := (((fa.mo (by decide) (by decide) (fun _ z => z) nD160).tr (f1.mo (by decide) (by decide) (fun _ z => z) nD160)).tr (f2.mo (by decide) (by decide) (fun _ z => z) nD160)).tr (f3.mo (by decide) (by decide) (fun _ z => z) nD160)
        generalize hg3 : hsI (hsI g2 39 3 (-1)) 39 4 0 = g3 at *
        have E3 : EV s g3 := E.fr F03 (by decide) evD_n
        have A3 := A.fr w0 F03 (by decide)
        have C3 : CSt g3 g3 m n (0, 0, [], []) [] := ⟨FR.rf nD160, by rw [← hg3, hsI_k (by decide)]; exact hsI_s _ _ _ _, by decide, by rw [← hg3]; exact hsI_s _ _ _ _, fun k z => absurd z (Nat.not_lt_zero _), fun z => absurd z (Nat.lt_irrefl _), fun z => absurd z (by decide)⟩
        have u0 : (un n 0).length = n := by rw [un_0, List.length_range]
        have f8 := fct_8 n hn
        obtain ⟨g4, e4, C4⟩ := srch (F := F) g1 E3.w A3 M3 hn w1 w2 (by omega) n [] 0 (0, 0, [], []) g3 30 u0 (by simp) (by decide) (by rw [un_0]; exact List.Perm.refl _) C3 (by omega) (by show 0 + fct n < 2 ^ 30; omega)
        have e48 : t48 F g3 0 0 0 (nI (sumN (hpF g1 m n) n)) = some g4 := by
          rw [un_0, sumL_r] at e4
          exact e4
        rw [e48]
        rw [un_0] at C4
        have F04 : FR layW layK nD h g4 := F03.tr (C4.1.mo (by decide) (by decide) (fun _ z => z) nD160)
        have E4 : EV s g4 := E.fr F04 (by decide) evD_n
        have S4 := S.fr w0 F04 (by decide) (by decide)
        have w4 := E4.w.1
        have a4 : lsP g4 (nI q) = lsP h (nI q) := by
          unfold lsP
          rw [F04.fA w0 88 (by decide), F04.fA w0 91 (by decide)]
        -- the model
        obtain ⟨g5, f5, r5, e5⟩ := m_gat (F := F) E4 (nI q) (nI w) (nI v) F 0 g4 (by omega) (by omega) (FR.rf nD160) (fun k z => by omega)
        rw [a4, en', nI_mul, hnn, if_pos rfl] at e5
        rw [a4] at r5
        have F05 : FR layW layK nD h g5 := F04.tr (f5.mo (by decide) (by decide) (fun _ z => z) nD160)
        have E5 : EV s g5 := E.fr F05 (by decide) evD_n
        have S5 := S.fr w0 F05 (by decide) (by decide)
        have w5 := E5.w.1
        have row5 : rowIs g5 92 m ([] ++ List.range n) := fun k hk => by
          rw [List.nil_append, List.length_range] at hk
          have : rw0 m ([] ++ List.range n) k = m k := by
            unfold rw0
            rw [List.nil_append, gd_l (by rw [List.length_range]; exact hk), List.getElem_range]
          rw [this, ← hm]
          exact gthd_r r5 en'.symm hn k hk
        obtain ⟨g6, v6, M6, r6, e6⟩ := enum (F := F) (v := v) E5 S5 w1 hn0 hn hnn (by omega) mo ml (nI q) n (List.range n) [] (0, 0, [], []) g5 (-1) List.length_range (by simp) (fun x hx => by rw [List.nil_append] at hx; exact List.mem_range.mp hx) List.pairwise_lt_range ⟨FR.rf nD160, rfl, by decide, fun z => absurd z (Nat.lt_irrefl _), fun z => absurd z (Nat.lt_irrefl _), fun z => absurd z (by decide)⟩ row5 (by show 0 + fct n < 2 ^ 30; omega)
        have w6 : 160 ≤ g6.1 := Nat.le_trans w5 M6.1.1
        have e7 := gonN (h := g6) (m := m) (n := n) (F := F) mo (fun a ha => by have := ml a ha; omega) hn0 hn (by omega) (q := [] ++ (List.range n).reverse) (by simp) (fun k hk => by
          rw [gd_l (by simp; omega)]
          have := List.getElem_mem (l := [] ++ (List.range n).reverse) (n := k) (by simp; omega)
          exact List.mem_range.mp (List.mem_reverse.mp (show _ ∈ (List.range n).reverse from this))) r6 (by rw [List.nil_append]; exact List.pairwise_reverse.mpr List.pairwise_lt_range)
        have eφ : lphi g5 m w n = lphi g1 m w n := by
          refine (lphi_cg (jn_fr w0 F05 (by decide)) m w n).trans (Eq.symm (lphi_cg ?_ m w n))
          exact jn_fr w0 ((fa.mo (W2 := layW) (K2 := layK) (by decide) (by decide) (fun _ z => z) nD160).tr (f1.mo (by decide) (by decide) (fun _ z => z) nD160)) (by decide)
        rw [eφ] at M6
        have s1 := blk_1 (φ := lphi g1 m w n) n [] (0, 0, [], []) (List.range n) List.length_range
        have sW := blk_le (φ := lphi g1 m w n) n [] (0, 0, [], []) (List.range n) List.length_range
        have sP := blk_P (φ := lphi g1 m w n) (R := List.range n) n [] (0, 0, [], []) (List.range n) List.length_range (List.Perm.refl _) ⟨fun z => absurd z (Nat.lt_irrefl _), fun z => absurd z (by decide)⟩
        generalize hσ : blk (lphi g1 m w n) n [] (0, 0, [], []) (List.range n) = σ at *
        have ev : v6 = hI g4 39 3 := M6.2.1.trans C4.2.1.symm
        obtain ⟨k, hk⟩ : ∃ k, F = k + 1 + fct n := ⟨F - 1 - fct n, by omega⟩
        have e8 : p201_L102 F (nI q) (nI w) (nI v) F g5 (nI n) (-1) 1 = some (v6, hsI g6 86 12 (nI n)) := by
          have := e6 (k + 1)
          rw [e7, ob, p201_L102, if_pos rfl] at this
          rw [← this, ← hk]
        have F06 : FR layW layK nD h (hsI g6 86 12 (nI n)) := (F05.tr (M6.1.mo (by decide) (by decide) (fun _ z => z) nD160)).sI (Or.inr (Or.inr (Or.inl (by decide))))
        have f46 : FR [92, 93, 94] [(86, 12), (86, 13)] nD g4 (hsI g6 86 12 (nI n)) := ((f5.mo (by decide) (by decide) (fun _ z => z) nD160).tr (M6.1.mo (by decide) (by decide) (fun _ z => z) nD160)).sI (Or.inr (Or.inr (Or.inl (by decide))))
        have hLT : LTr (hsI g6 86 12 (nI n)) n σ.2.1 (s 0 2) := by
          have t46 : 0 < σ.2.1 → ∀ i, i < n → hI (hsI g6 86 12 (nI n)) 46 i = nI (rw0 m σ.2.2.1 i) := fun z i hi => by
            obtain ⟨x1, x2⟩ := C4.2.2.2.2.2.1 z
            rw [f46.fA w4 46 (by decide), x2 i (by omega)]
          have t47 : 1 < σ.2.1 → ∀ i, i < n → hI (hsI g6 86 12 (nI n)) 47 i = nI (rw0 m σ.2.2.2 i) := fun z i hi => by
            obtain ⟨x1, x2⟩ := C4.2.2.2.2.2.2 z
            rw [f46.fA w4 47 (by decide), x2 i (by omega)]
          have tr : ∀ (q1 q2 : List Nat), q1.Perm (List.range n) → q2.Perm (List.range n) → ∀ i, i < n → ∃ j, j < n ∧ rw0 m q1 i = rw0 m q2 j := by
            intro q1 q2 p1 p2 i hi
            obtain ⟨-, l1, -⟩ := pf_nd p1
            obtain ⟨-, l2, -⟩ := pf_nd p2
            have mm : q1[i]'(by omega) ∈ q2 := p2.mem_iff.mpr (p1.mem_iff.mp (List.getElem_mem _))
            obtain ⟨j, hj, ej⟩ := List.getElem_of_mem mm
            refine ⟨j, by omega, ?_⟩
            unfold rw0
            rw [gd_l (by omega), gd_l hj, ej]
          refine ⟨fun z i hi => ?_, fun z => ⟨fun i hi => ?_, fun i hi => ?_⟩⟩
          · obtain ⟨-, l1, l2⟩ := pf_nd (sP.1 z)
            exact ⟨_, ml _ (l2 i (by omega)), t46 z i hi⟩
          · obtain ⟨j, hj, ej⟩ := tr _ _ (sP.2 z) (sP.1 (by omega)) i hi
            exact ⟨j, hj, by rw [t47 z i hi, t46 (by omega) j hj, ej]⟩
          · obtain ⟨j, hj, ej⟩ := tr _ _ (sP.1 (by omega)) (sP.2 z) i hi
            exact ⟨j, hj, by rw [t47 z j hj, t46 (by omega) i hi, ej]⟩
        refine ⟨hI g4 39 3, g4, hsI g6 86 12 (nI n), rfl, ?_, Or.inr ⟨F06, n, σ.2.1, hn, by have : σ.2.1 ≤ 0 + fct n := sW; omega, ?_, hsI_s _ _ _ _, ?_, ?_, ?_, ?_, hLT⟩⟩
        · rw [E4.cn.m1, h2, ob, if_neg n10, k2, ob, if_neg n10]
          rw [show p201_L30 F (nI q) (nI w) (nI v) F g4 0 0 = _ from e5, e8, ev]
        · rw [f46.fI w4 39 1 (by decide), C4.1.fI E3.w.1 39 1 (by decide)]
          exact M3.1.1
        · rw [f46.fI w4 39 4 (by decide)]
          exact C4.2.2.2.1
        · rw [hsI_k (by decide)]
          exact M6.2.2.2.1 s1
        · intro z i hi
          obtain ⟨x1, x2⟩ := C4.2.2.2.2.2.1 z
          obtain ⟨y1, y2⟩ := M6.2.2.2.2.1 z
          rw [f46.fA w4 46 (by decide), x2 i (by omega), hsI_n (by decide), y2 i (by omega)]
        · intro z i hi
          obtain ⟨x1, x2⟩ := C4.2.2.2.2.2.2 z
          obtain ⟨y1, y2⟩ := M6.2.2.2.2.2 z
          rw [f46.fA w4 47 (by decide), x2 i (by omega), hsI_n (by decide), y2 i (by omega)]
      · rw [if_neg en]
        obtain ⟨g5, f5, -, e5⟩ := m_gat (F := F) E (nI q) (nI w) (nI v) F 0 h (by omega) (by omega) (FR.rf nD160) (fun k z => by omega)
        rw [nI_mul, if_neg en] at e5
        refine ⟨-1, h, g5, rfl, ?_, Or.inl f5⟩
        rw [E.cn.m1, h2, ob, if_neg n10, k2, ob, if_neg n10]
        exact e5
end LA8
