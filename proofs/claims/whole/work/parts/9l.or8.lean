/-! order: the calls -/
section OR8
variable {s : SS} {h : HS}
theorem or_k {W : List Nat} {K : List (Nat × Nat)} {g : HS} (E : EM s h) (S : SCc s h) (O : ORa s h) (f : FR W K nD h g) (ok : ¬ 86 ∈ W ∧ ¬ (86, 91) ∈ K ∧ ¬ (86, 2) ∈ K) (o1 : frO (154 :: 155 :: scI) W K) (o2 : ¬ 38 ∈ W) : EM s g ∧ SCc s g ∧ ORa s g ∧ (∀ l, hof g l = hof h l) ∧ ndf g = ndf h ∧ wtf g = wtf h := by
  have w := E.w
  have k1 := f.fA w 87 (o1 87 (by decide))
  have k2 := f.fA w 154 (o1 154 (by decide))
  have k3 := f.fA w 155 (o1 155 (by decide))
  exact ⟨E.fr f ok, S.fr w f (fun a ha => o1 a (List.mem_cons_of_mem _ (List.mem_cons_of_mem _ ha))) o2, fun a ha => by rw [k2, k3]; exact O a ha, fun l => by funext k; unfold hof; rw [k1], by funext a; unfold ndf; rw [k2], by funext a; unfold wtf; rw [k3]⟩
theorem chsM (E : EM s h) (S : SCc s h) (O : ORa s h) {l : Nat → Nat} {n : Nat} (hn9 : n ≤ 9) (hl : ∀ k, k < n → l k < s 0 1 ∧ hI h 156 k = nI (l k)) (hd : ∀ i j, i < n → j < n → l i = l j → i = j) {P : Nat → Nat} (hP : srt l P n) (h157 : ∀ j, j < n → hI h 157 j = nI (P j)) (h159 : ∀ u, u < 2 ^ n → hL h 159 u = lN (TT (hof h l) (ndf h) (wtf h) n (s 0 13) u)) {F : Nat} (hF : 1000 ≤ F) {x : Int64} : ∀ (m k f : Nat) (g : HS), k + m = n → m < f → FR [158] [] nD h g → (∀ j, j < k → hI g 158 j = nI (l (chB l (hof h l) (ndf h) (wtf h) n (s 0 13) (oT l (hof h l) (ndf h) (wtf h) n (s 0 13) j)))) → ∃ g', FR [158] [] nD h g' ∧ (∀ j, j < n → hI g' 158 j = nI (l (chB l (hof h l) (ndf h) (wtf h) n (s 0 13) (oT l (hof h l) (ndf h) (wtf h) n (s 0 13) j)))) ∧ p303_L348 F (nI n) x f g (nI (oT l (hof h l) (ndf h) (wtf h) n (s 0 13) k)) (nI k) = some (hL g' 159 0, hsI (hsI g' 86 92 (nI n)) 86 91 0) := by
  have w := E.w
  intro m
  induction m with
  | zero =>
    intro k f g hk hf fg hb
    obtain ⟨f, rfl⟩ : ∃ n', f = n' + 1 := ⟨f - 1, by omega⟩
    have e : k = n := by omega
    subst e
    rw [p303_L348, if_neg Int32.lt_irrefl, if_neg (by decide)]
    exact ⟨g, fg, hb, rfl⟩
  | succ m ih =>
    intro k f g hk hf fg hb
    obtain ⟨f, rfl⟩ : ∃ n', f = n' + 1 := ⟨f - 1, by omega⟩
    obtain ⟨E1, S1, O1, ho, nd, wt⟩ := or_k E S O fg (by decide) (by decide) (by decide)
    obtain ⟨t1, -⟩ := oT_sp (l := l) (H := hof h l) (nd := ndf h) (wt := wtf h) (A := s 0 13) hn9 k (by omega)
    have tn := oT_nf (l := l) (H := hof h l) (nd := ndf h) (wt := wtf h) (A := s 0 13) hn9 (j := k) (by omega)
    have e1 := chM E1 S1 O1 (l := l) (n := n) (t := oT l (hof h l) (ndf h) (wtf h) n (s 0 13) k) (i := k) hn9 (fun j hj => by rw [fg.fA w 156 (by decide)]; exact hl j hj) hd hP (fun j hj => by rw [fg.fA w 157 (by decide)]; exact h157 j hj) t1 tn (by omega) (by rw [ho, nd, wt, fg.fL w 159 (by decide)]; exact h159) (F := F) hF (x := x) (a0 := nI n) (K := p303_L348 F (nI n) x f) n 0 F (by omega) (by omega) (fun j hj => absurd hj (Nat.not_lt_zero j))
    rw [ho, nd, wt] at e1
    rw [p303_L348, if_pos (nI_lt (by omega) (by omega)), show p303_L357 F (nI n) x (p303_L348 F (nI n) x f) F g (nI (oT l (hof h l) (ndf h) (wtf h) n (s 0 13) k)) (nI k) 0 = _ from e1]
    exact ih (k + 1) f _ (by omega) (by omega) (fg.sI (Or.inl (by decide))) (fun j hj => by
      by_cases z : j = k
      · subst z; exact hI_s _ _ _ _
      · rw [hI_sk z]; exact hb j (by omega))
def orBad (s : SS) (h : HS) (x : Int64) (n : Nat) : Prop := (∃ k, k < n ∧ jo5 s (by5 x) k = false) ∨ anyN (nfar h n) (s 0 13) = true
def orR (s : SS) (h : HS) (x : Int64) (n k : Nat) : Int32 := nI (by5 x (chB (by5 x) (hof h (by5 x)) (ndf h) (wtf h) n (s 0 13) (oT (by5 x) (hof h (by5 x)) (ndf h) (wtf h) n (s 0 13) k)))
def orV (s : SS) (h : HS) (x : Int64) (n : Nat) : Int64 := lN (TT (hof h (by5 x)) (ndf h) (wtf h) n (s 0 13) 0)
theorem jo5_lt {x : Int64} {n : Nat} (h : ∀ k, k < n → jo5 s (by5 x) k = true) : (∀ k, k < n → by5 x k < s 0 1) ∧ ∀ i j, i < n → j < n → by5 x i = by5 x j → i = j := by
  have lt : ∀ i j, i < j → j < n → ¬ by5 x i = by5 x j := fun i j hij hj e => by
    have := h j hj
    unfold jo5 at this
    rw [anyN_iff.mpr ⟨i, hij, decide_eq_true e⟩, Bool.not_true, Bool.and_false] at this
    cases this
  refine ⟨fun k hk => ?_, fun i j hi hj e => ?_⟩
  · have := h k hk
    unfold jo5 at this
    rw [Bool.and_eq_true] at this
    exact of_decide_eq_true this.1
  · rcases Nat.lt_trichotomy i j with z | z | z
    · exact absurd e (lt i j z hj)
    · exact z
    · exact absurd e.symm (lt j i z hi)
theorem orBad_n {x : Int64} {n : Nat} (h1 : ∀ k, k < n → jo5 s (by5 x) k = true) (h2 : anyN (nfar h n) (s 0 13) = false) : ¬ orBad s h x n := by
  rintro (⟨k, hk, e⟩ | e)
  · rw [h1 k hk] at e; cases e
  · rw [h2] at e; cases e
def orCK : List (Nat × Nat) := [(77, 4), (77, 1)]
theorem c_order (E : EV s h) (S : SCc s h) (O : ORa s h) (R : RWc h) {n : Nat} (h1 : 1 ≤ n) (hn9 : n ≤ 9) {F : Nat} (hF : 1000 ≤ F) (x : Int64) (hr : ∀ h, p166 h (nI n) 1 9 = some 1) : ∃ v g, p163 F h (nI n) x = some (v, g) ∧ ((orBad s h x n ∧ v = -1 ∧ FR [81] [] nD h g) ∨ (¬ orBad s h x n ∧ v = orV s h x n ∧ FR orW orCK nD h g ∧ hI g 77 4 = nI n ∧ hI g 77 1 = 0 ∧ ∀ k, k < n → hI g 80 k = orR s h x n k)) := by
  have w := E.w.1
  have b13 := E.cn.b13
  obtain ⟨p1, p2, p3⟩ := b9_pw n (by omega)
  unfold p163 p76
  rw [hr, ob, if_neg n10]
  obtain ⟨g1, f1, ⟨e, hb⟩ | ⟨e, hj, hr1⟩⟩ := up5C E hn9 (show 20 ≤ F by omega) F 0 h (Nat.zero_le _) (by omega) (FR.rf nD160) (fun k hk => absurd hk (Nat.not_lt_zero k)) (fun k hk => absurd hk (Nat.not_lt_zero k))
  · rw [show p77 F h (nI n) x = _ from e, ob, if_pos rfl]
    exact ⟨_, g1, rfl, Or.inl ⟨Or.inl hb, rfl, f1⟩⟩
  · have E1 : EV s g1 := E.fr f1 (by decide) evD_n
    have R1 : RWc g1 := R.fr w f1 (by decide)
    obtain ⟨-, S1, O1, ho1, nd1, wt1⟩ := or_k (s := s) ⟨E.cn.m13, E.cn.m1, b13, E.cn.b1, w⟩ S O f1 (by decide) (by decide) (by decide)
    obtain ⟨hlt, hd⟩ := jo5_lt hj
    have e2 := neC E1 O1 R1 hn9 F (s 0 13) 0 F (by omega) (by omega) rfl
    have en : nfar g1 n = nfar h n := by funext a; unfold nfar; rw [nd1]
    rw [en] at e2
    rw [show p77 F h (nI n) x = _ from e, ob, if_neg n10, show p78 F g1 (nI n) = _ from e2, ob]
    cases ha : anyN (nfar h n) (s 0 13) with
    | true =>
      rw [if_pos rfl, if_pos rfl]
      exact ⟨_, g1, rfl, Or.inl ⟨Or.inr ha, rfl, f1⟩⟩
    | false =>
      rw [if_neg (show ¬ (false = true) by decide), if_neg n10]
      obtain ⟨g2, f2, t2, e3⟩ := msC E1 S1 O1 R1 hn9 (fun k hk => ⟨hlt k hk, hr1 k hk⟩) hF (2 ^ n) 0 F g1 (by omega) (by omega) (FR.rf nD160) (fun u hu => absurd hu (Nat.not_lt_zero u))
      obtain ⟨E2, S2, O2, R2, ho2, nd2, wt2, k2⟩ := or_fr E1 S1 O1 R1 f2
      have ev : ((1 : Int32) <<< (nI n &&& 31)) - 1 = vJ n 0 := by
        obtain ⟨d, hd⟩ : ∃ d, 2 ^ n = d + 1 := ⟨2 ^ n - 1, by omega⟩
        unfold vJ
        rw [p1, if_neg (by omega), hd, nI_pred]
        rfl
      obtain ⟨g3, f3, ⟨k82, k83⟩, t3, e4⟩ := dpC E2 S2 O2 R2 (H := hof g1 (by5 x)) (n := n) hn9 (fun i hi => (ho_v S1 (hlt i hi)).2) (by rw [nd2, wt2]; exact t2) hF (x := x) (2 ^ n) 0 F g2 (by omega) (by omega) (FR.rf nD160) ⟨rfl, rfl⟩ (fun u hu z => by omega)
      obtain ⟨E3, S3, O3, R3, ho3, nd3, wt3, k3⟩ := or_fr E2 S2 O2 R2 f3
      have q1 : hof g3 (by5 x) = hof h (by5 x) := by rw [ho3, ho2, ho1]
      have q2 : ndf g3 = ndf h := by rw [nd3, nd2, nd1]
      have q3 : wtf g3 = wtf h := by rw [wt3, wt2, wt1]
      rw [nd2, wt2, nd1, wt1, ho1] at t3
      rw [nd1, wt1, ho1] at t2
      obtain ⟨g4, f4, t4, e5⟩ := chsC E3 S3 O3 (l := by5 x) (n := n) hn9 (fun k hk => ⟨hlt k hk, by rw [k3, k2]; exact hr1 k hk⟩) (by rw [q1, q2, q3, k82, k83]; exact t2) (by rw [q1, q2, q3]; exact t3) hF n 0 F g3 (by omega) (by omega) (FR.rf nD160) (fun k hk => absurd hk (Nat.not_lt_zero k))
      rw [q1, q2, q3] at t4
      have w3 := E3.w.1
      rw [show p79 F g1 (nI n) = _ from e3, ob, ev, e4]
      unfold enC
      rw [show p82 F g3 (nI n) = _ from e5, ob, if_neg (by decide)]
      have fx : FR orW orCK nD h g4 := (((f1.mo (by decide) (by decide) (fun _ z => z) nD160).tr (f2.mo (by decide) (by decide) (fun _ z => z) nD160)).tr (f3.mo (by decide) (by decide) (fun _ z => z) nD160)).tr (f4.mo (by decide) (by decide) (fun _ z => z) nD160)
      refine ⟨_, _, rfl, Or.inr ⟨orBad_n hj ha, ?_, (fx.sI (Or.inr (Or.inr (Or.inl (by decide))))).sI (Or.inr (Or.inr (Or.inl (by decide)))), ?_, hI_s _ _ _ _, fun k hk => ?_⟩⟩
      · show hL g4 84 0 = _
        rw [f4.fL w3 84 (by decide)]
        exact t3 0 p3
      · rw [hI_sk (by decide)]; exact hI_s _ _ _ _
      · rw [hI_sn (by decide), hI_sn (by decide)]; exact t4 k hk
def orMW : List Nat := [156, 157, 158, 159]
def orMK : List (Nat × Nat) := [(86, 92), (86, 91)]
theorem m_order (E : EM s h) (S : SCc s h) (O : ORa s h) {n : Nat} (h1 : 1 ≤ n) (hn9 : n ≤ 9) {F : Nat} (hF : 1000 ≤ F) (x : Int64) (hr : ∀ h, p187 h (nI n) 1 9 = some 1) : ∃ v g, p303 F h (nI n) x = some (v, g) ∧ ((orBad s h x n ∧ v = -1 ∧ FR [156] [] nD h g) ∨ (¬ orBad s h x n ∧ v = orV s h x n ∧ FR orMW orMK nD h g ∧ hI g 86 92 = nI n ∧ hI g 86 91 = 0 ∧ ∀ k, k < n → hI g 158 k = orR s h x n k)) := by
  have w := E.w
  have b13 := E.b13
  have b1 := E.b1
  obtain ⟨p1, p2, p3⟩ := b9_pw n (by omega)
  unfold p303
  rw [hr, ob, if_neg n10]
  obtain ⟨g1, f1, ⟨e, hb⟩ | ⟨e, hj, hr1⟩⟩ := up5M E hn9 (show 20 ≤ F by omega) F 0 h (Nat.zero_le _) (by omega) (FR.rf nD160) (fun k hk => absurd hk (Nat.not_lt_zero k)) (fun k hk => absurd hk (Nat.not_lt_zero k))
  · rw [show p303_L17 F (nI n) x F h 0 = _ from e]
    exact ⟨_, g1, rfl, Or.inl ⟨Or.inl hb, rfl, f1⟩⟩
  · obtain ⟨E1, S1, O1, ho1, nd1, wt1⟩ := or_k E S O f1 (by decide) (by decide) (by decide)
    obtain ⟨hlt, hd⟩ := jo5_lt hj
    have e2 := neM E1 O1 hn9 (F := F) (x := x) (s 0 13) 0 F (by omega) (by omega) rfl
    have en : nfar g1 n = nfar h n := by funext a; unfold nfar; rw [nd1]
    rw [en] at e2
    rw [show p303_L17 F (nI n) x F h 0 = _ from e, show p303_L105 F (nI n) x F g1 0 = _ from e2]
    cases ha : anyN (nfar h n) (s 0 13) with
    | true =>
      rw [if_pos rfl]
      exact ⟨_, g1, rfl, Or.inl ⟨Or.inr ha, rfl, f1⟩⟩
    | false =>
      rw [if_neg (show ¬ (false = true) by decide)]
      obtain ⟨g2, P, f2, hP, k157, e3⟩ := srtM E1.w (l := by5 x) hn9 (fun j hj => ⟨hr1 j hj, by have := hlt j hj; omega⟩) hd hF (x := x) n 0 F g1 (fun _ => 0) (by omega) (by omega) (FR.rf nD160) ⟨fun j hj => absurd hj (Nat.not_lt_zero j), fun i j _ hj => absurd hj (Nat.not_lt_zero j), fun y hy => absurd hy (Nat.not_lt_zero y)⟩ (fun k hk => absurd hk (Nat.not_lt_zero k))
      obtain ⟨E2, S2, O2, ho2, nd2, wt2⟩ := or_k E1 S1 O1 f2 (by decide) (by decide) (by decide)
      have k2 := f2.fA E1.w 156 (by decide)
      have hl2 : ∀ k, k < n → by5 x k < s 0 1 ∧ hI g2 156 k = nI (by5 x k) := fun k hk => ⟨hlt k hk, by rw [k2]; exact hr1 k hk⟩
      obtain ⟨g3, f3, k3, t3, e4⟩ := dpM E2 S2 O2 (l := by5 x) (n := n) hn9 hl2 hF (x := x) (2 ^ n - 1) 1 F (hsL g2 159 (2 ^ n - 1) 0) (by omega) (by omega) (by omega) ((FR.rf nD160).sL (Or.inl (by decide))) rfl (fun u hu z => by
        have : u = 2 ^ n - 1 := by omega
        subst this
        rw [hL_s, u1_eq, Rt_full hn9]; rfl)
      obtain ⟨E3, S3, O3, ho3, nd3, wt3⟩ := or_k E2 S2 O2 f3 (by decide) (by decide) (by decide)
      have q1 : hof g3 (by5 x) = hof h (by5 x) := by rw [ho3, ho2, ho1]
      have q2 : ndf g3 = ndf h := by rw [nd3, nd2, nd1]
      have q3 : wtf g3 = wtf h := by rw [wt3, wt2, wt1]
      rw [nd2, wt2, ho2, nd1, wt1, ho1] at t3
      obtain ⟨g4, f4, t4, e5⟩ := chsM E3 S3 O3 (l := by5 x) (n := n) hn9 (fun k hk => ⟨hlt k hk, by rw [f3.fA E2.w 156 (by decide)]; exact (hl2 k hk).2⟩) hd hP (fun j hj => by rw [k3]; exact k157 j hj) (by rw [q1, q2, q3]; exact t3) hF (x := x) n 0 F g3 (by omega) (by omega) (FR.rf nD160) (fun k hk => absurd hk (Nat.not_lt_zero k))
      rw [q1, q2, q3] at t4
      rw [show p303_L139 F (nI n) x F g1 0 = _ from e3, e4, show p303_L348 F (nI n) x F g3 0 0 = _ from e5]
      have fx : FR orMW orMK nD h g4 := (((f1.mo (by decide) (by decide) (fun _ z => z) nD160).tr (f2.mo (by decide) (by decide) (fun _ z => z) nD160)).tr (f3.mo (by decide) (by decide) (fun _ z => z) nD160)).tr (f4.mo (by decide) (by decide) (fun _ z => z) nD160)
      refine ⟨_, _, rfl, Or.inr ⟨orBad_n hj ha, ?_, (fx.sI (Or.inr (Or.inr (Or.inl (by decide))))).sI (Or.inr (Or.inr (Or.inl (by decide)))), ?_, hI_s _ _ _ _, fun k hk => ?_⟩⟩
      · rw [f4.fL E3.w 159 (by decide)]
        exact t3 0 p3
      · rw [hI_sk (by decide)]; exact hI_s _ _ _ _
      · rw [hI_sn (by decide), hI_sn (by decide)]; exact t4 k hk
end OR8
