/-! a law's text: the model reads a clause's head -/
theorem nI_any (x : Int32) : ∃ n, x = nI n := ⟨x.toBitVec.toNat, by
  apply Int32.toBitVec_inj.mp
  apply BitVec.eq_of_toNat_eq
  show _ = (BitVec.ofInt 32 (x.toBitVec.toNat : Int)).toNat
  rw [BitVec.ofInt_natCast, BitVec.toNat_ofNat]
  exact (Nat.mod_eq_of_lt x.toBitVec.isLt).symm⟩
section MBG
variable {n : Nat} {β : Nat → Nat} {l : Nat} {g0 g : HS} {p : Nat} {S : List Nat} {s : PST} {d e F : Nat}
theorem MC.self (M : MC n β l g0 g p S s d e) : MC n β l g g p S s d e := ⟨⟨FR.rf nD160, fun _ _ => ⟨rfl, rfl⟩⟩, M.2⟩
theorem AM.fr {h : HS} {W : List Nat} {K : List (Nat × Nat)} {D : Nat → Prop} (A : AM g0 n β l) (f : FR W K D g0 h) (ok : ¬ 86 ∈ W ∧ ¬ (86, 52) ∈ K ∧ ¬ (86, 58) ∈ K ∧ frO [126] W K ∧ frO [2, 3, 4, 5, 6, 7, 8, 9, 10, 11, 12, 13, 14, 15, 16, 17, 18, 19, 20, 21, 22, 23] W K) : AM h n β l := ⟨Nat.le_trans A.1 f.1, A.2.1.fr A.1 f ⟨ok.1, ok.2.1, ok.2.2.2.1⟩, A.2.2.1.fr A.1 f ok.2.2.2.2, (f.fI A.1 86 58 ⟨by decide, ok.1, ok.2.2.1⟩).trans A.2.2.2.1, A.2.2.2.2⟩
theorem MC.wr (M : MC n β l g0 g p S s d e) {a k : Nat} {v : Int32} (ha : 127 < a ∧ a < 133) : MC n β l (hsI g a k v) (hsI g a k v) p S s d e := by
  obtain ⟨-, m1, m3, m4, m5, m6, m7, m8, m9, m10⟩ := M
  have r : ∀ x, ¬ x = a → hI (hsI g a k v) x = hI g x := fun x hx => hsI_n hx
  refine ⟨⟨FR.rf nD160, fun _ _ => ⟨rfl, rfl⟩⟩, m1, ?_⟩
  rw [r 86 (by omega), r 135 (by omega), r 133 (by omega), r 134 (by omega)]
  exact ⟨m3, m4, m5, m6, m7, m8, m9, m10⟩
def BGf (g g' : HS) : Prop := FR [130, 133, 134, 135] MKk nD g g' ∧ hI g' 133 = hI g 133 ∧ hI g' 134 = hI g 134
theorem BGf.rf : BGf g g := ⟨FR.rf nD160, rfl, rfl⟩
theorem BGf.tr {a b c : HS} (x : BGf a b) (y : BGf b c) : BGf a c := ⟨x.1.tr y.1, y.2.1.trans x.2.1, y.2.2.trans x.2.2⟩
theorem BGf.pw {k : Nat} {v : Int32} (hk : (86, k) ∈ MKk) : BGf g (hsI g 86 k v) := ⟨(FR.rf nD160).sI (Or.inr (Or.inr (Or.inl hk))), hsI_n (by decide), hsI_n (by decide)⟩
theorem MC.blb (A : AM g n β l) (hF : 1000 ≤ F) (M : MC n β l g g p S s d e) : ∃ g', p245 F g = some g' ∧ MC n β l g' g' (tPl n β s.1) S s d e ∧ hI g' 86 54 = nI (tPl n β s.1) ∧ BGf g g' ∧ hI g' 130 = hI g 130 := by
  obtain ⟨mh, hp, e53⟩ : MH g n β ∧ (p ≤ n ∧ skp n β p = tPl n β s.1) ∧ hI g 86 53 = nI p := ⟨A.2.1, M.2.1, M.2.2.1⟩
  obtain ⟨g', e1, f1, x1, x2⟩ := blE (F := F) mh A.1 hF hp.1 e53
  obtain ⟨g2, e2, M2, e54⟩ := M.bl A hF
  rw [e1] at e2
  injection e2 with e2
  subst e2
  exact ⟨g', e1, M2.self, e54, ⟨f1.mo (fun a z => nomatch z) (by decide) (fun _ z => z) nD160, f1.fA A.1 133 (by decide), f1.fA A.1 134 (by decide)⟩, f1.fA A.1 130 (by decide)⟩
theorem MC.flb (M : MC n β l g g p S s d e) {x y : Int32} {k q : Nat} (hx : x = nI k) (hy : y = nI q) (hk : k < 8) (hq : q ≤ 400) : ∃ g', p244 g x y = some g' ∧ hI g' 86 55 = nI (if e = 0 then 1 + 8 * q + k else e) ∧ BGf g g' ∧ hI g' 130 = hI g 130 := by
  obtain ⟨g', e1, M1⟩ := M.fl hx hy hk hq
  refine ⟨g', e1, M1.2.2.2.1.1, ?_⟩
  unfold p244 at e1
  by_cases z : hI g 86 55 = 0
  · rw [if_pos z] at e1
    injection e1 with e1
    rw [← e1]
    exact ⟨BGf.pw (by decide), hsI_n (by decide)⟩
  · rw [if_neg z] at e1
    injection e1 with e1
    rw [← e1]
    exact ⟨BGf.rf, rfl⟩
theorem BGf.am {g' : HS} (A : AM g n β l) (b : BGf g g') : AM g' n β l := A.fr b.1 (by decide)
def BGk (k0 : Nat) (g g' : HS) : Prop := BGf g g' ∧ ∀ j, ¬ j = k0 → hI g' 130 j = hI g 130 j
theorem BGk.mk {k0 : Nat} {g g' : HS} (b : BGf g g') (w : hI g' 130 = hI g 130) : BGk k0 g g' := ⟨b, fun j _ => by rw [w]⟩
/-- the word if -/
theorem ifM (A : AM g n β l) (hF : 1000 ≤ F) (M : MC n β l g g p S s d e) (v3 : Int32) {a0 : Int32} : (e = 0 → tTk n β s.1 = 10027 → ∃ g' p', p265_j236 F a0 g v3 = some (v3, g') ∧ MC n β l g' g' p' S (s.1 + 1, s.2.1, s.2.2) d 0 ∧ BGf g g' ∧ hI g' 130 = hI g 130) ∧ ((¬ e = 0 ∨ ¬ tTk n β s.1 = 10027) → ∃ x g', p265_j236 F a0 g v3 = some (x, g') ∧ hI g' 86 55 = nI (if e = 0 then 1 + 8 * tPl n β s.1 + 0 else e) ∧ BGf g g' ∧ hI g' 130 = hI g 130) := by
  obtain ⟨g1, e1, M1, e54, b1, w1⟩ := M.blb A hF
  have A1 := b1.am A
  have hq := (tPl_b (n := n) (β := β) s.1).1
  have hn := A.2.1.1
  have ew := weE (F := F) A1.2.1 hF hq M1.2.2.1
  have ei : p249 F g1 (some 9) (nI (wEd n β (tPl n β s.1))) = some (b2 (decide (tTk n β s.1 = 10027))) := wsE (F := F) A1.2.1 A1.2.2.1 hF M1.2.2.1 (show 17 < 21 by decide)
  unfold p265_j236
  rw [e1, ob, ew, ob, ei, ob, b2_if]
  by_cases z : tTk n β s.1 = 10027
  · obtain ⟨zq, te⟩ := nxw (k := 17) (by decide) z
    obtain ⟨n1, n2⟩ := nxt (n := n) (β := β) zq
    rw [te] at n1 n2
    have M2 := M1.po (p' := wEd n β (tPl n β s.1)) (i' := s.1 + 1) ⟨n1, n2⟩
    rw [decide_eq_true z, if_pos rfl]
    refine ⟨fun h0 _ => ?_, fun _ => ?_⟩
    · subst h0
      exact ⟨_, wEd n β (tPl n β s.1), rfl, M2.self, b1.tr (BGf.pw (by decide)), by rw [hsI_n (by decide)]; exact w1⟩
    · by_cases h0 : e = 0
      · rename_i hh
        exact absurd z (hh.resolve_left (fun y => y h0))
      · rw [if_neg h0]
        exact ⟨v3, _, rfl, M2.2.2.2.1.1, b1.tr (BGf.pw (by decide)), by rw [hsI_n (by decide)]; exact w1⟩
  · obtain ⟨g2, e2, x2, b2', w2⟩ := M1.flb (show (0 : Int32) = nI 0 from rfl) M1.2.2.1 (by decide) (by omega)
    rw [decide_eq_false z, if_neg (show ¬ false = true by decide), e2, ob]
    exact ⟨fun _ h => absurd h z, fun _ => ⟨-1, g2, rfl, x2, b1.tr b2', w2.trans w1⟩⟩
theorem nuF_L {a0 : Int32} : ∀ (f : Nat) (h : HS) (v2 v3 : Int32) {v : Int32} {g' : HS}, p251_L4 F a0 f h v2 v3 = some (v, g') → hI g' 133 = hI h 133 ∧ hI g' 134 = hI h 134 := by
  have j83 : ∀ (h : HS) (v2 : Int32) {v : Int32} {g' : HS}, p251_j83 F a0 h v2 = some (v, g') → hI g' 133 = hI h 133 ∧ hI g' 134 = hI h 134 := by
    intro h v2 v g' e
    unfold p251_j83 p244 at e
    by_cases z : hI h 86 55 = 0
    · rw [if_pos z, ob] at e
      injection e with e
      injection e with e1 e2
      rw [← e2]
      exact ⟨hsI_n (by decide), hsI_n (by decide)⟩
    · rw [if_neg z, ob] at e
      injection e with e
      injection e with e1 e2
      rw [← e2]
      exact ⟨rfl, rfl⟩
  have j73 : ∀ (h : HS) (v2 v3 : Int32) {v : Int32} {g' : HS}, p251_j73 F a0 h v2 v3 = some (v, g') → hI g' 133 = hI h 133 ∧ hI g' 134 = hI h 134 := by
    intro h v2 v3 v g' e
    unfold p251_j73 at e
    by_cases z : 4 < v3
    · rw [if_pos z] at e; exact j83 _ _ e
    · rw [if_neg z] at e
      by_cases y : a0 < v2
      · rw [if_pos y] at e; exact j83 _ _ e
      · rw [if_neg y] at e
        injection e with e
        injection e with e1 e2
        rw [← e2]
        exact ⟨rfl, rfl⟩
  intro f
  induction f with
  | zero => intro h v2 v3 v g' e; cases e
  | succ f ih =>
    intro h v2 v3 v g' e
    have st : ∀ x y, p251_L4 F a0 f (hsI h 86 53 (hI h 86 53 + 1)) x y = some (v, g') → hI g' 133 = hI h 133 ∧ hI g' 134 = hI h 134 := by
      intro x y e
      obtain ⟨a, b⟩ := ih _ _ _ e
      rw [a, b]
      exact ⟨hsI_n (by decide), hsI_n (by decide)⟩
    rw [p251_L4] at e
    by_cases c1 : hI h 86 53 < hI h 86 52
    · rw [if_pos c1] at e
      by_cases c2 : hI h 86 53 < 0 ∨ 400 ≤ (hI h 86 53).toNatClampNeg
      · rw [if_pos c2] at e; cases e
      · rw [if_neg c2] at e
        cases hr : p247 h (hI h 126 (hI h 86 53).toNatClampNeg) with
        | none => rw [hr] at e; cases e
        | some r =>
          rw [hr, ob] at e
          by_cases c3 : r = 0
          · rw [if_pos c3] at e; exact j73 _ _ _ e
          · rw [if_neg c3] at e
            unfold p251_j56 at e
            by_cases c4 : v3 < 4
            · rw [if_pos c4] at e
              by_cases c5 : hI h 86 53 < 0 ∨ 400 ≤ (hI h 86 53).toNatClampNeg
              · rw [if_pos c5] at e; cases e
              · rw [if_neg c5] at e; exact st _ _ e
            · rw [if_neg c4] at e; exact st _ _ e
    · rw [if_neg c1] at e; exact j73 _ _ _ e
theorem nuF_fr {a0 v : Int32} {h g' : HS} (e : p251 F h a0 = some (v, g')) : 160 ≤ h.1 → hI g' 133 = hI h 133 ∧ hI g' 134 = hI h 134 := fun _ => nuF_L F h 0 0 e
/-- the head of a clause: verb, worth, if -/
theorem bgM (A : AM g n β l) (hF : 1000 ≤ F) (M : MC n β l g g p S s d 0) (hs : s.1 ≤ tMx n β) {cc : Nat} (hcc : cc ≤ 12) (e128 : hI g 128 l = nI cc) {k0 : Nat} (hk0 : k0 < 240) : (∃ kd x s1 g' p', aHd (tTk n β) (tPl n β) kd (s.1 + 1, s.2.1, s.2.2) = Sum.inr (s1, x) ∧ (10021 ≤ tTk n β s.1 ∧ tTk n β s.1 ≤ 10023) ∧ kd = kdO (tTk n β s.1) ∧ ¬ cc = 12 ∧ p265 F g (nI k0) = some (nI kd, g') ∧ MC n β l g' g' p' S s1 d 0 ∧ BGf g g' ∧ (kd < 2 → hI g' 130 k0 = nI x) ∧ ∀ j, ¬ j = k0 → hI g' 130 j = hI g 130 j) ∨ ∃ e x g', ((10021 ≤ tTk n β s.1 ∧ tTk n β s.1 ≤ 10023) → cc = 12 → e = 1 + 8 * tPl n β s.1 + 4) ∧ ((10021 ≤ tTk n β s.1 ∧ tTk n β s.1 ≤ 10023) → ¬ cc = 12 → aHd (tTk n β) (tPl n β) (kdO (tTk n β s.1)) (s.1 + 1, s.2.1, s.2.2) = Sum.inl e) ∧ (¬ (10021 ≤ tTk n β s.1 ∧ tTk n β s.1 ≤ 10023) → e = 1 + 8 * tPl n β s.1 + 0) ∧ p265 F g (nI k0) = some (x, g') ∧ hI g' 86 55 = nI e ∧ (0 < e ∧ e < 100000) ∧ BGk k0 g g' := by
  have hn := A.2.1.1
  have hl := A.2.2.2.2
  have hmx := tMx_b (n := n) (β := β) hn
  have hTm := tTk_m (n := n) (β := β) hn
  obtain ⟨g1, e1, M1, e54, b1, w1⟩ := M.blb A hF
  have A1 := b1.am A
  have hq := (tPl_b (n := n) (β := β) s.1).1
  have ew := weE (F := F) A1.2.1 hF hq M1.2.2.1
  have er : p249 F g1 (some 3) (nI (wEd n β (tPl n β s.1))) = some (b2 (decide (tTk n β s.1 = 10021))) := wsE (F := F) A1.2.1 A1.2.2.1 hF M1.2.2.1 (show 11 < 21 by decide)
  have en : p249 F g1 (some 4) (nI (wEd n β (tPl n β s.1))) = some (b2 (decide (tTk n β s.1 = 10022))) := wsE (F := F) A1.2.1 A1.2.2.1 hF M1.2.2.1 (show 12 < 21 by decide)
  have et : p249 F g1 (some 5) (nI (wEd n β (tPl n β s.1))) = some (b2 (decide (tTk n β s.1 = 10023))) := wsE (F := F) A1.2.1 A1.2.2.1 hF M1.2.2.1 (show 13 < 21 by decide)
  have f128 : hI g1 128 l = nI cc := by rw [b1.1.fA A.1 128 (by decide)]; exact e128
  -- which word it is
  have sel : p265 F g (nI k0) = p265_j55 F (nI k0) g1 (nI (wEd n β (tPl n β s.1))) (if 10021 ≤ tTk n β s.1 ∧ tTk n β s.1 ≤ 10023 then nI (kdO (tTk n β s.1)) else -1) := by
    unfold p265
    rw [e1, ob, ew, ob, er, ob, b2_if]
    by_cases z0 : tTk n β s.1 = 10021
    · rw [decide_eq_true z0, if_pos rfl, if_pos (by omega), z0]; rfl
    · rw [decide_eq_false z0, if_neg (show ¬ false = true by decide), en, ob, b2_if]
      by_cases z1 : tTk n β s.1 = 10022
      · rw [decide_eq_true z1, if_pos rfl, if_pos (by omega), z1]; rfl
      · rw [decide_eq_false z1, if_neg (show ¬ false = true by decide), et, ob, b2_if]
        by_cases z2 : tTk n β s.1 = 10023
        · rw [decide_eq_true z2, if_pos rfl, if_pos (by omega), z2]; rfl
        · rw [decide_eq_false z2, if_neg (show ¬ false = true by decide), if_neg (by omega)]
  rw [sel]
  by_cases zv : 10021 ≤ tTk n β s.1 ∧ tTk n β s.1 ≤ 10023
  case neg =>
    right
    obtain ⟨g2, e2, x2, b2', w2⟩ := M1.flb (show (0 : Int32) = nI 0 from rfl) M1.2.2.1 (by decide) (by omega)
    rw [if_pos rfl] at x2
    refine ⟨_, -1, g2, fun h => absurd h zv, fun h => absurd h zv, fun _ => rfl, ?_, x2, by omega, BGk.mk (b1.tr b2') (w2.trans w1)⟩
    unfold p265_j55
    rw [if_neg zv, if_pos rfl, e2, ob]
  case pos =>
    have lt : s.1 < tMx n β := lt_m hTm hs (by omega)
    obtain ⟨hk1, hk2⟩ := kdO_c zv
    have nm : ¬ nI (kdO (tTk n β s.1)) = -1 := fun y => by have := m1_nI (n := kdO (tTk n β s.1)) (by omega); rw [this] at y; exact y
    rw [if_pos zv]
    unfold p265_j55
    rw [if_neg nm, A1.2.2.2.1, nI_clamp (by omega), if_neg (nI_in' hl (by decide)), f128]
    by_cases z12 : cc = 12
    · right
      obtain ⟨g2, e2, x2, b2', w2⟩ := M1.flb (show (4 : Int32) = nI 4 from rfl) M1.2.2.1 (by decide) (by omega)
      rw [if_pos rfl] at x2
      rw [if_pos (show nI cc = 12 by rw [z12]; rfl), e2, ob]
      exact ⟨_, -1, g2, fun _ _ => rfl, fun _ h => absurd z12 h, fun h => absurd zv h, rfl, x2, by omega, BGk.mk (b1.tr b2') (w2.trans w1)⟩
    · rw [if_neg (show ¬ nI cc = 12 from fun y => z12 ((nI_eq (b := 12) (by omega) (by decide)).mp y))]
      obtain ⟨zq, te⟩ := nxw (n := n) (β := β) (i := s.1) (k := 11 + kdO (tTk n β s.1)) (by omega) (by omega)
      obtain ⟨n1, n2⟩ := nxt (n := n) (β := β) zq
      rw [te] at n1 n2
      have M2 := (M1.po (p' := wEd n β (tPl n β s.1)) (i' := s.1 + 1) ⟨n1, n2⟩).self
      have b2' : BGf g1 (hsI g1 86 53 (nI (wEd n β (tPl n β s.1)))) := BGf.pw (by decide)
      have w2 : hI (hsI g1 86 53 (nI (wEd n β (tPl n β s.1)))) 130 = hI g1 130 := hsI_n (by decide)
      by_cases k2 : kdO (tTk n β s.1) = 2
      · left
        rw [k2, if_pos (show nI 2 = 2 from rfl)]
        refine ⟨2, 0, (s.1 + 1, s.2.1, s.2.2), _, wEd n β (tPl n β s.1), rfl, zv, rfl, z12, rfl, M2, b1.tr b2', fun h => absurd h (by decide), fun j _ => ?_⟩
        rw [w2, w1]
      · rw [if_neg (show ¬ nI (kdO (tTk n β s.1)) = 2 from fun y => k2 ((nI_eq (b := 2) (by omega) (by decide)).mp y))]
        have A2 := b2'.am A1
        obtain ⟨g3, e3, M3, e543, b3, w3⟩ := M2.blb A2 hF
        have A3 := b3.am A2
        have M3 : MC n β l g3 g3 (tPl n β (s.1 + 1)) S (s.1 + 1, s.2.1, s.2.2) d 0 := M3
        have e543 : hI g3 86 54 = nI (tPl n β (s.1 + 1)) := e543
        have hq3 := (tPl_b (n := n) (β := β) (s.1 + 1)).1
        have ew3 := weE (F := F) A3.2.1 hF hq3 M3.2.2.1
        have b123 : BGf g g3 := (b1.tr b2').tr b3
        have w123 : hI g3 130 = hI g 130 := w3.trans (w2.trans w1)
        rw [e3, ob, ew3, ob]
        unfold aHd
        rw [if_neg k2]
        -- the worth is written, then the word if
        have wIf : ∀ (g4 : HS) (p4 e4 x : Nat) (q : PST), MC n β l g4 g4 p4 S q d e4 → BGf g g4 → hI g4 130 = hI g 130 → ∀ v3, ((e4 = 0 ∧ tTk n β q.1 = 10027 ∧ ∃ g' p', p265_j236 F (nI k0) (hsI g4 130 k0 (nI x)) v3 = some (v3, g') ∧ MC n β l g' g' p' S (q.1 + 1, q.2.1, q.2.2) d 0 ∧ BGf g g' ∧ hI g' 130 k0 = nI x ∧ ∀ j, ¬ j = k0 → hI g' 130 j = hI g 130 j) ∨ ((¬ e4 = 0 ∨ ¬ tTk n β q.1 = 10027) ∧ ∃ y g', p265_j236 F (nI k0) (hsI g4 130 k0 (nI x)) v3 = some (y, g') ∧ hI g' 86 55 = nI (if e4 = 0 then 1 + 8 * tPl n β q.1 + 0 else e4) ∧ BGk k0 g g')) := by
          intro g4 p4 e4 x q M4 b4 w4 v3
          have M5 := M4.wr (a := 130) (k := k0) (v := nI x) (by decide)
          have b5 : BGf g (hsI g4 130 k0 (nI x)) := ⟨b4.1.sI (Or.inl (by decide)), by rw [hsI_n (by decide)]; exact b4.2.1, by rw [hsI_n (by decide)]; exact b4.2.2⟩
          obtain ⟨i1, i2⟩ := ifM (F := F) (a0 := nI k0) (b5.am A) hF M5 v3
          by_cases zz : e4 = 0 ∧ tTk n β q.1 = 10027
          · left
            obtain ⟨g', p', y1, y2, y3, y4⟩ := i1 zz.1 zz.2
            refine ⟨zz.1, zz.2, g', p', y1, y2, b5.tr y3, by rw [y4]; exact hsI_s _ _ _ _, fun j hj => ?_⟩
            rw [y4, hsI_k hj, w4]
          · right
            have zz2 : ¬ e4 = 0 ∨ ¬ tTk n β q.1 = 10027 := by
              by_cases a : e4 = 0
              · exact Or.inr (fun b => zz ⟨a, b⟩)
              · exact Or.inl a
            obtain ⟨y, g', y1, y2, y3, y4⟩ := i2 zz2
            exact ⟨zz2, y, g', y1, y2, b5.tr y3, fun j hj => by rw [y4, hsI_k hj, w4]⟩
        by_cases k0' : kdO (tTk n β s.1) = 0
        · rw [k0', if_pos (show nI 0 = 0 from rfl), if_pos rfl]
          have el : p249 F g3 (some 6) (nI (wEd n β (tPl n β (s.1 + 1)))) = some (b2 (decide (tTk n β (s.1 + 1) = 10024))) := wsE (F := F) A3.2.1 A3.2.2.1 hF M3.2.2.1 (show 14 < 21 by decide)
          have eb : p249 F g3 (some 7) (nI (wEd n β (tPl n β (s.1 + 1)))) = some (b2 (decide (tTk n β (s.1 + 1) = 10025))) := wsE (F := F) A3.2.1 A3.2.2.1 hF M3.2.2.1 (show 15 < 21 by decide)
          have ea : p249 F g3 (some 8) (nI (wEd n β (tPl n β (s.1 + 1)))) = some (b2 (decide (tTk n β (s.1 + 1) = 10026))) := wsE (F := F) A3.2.1 A3.2.2.1 hF M3.2.2.1 (show 16 < 21 by decide)
          have good : ∀ v, v ≤ 2 → tTk n β (s.1 + 1) = 10024 + v → (∃ kd x s1 g' p', Sum.elim (fun e => Sum.inl e) (fun y => Sum.elim (fun e => Sum.inl e) (fun r => Sum.inr (r, y.2)) (aIf (tTk n β) (tPl n β) y.1)) (Sum.inr (((s.1 + 1 + 1, s.2.1, s.2.2), v) : PST × Nat) : Sum Nat (PST × Nat)) = (Sum.inr (s1, x) : Sum Nat (PST × Nat)) ∧ kd = 0 ∧ p265_j168 F (nI k0) g3 (nI (wEd n β (tPl n β (s.1 + 1)))) 0 (nI v) = some (nI kd, g') ∧ MC n β l g' g' p' S s1 d 0 ∧ BGf g g' ∧ (kd < 2 → hI g' 130 k0 = nI x) ∧ ∀ j, ¬ j = k0 → hI g' 130 j = hI g 130 j) ∨ ∃ e x g', Sum.elim (fun e => Sum.inl e) (fun y => Sum.elim (fun e => Sum.inl e) (fun r => Sum.inr (r, y.2)) (aIf (tTk n β) (tPl n β) y.1)) (Sum.inr (((s.1 + 1 + 1, s.2.1, s.2.2), v) : PST × Nat) : Sum Nat (PST × Nat)) = (Sum.inl e : Sum Nat (PST × Nat)) ∧ p265_j168 F (nI k0) g3 (nI (wEd n β (tPl n β (s.1 + 1)))) 0 (nI v) = some (x, g') ∧ hI g' 86 55 = nI e ∧ (0 < e ∧ e < 100000) ∧ BGk k0 g g' := by
            intro v hv hT
            obtain ⟨zq3, te3⟩ := nxw (n := n) (β := β) (i := s.1 + 1) (k := 14 + v) (by omega) (by omega)
            obtain ⟨n31, n32⟩ := nxt (n := n) (β := β) zq3
            rw [te3] at n31 n32
            have M4 := (M3.po (p' := wEd n β (tPl n β (s.1 + 1))) (i' := s.1 + 1 + 1) ⟨n31, n32⟩).self
            have b4 : BGf g (hsI g3 86 53 (nI (wEd n β (tPl n β (s.1 + 1))))) := b123.tr (BGf.pw (by decide))
            have w4 : hI (hsI g3 86 53 (nI (wEd n β (tPl n β (s.1 + 1))))) 130 = hI g 130 := by rw [hsI_n (by decide)]; exact w123
            have ee : p265_j168 F (nI k0) g3 (nI (wEd n β (tPl n β (s.1 + 1)))) 0 (nI v) = p265_j236 F (nI k0) (hsI (hsI g3 86 53 (nI (wEd n β (tPl n β (s.1 + 1))))) 130 k0 (nI v)) 0 := by
              unfold p265_j168
              rw [if_neg (show ¬ nI v = -1 from fun y => by have := m1_nI (n := v) (by omega); rw [this] at y; exact y), nI_clamp (by omega), if_neg (nI_in' hk0 (by decide)), hsI_c (by decide)]
            rw [ee, Sum.elim_inr]
            have hq4 := (tPl_b (n := n) (β := β) (s.1 + 1 + 1)).1
            rcases wIf _ _ 0 v (s.1 + 1 + 1, s.2.1, s.2.2) M4 b4 w4 0 with ⟨-, y0, g', p', y1, y2, y3, y4, y5⟩ | ⟨y0, y, g', y1, y2, y3⟩
            · left
              unfold aIf
              rw [if_pos y0]
              exact ⟨0, v, _, g', p', rfl, rfl, y1, y2, y3, fun _ => y4, y5⟩
            · right
              unfold aIf
              rw [if_neg (y0.resolve_left (fun z => z rfl))]
              rw [if_pos rfl] at y2
              exact ⟨_, y, g', rfl, y1, y2, by show 0 < 1 + 8 * tPl n β (s.1 + 1 + 1) + 0 ∧ 1 + 8 * tPl n β (s.1 + 1 + 1) + 0 < 100000; omega, y3⟩
          have fin : ∀ v, v ≤ 2 → tTk n β (s.1 + 1) = 10024 + v → aVb (tTk n β) (tPl n β) (s.1 + 1, s.2.1, s.2.2) = Sum.inr ((s.1 + 1 + 1, s.2.1, s.2.2), v) := by
            intro v hv hT
            unfold aVb
            rcases (show v = 0 ∨ v = 1 ∨ v = 2 by omega) with rfl | rfl | rfl
            · rw [if_pos (show tTk n β (s.1 + 1) = 10024 from hT)]
            · rw [if_neg (show ¬ tTk n β (s.1 + 1) = 10024 by omega), if_pos (show tTk n β (s.1 + 1) = 10025 from hT)]
            · rw [if_neg (show ¬ tTk n β (s.1 + 1) = 10024 by omega), if_neg (show ¬ tTk n β (s.1 + 1) = 10025 by omega), if_pos (show tTk n β (s.1 + 1) = 10026 from hT)]
          have close : ∀ v, v ≤ 2 → tTk n β (s.1 + 1) = 10024 + v → (∃ kd x s1 g' p', aHd (tTk n β) (tPl n β) kd (s.1 + 1, s.2.1, s.2.2) = Sum.inr (s1, x) ∧ (10021 ≤ tTk n β s.1 ∧ tTk n β s.1 ≤ 10023) ∧ kd = 0 ∧ ¬ cc = 12 ∧ p265_j168 F (nI k0) g3 (nI (wEd n β (tPl n β (s.1 + 1)))) 0 (nI v) = some (nI kd, g') ∧ MC n β l g' g' p' S s1 d 0 ∧ BGf g g' ∧ (kd < 2 → hI g' 130 k0 = nI x) ∧ ∀ j, ¬ j = k0 → hI g' 130 j = hI g 130 j) ∨ ∃ e x g', ((10021 ≤ tTk n β s.1 ∧ tTk n β s.1 ≤ 10023) → cc = 12 → e = 1 + 8 * tPl n β s.1 + 4) ∧ ((10021 ≤ tTk n β s.1 ∧ tTk n β s.1 ≤ 10023) → ¬ cc = 12 → Sum.elim (fun e => Sum.inl e) (fun y => Sum.elim (fun e => Sum.inl e) (fun r => Sum.inr (r, y.2)) (aIf (tTk n β) (tPl n β) y.1)) (aVb (tTk n β) (tPl n β) (s.1 + 1, s.2.1, s.2.2)) = (Sum.inl e : Sum Nat (PST × Nat))) ∧ (¬ (10021 ≤ tTk n β s.1 ∧ tTk n β s.1 ≤ 10023) → e = 1 + 8 * tPl n β s.1 + 0) ∧ p265_j168 F (nI k0) g3 (nI (wEd n β (tPl n β (s.1 + 1)))) 0 (nI v) = some (x, g') ∧ hI g' 86 55 = nI e ∧ (0 < e ∧ e < 100000) ∧ BGk k0 g g' := by
            intro v hv hT
            have ef := fin v hv hT
            rcases good v hv hT with ⟨kd, x, s1, g', p', y1, y2, y3, y4, y5, y6, y7⟩ | ⟨e, x, g', y1, y2, y3, y4, y5⟩
            · left
              subst y2
              refine ⟨0, x, s1, g', p', ?_, zv, rfl, z12, y3, y4, y5, y6, y7⟩
              unfold aHd
              rw [if_neg (show ¬ (0 : Nat) = 2 by decide), if_pos rfl, ef]
              exact y1
            · right
              exact ⟨e, x, g', fun _ h => absurd h z12, fun _ _ => by rw [ef]; exact y1, fun h => absurd zv h, y2, y3, y4, y5⟩
          rw [el, ob, b2_if]
          by_cases c0 : tTk n β (s.1 + 1) = 10024
          · rw [decide_eq_true c0, if_pos rfl]
            exact close 0 (by decide) c0
          · rw [decide_eq_false c0, if_neg (show ¬ false = true by decide), eb, ob, b2_if]
            by_cases c1 : tTk n β (s.1 + 1) = 10025
            · rw [decide_eq_true c1, if_pos rfl]
              exact close 1 (by decide) c1
            · rw [decide_eq_false c1, if_neg (show ¬ false = true by decide), ea, ob, b2_if]
              by_cases c2 : tTk n β (s.1 + 1) = 10026
              · rw [decide_eq_true c2, if_pos rfl]
                exact close 2 (by decide) c2
              · right
                obtain ⟨g4, e4, x4, b4, w4⟩ := M3.flb (show (0 : Int32) = nI 0 from rfl) M3.2.2.1 (by decide) (by omega)
                rw [if_pos rfl] at x4
                unfold p265_j168 aVb
                rw [decide_eq_false c2, if_neg (show ¬ false = true by decide), if_pos rfl, e4, ob]
                refine ⟨_, -1, g4, fun _ h => absurd h z12, fun _ _ => ?_, fun h => absurd zv h, rfl, x4, by omega, BGk.mk (b123.tr b4) (w4.trans w123)⟩
                rw [if_neg c0, if_neg c1, if_neg c2]
                rfl
        · have k1' : kdO (tTk n β s.1) = 1 := by omega
          have es3 := sgE A3.2.1 hq3 M3.2.2.1
          rw [k1', if_neg (show ¬ nI 1 = 0 by decide), if_neg (show ¬ (1 : Nat) = 0 by decide), es3, ob]
          have nd : ∃ b, p247 g3 (sgB n β (tPl n β (s.1 + 1))) = some (b2 b) ∧ (b = true ↔ tTk n β (s.1 + 1) ≤ 10000) ∧ (b = true → tPl n β (s.1 + 1) < n ∧ isD (β (tPl n β (s.1 + 1))) = true) := by
            by_cases zq3 : tPl n β (s.1 + 1) < n
            · have esb : sgB n β (tPl n β (s.1 + 1)) = sb (β (tPl n β (s.1 + 1))) := if_pos zq3
              refine ⟨isD (β (tPl n β (s.1 + 1))), by rw [esb]; exact isDM g3 (A3.2.1.2.2 _ zq3).1, ?_, fun h => ⟨zq3, h⟩⟩
              unfold tTk
              rw [if_pos zq3]
              rcases tkn_c (β := β) zq3 with ⟨a, b, -⟩ | ⟨a, a2, -, b, -⟩ | ⟨a, a2, b, -⟩
              · rw [a]; exact ⟨fun _ => b, fun _ => rfl⟩
              · rw [a]; exact ⟨fun h => absurd h (by decide), fun h => by omega⟩
              · rw [a, b]
                have := sgT_r (β (tPl n β (s.1 + 1))) (decide (tEn n β (tPl n β (s.1 + 1)) = tPl n β (s.1 + 1) + 2))
                exact ⟨fun h => absurd h (by decide), fun h => by omega⟩
            · have esb : sgB n β (tPl n β (s.1 + 1)) = -1 := if_neg zq3
              refine ⟨false, by rw [esb]; rfl, ?_, fun h => absurd h (by decide)⟩
              unfold tTk
              rw [if_neg zq3]
              exact ⟨fun h => absurd h (by decide), fun h => by omega⟩
          obtain ⟨b, nd1, nd2, nd3⟩ := nd
          rw [nd1, ob, b2_if]
          unfold aNd
          cases hb : b
          · right
            have hgt : 10000 < tTk n β (s.1 + 1) := by
              rcases Nat.lt_or_ge 10000 (tTk n β (s.1 + 1)) with y | y
              · exact y
              · have := nd2.mpr y; rw [hb] at this; cases this
            obtain ⟨g4, e4, x4, b4, w4⟩ := M3.flb (show (0 : Int32) = nI 0 from rfl) M3.2.2.1 (by decide) (by omega)
            rw [if_pos rfl] at x4
            rw [if_neg (show ¬ false = true by decide), e4, ob]
            refine ⟨_, -1, g4, fun _ h => absurd h z12, fun _ _ => ?_, fun h => absurd zv h, rfl, x4, by omega, BGk.mk (b123.tr b4) (w4.trans w123)⟩
            rw [if_pos hgt]
            rfl
          · have hle := nd2.mp hb
            obtain ⟨zq3, hd3⟩ := nd3 hb
            obtain ⟨v, g4, e4, v1, v2, M4⟩ := MC.nu (F := F) (most := 99) (s := (s.1 + 1, s.2.1, s.2.2)) A3 hF (by decide) M3 zq3 hd3 e543
            have f4 := M4.1.1
            have hg4 := nuF_fr e4
            have b4 : BGf g g4 := b123.tr ⟨f4.mo (by decide) (by decide) (fun _ z => z) nD160, (hg4 A3.1).1, (hg4 A3.1).2⟩
            have w4 : hI g4 130 = hI g 130 := (f4.fA A3.1 130 (by decide)).trans w123
            rw [if_pos rfl, show p251 F g3 99 = _ from e4, ob]
            show (∃ kd x s1 g' p', aHd (tTk n β) (tPl n β) kd (s.1 + 1, s.2.1, s.2.2) = Sum.inr (s1, x) ∧ (10021 ≤ tTk n β s.1 ∧ tTk n β s.1 ≤ 10023) ∧ kd = 1 ∧ ¬ cc = 12 ∧ (if nI k0 < 0 ∨ 240 ≤ (nI k0).toNatClampNeg then none else p265_j236 F (nI k0) (hsI g4 130 (nI k0).toNatClampNeg (nI v)) (nI 1)) = some (nI kd, g') ∧ _) ∨ ∃ e x g', _ ∧ _ ∧ _ ∧ (if nI k0 < 0 ∨ 240 ≤ (nI k0).toNatClampNeg then none else p265_j236 F (nI k0) (hsI g4 130 (nI k0).toNatClampNeg (nI v)) (nI 1)) = some (x, g') ∧ _
            rw [nI_clamp (by omega), if_neg (nI_in' hk0 (by decide))]
            have hq4 := (tPl_b (n := n) (β := β) (s.1 + 1 + 1)).1
            have M4 : MC n β l g4 g4 (tEn n β (tPl n β (s.1 + 1))) S (s.1 + 1 + 1, s.2.1, s.2.2) d (if tTk n β (s.1 + 1) = 10000 ∨ 99 < v then (if 0 = 0 then 1 + 8 * tPl n β (s.1 + 1) + 1 else 0) else 0) := M4.self
            have v2 : tTk n β (s.1 + 1) < 10000 → v = tTk n β (s.1 + 1) := v2
            by_cases bad : tTk n β (s.1 + 1) = 10000 ∨ 99 < v
            · right
              rw [if_pos bad, if_pos rfl] at M4
              have h99 : 99 < tTk n β (s.1 + 1) := by
                rcases bad with y | y
                · omega
                · rcases Nat.lt_or_ge (tTk n β (s.1 + 1)) 10000 with x | x
                  · rw [← v2 x]; exact y
                  · omega
              rcases wIf g4 _ _ v (s.1 + 1 + 1, s.2.1, s.2.2) M4 b4 w4 (nI 1) with ⟨y0, -⟩ | ⟨y0, y, g', y1, y2, y3⟩
              · exact absurd y0 (by omega)
              · rw [if_neg (show ¬ 1 + 8 * tPl n β (s.1 + 1) + 1 = 0 by omega)] at y2
                refine ⟨_, y, g', fun _ h => absurd h z12, fun _ _ => ?_, fun h => absurd zv h, y1, y2, by omega, y3⟩
                rw [if_neg (show ¬ 10000 < tTk n β (s.1 + 1) by omega), if_pos h99]
                rfl
            · rw [if_neg bad] at M4
              have hlt : tTk n β (s.1 + 1) < 10000 := by
                rcases Nat.lt_or_ge (tTk n β (s.1 + 1)) 10000 with x | x
                · exact x
                · exact absurd (Or.inl (by omega)) bad
              have h99 : ¬ 99 < tTk n β (s.1 + 1) := fun y => bad (Or.inr (by rw [v2 hlt]; exact y))
              have ea : ∀ X : Sum Nat (PST × Nat), (if 10000 < tTk n β (s.1 + 1) then Sum.inl (1 + 8 * tPl n β (s.1 + 1) + 0) else if 99 < tTk n β (s.1 + 1) then Sum.inl (1 + 8 * tPl n β (s.1 + 1) + 1) else X) = X := fun X => by rw [if_neg (by omega), if_neg h99]
              rcases wIf g4 _ _ v (s.1 + 1 + 1, s.2.1, s.2.2) M4 b4 w4 (nI 1) with ⟨-, y0, g', p', y1, y2, y3, y4, y5⟩ | ⟨y0, y, g', y1, y2, y3⟩
              · left
                refine ⟨1, v, _, g', p', ?_, zv, rfl, z12, y1, y2, y3, fun _ => y4, y5⟩
                unfold aHd aNd aIf
                rw [if_neg (show ¬ (1 : Nat) = 2 by decide), if_neg (show ¬ (1 : Nat) = 0 by decide), ea, Sum.elim_inr, if_pos y0, Sum.elim_inr, v2 hlt]
              · right
                rw [if_pos rfl] at y2
                refine ⟨_, y, g', fun _ h => absurd h z12, fun _ _ => ?_, fun h => absurd zv h, y1, y2, by show 0 < 1 + 8 * tPl n β (s.1 + 1 + 1) + 0 ∧ 1 + 8 * tPl n β (s.1 + 1 + 1) + 0 < 100000; omega, y3⟩
                unfold aIf
                rw [ea, Sum.elim_inr, if_neg (y0.resolve_left (fun z => z rfl))]
                rfl
end MBG
