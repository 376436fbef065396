/-! a law's text: the model's four readers -/
section MRD
variable {n : Nat} {β : Nat → Nat} {l : Nat} {g0 g : HS} {p : Nat} {S : List Nat} {s : PST} {d e F : Nat}
theorem p250E : ∀ k, k < 11 → ∀ h, p250 h (nI k) = some (some (wid k)) := by
  intro k hk h
  rcases (show k = 0 ∨ k = 1 ∨ k = 2 ∨ k = 3 ∨ k = 4 ∨ k = 5 ∨ k = 6 ∨ k = 7 ∨ k = 8 ∨ k = 9 ∨ k = 10 by omega) with rfl | rfl | rfl | rfl | rfl | rfl | rfl | rfl | rfl | rfl | rfl <;> rfl
def wX (t : Nat) : Nat := fsN (fun j => decide (t = 10010 + j)) 11
theorem wX_c (t : Nat) : (10010 ≤ t ∧ t < 10021 → t = 10010 + wX t ∧ wX t < 11) ∧ (¬ (10010 ≤ t ∧ t < 10021) → wX t = 11) := by
  obtain ⟨s1, s2⟩ := fsN_spec (P := fun j => decide (t = 10010 + j)) (n := 11)
  refine ⟨fun h => ?_, fun h => ?_⟩
  · obtain ⟨k, rfl⟩ : ∃ k, t = 10010 + k := ⟨t - 10010, by omega⟩
    have : wX (10010 + k) = k := fsN_first (show k < 11 by omega) (decide_eq_true rfl) (fun j hj => decide_eq_false (by omega))
    rw [this]
    exact ⟨rfl, by omega⟩
  · exact fsN_none (fun j hj => decide_eq_false (by omega))
theorem whM_x {t : Nat} (h : 10010 ≤ t ∧ t < 10021) : whM t = wX t := by
  obtain ⟨x1, x2⟩ := (wX_c t).1 h
  unfold whM
  rw [if_neg (by omega)]
  exact Nat.sub_eq_of_eq_add' x1
theorem wdL (A : AM g0 n β l) (hF : 1000 ≤ F) (M : MC n β l g0 g (tPl n β s.1) S s d e) (v1 : Int32) : ∀ (dd k f : Nat), k + dd = 11 → dd < f → (∀ j, j < k → ¬ tTk n β s.1 = 10010 + j) → p259_L84 F f g v1 (nI (wEd n β (tPl n β s.1))) (nI k) = p259_j110 F g v1 (nI (wEd n β (tPl n β s.1))) (nI (wX (tTk n β s.1))) := by
  obtain ⟨w, mh, st, -⟩ := M.am A
  intro dd
  induction dd with
  | zero =>
    intro k f hk hf hn
    obtain ⟨f, rfl⟩ : ∃ f', f = f' + 1 := ⟨f - 1, by omega⟩
    have : k = 11 := by omega
    subst this
    have ex : wX (tTk n β s.1) = 11 := (wX_c _).2 (fun z => by
      obtain ⟨a, b⟩ := (wX_c _).1 z
      exact hn _ b a)
    rw [p259_L84, if_neg (show ¬ nI 11 < 11 by decide), ex]
  | succ dd ih =>
    intro k f hk hf hn
    obtain ⟨f, rfl⟩ : ∃ f', f = f' + 1 := ⟨f - 1, by omega⟩
    rw [p259_L84, if_pos (show nI k < 11 from nI_lt (b := 11) (by omega) (by decide)), p250E k (by omega), ob, wsE (F := F) mh st hF M.2.2.1 (show k < 21 by omega), ob, b2_if]
    by_cases z : tTk n β s.1 = 10010 + k
    · have ex : wX (tTk n β s.1) = k := fsN_first (show k < 11 by omega) (decide_eq_true z) (fun j hj => decide_eq_false (hn j hj))
      rw [decide_eq_true z, if_pos rfl, ex]
    · rw [decide_eq_false z, if_neg (by decide), nI_1]
      exact ih (k + 1) f (by omega) (by omega) (fun j hj => by
        by_cases y : j = k
        · subst y; exact z
        · exact hn j (by omega))
/-- value -/
theorem vaM (A : AM g0 n β l) (hF : 1000 ≤ F) (M : MC n β l g0 g p S s d 0) (hs : s.1 ≤ tMx n β) (hl : s.2.2.length + S.length ≤ s.1) (hc : s.2.1 ≤ 80) (hd : d ≤ 10) : (isPl (tTk n β s.1) = true → ∃ g' p', p259 F g = some (1, g') ∧ MC n β l g0 g' p' S (s.1 + 1, s.2.1 + 1, s.2.2 ++ [tTk n β s.1]) d (if s.2.1 = 80 then 1 + 8 * tPl n β s.1 + 3 else 0)) ∧ (tTk n β s.1 = 10041 → ∃ g' p', p259 F g = some (0, g') ∧ MC n β l g0 g' p' (S ++ [15]) (s.1 + 1, s.2.1 + 1, s.2.2) (d + 1) (if d = 10 then 1 + 8 * tPl n β s.1 + 2 else if s.2.1 = 80 then 1 + 8 * tPl n β s.1 + 3 else 0)) ∧ (isPl (tTk n β s.1) = false → ¬ tTk n β s.1 = 10041 → ∃ g' p' S' s' d', p259 F g = some (1, g') ∧ MC n β l g0 g' p' S' s' d' (1 + 8 * tPl n β s.1 + (if tTk n β s.1 = 10000 then 1 else 0))) := by
  obtain ⟨w0, mh0, -, -⟩ := M.am A
  have hn := mh0.1
  have hmx := tMx_b (n := n) (β := β) hn
  have hmx2 : tMx n β ≤ 400 := by omega
  have lm := lt_m (tTk_m (n := n) (β := β) hn) hs
  obtain ⟨g1, e1, M1, e54⟩ := M.bl A hF
  obtain ⟨w, mh, st, -⟩ := M1.am A
  have hq := (tPl_b (n := n) (β := β) s.1).1
  have e53 := M1.2.2.1
  have es := sgE mh hq e53
  have i40 := sg_iff (fun j hj => (mh.2.2 j hj).1) (c := 40) (t := 10041) (i := s.1) (by decide)
  have q400 : tPl n β s.1 ≤ 400 := by omega
  refine ⟨fun h => ?_, fun h => ?_, fun h1 h2 => ?_⟩
  · have pc := isPl_c h
    have lt := lm (by omega)
    have n40 : ¬ sgB n β (tPl n β s.1) = 40 := fun z => by have := i40.mp z; omega
    have zq : tPl n β s.1 < n := hmx.2.2 _ lt
    have esb : sgB n β (tPl n β s.1) = sb (β (tPl n β s.1)) := if_pos zq
    have et : tTk n β s.1 = tkn n β (tPl n β s.1) := by unfold tTk; rw [if_pos zq]
    unfold p259
    rw [e1, ob, es, ob, if_neg n40, esb, isDM g1 (mh.2.2 _ zq).1, ob, e53]
    rcases tkn_c (β := β) zq with ⟨a, b, -⟩ | ⟨a, a2, te, b, -⟩ | ⟨a, a2, b, -⟩
    · rw [a, if_neg (show ¬ b2 true = 0 by decide)]
      have t1 : tTk n β s.1 < 10000 := by
        rcases pc with y | y
        · exact y
        · rw [et] at y; omega
      obtain ⟨v, g2, e2, v1, v2, M2⟩ := MC.nu (F := F) (most := 9999) A hF (by decide) M1 zq a e54
      rw [if_neg (show ¬ (tTk n β s.1 = 10000 ∨ 9999 < v) by omega)] at M2
      obtain ⟨g3, e3, M3⟩ := M2.ct (y := nI (tPl n β s.1)) rfl q400 (by show s.2.1 < 1000; omega)
      obtain ⟨g4, e4, M4⟩ := M3.em A (x := 0) (y := nI v) (t := tTk n β s.1) (by unfold opM; rw [if_pos t1]; rfl) (fun _ => by unfold whM; rw [if_pos t1, v2 t1]) (by show s.2.2.length < 400; omega)
      rw [show p251 F g1 9999 = _ from e2, ob]
      show ∃ g' p', (Option.bind (p258 g2 (nI (tPl n β s.1))) fun r19 => Option.bind (p252 r19 0 (nI v)) fun r21 => some (1, r21)) = some (1, g') ∧ _
      rw [e3, ob, e4, ob]
      refine ⟨g4, tEn n β (tPl n β s.1), rfl, ?_⟩
      rw [if_pos rfl] at M4
      exact M4
    · rw [a, if_pos (show b2 false = 0 from rfl), weE (F := F) mh hF hq e53, ob]
      have t1 : 10010 ≤ tTk n β s.1 ∧ tTk n β s.1 < 10021 := by
        rcases pc with y | y
        · rw [et] at y; omega
        · exact y
      obtain ⟨x1, x2⟩ := (wX_c (tTk n β s.1)).1 t1
      rw [show (0 : Int32) = nI 0 from rfl, wdL (F := F) A hF M1 (nI (tPl n β s.1)) 11 0 F rfl (by omega) (fun j z => by omega)]
      unfold p259_j110
      rw [if_neg (show ¬ nI (wX (tTk n β s.1)) = 11 from fun y => by have := (nI_eq (b := 11) (by omega) (by decide)).mp y; omega)]
      obtain ⟨g3, e3, M3⟩ := M1.ct (y := nI (tPl n β s.1)) rfl q400 (by omega)
      obtain ⟨n1, n2⟩ := nxt (n := n) (β := β) zq
      have te' : wEd n β (tPl n β s.1) = tEn n β (tPl n β s.1) := te.symm
      rw [e3, ob, te']
      obtain ⟨g4, e4, M4⟩ := (M3.po (p' := tEn n β (tPl n β s.1)) (i' := s.1 + 1) ⟨n1, n2⟩).em A (x := 1) (y := nI (wX (tTk n β s.1))) (t := tTk n β s.1) (by unfold opM; rw [if_neg (by omega), if_pos t1.2]; rfl) (fun _ => by rw [whM_x t1]) (by show s.2.2.length < 400; omega)
      rw [e4, ob]
      refine ⟨g4, tEn n β (tPl n β s.1), rfl, ?_⟩
      rw [if_pos rfl] at M4
      exact M4
    · have := sgT_r (β (tPl n β s.1)) (decide (tEn n β (tPl n β s.1) = tPl n β s.1 + 2))
      rw [← b, ← et] at this
      omega
  · have lt := lm (by omega)
    obtain ⟨zq, te⟩ := nx1 (c := 40) (by decide) h
    obtain ⟨n1, n2⟩ := nxt (n := n) (β := β) zq
    rw [te] at n1 n2
    obtain ⟨g2, e2, M2⟩ := M1.dp (y := nI (tPl n β s.1)) rfl q400 (by omega)
    obtain ⟨g3, e3, M3⟩ := M2.ct (y := nI (tPl n β s.1)) rfl q400 (by omega)
    obtain ⟨g4, e4, M4⟩ := M3.op A (show (15 : Int32) = nI 15 from rfl) (by omega)
    have e53' := M4.2.2.1
    unfold p259
    rw [e1, ob, es, ob, if_pos (show sgB n β (tPl n β s.1) = 40 from i40.mpr h), e53, e2, ob, e3, ob, e4, ob, e53', nI_1]
    refine ⟨_, tPl n β s.1 + 1, rfl, ?_⟩
    have := M4.po (p' := tPl n β s.1 + 1) (i' := s.1 + 1) ⟨n1, n2⟩
    have ee : (if s.2.1 = 80 then (if (if d = 10 then (if 0 = 0 then 1 + 8 * tPl n β s.1 + 2 else 0) else 0) = 0 then 1 + 8 * tPl n β s.1 + 3 else (if d = 10 then (if 0 = 0 then 1 + 8 * tPl n β s.1 + 2 else 0) else 0)) else (if d = 10 then (if 0 = 0 then 1 + 8 * tPl n β s.1 + 2 else 0) else 0)) = if d = 10 then 1 + 8 * tPl n β s.1 + 2 else if s.2.1 = 80 then 1 + 8 * tPl n β s.1 + 3 else 0 := by
      repeat' split
      all_goals omega
    rw [ee] at this
    exact this
  · have n40 : ¬ sgB n β (tPl n β s.1) = 40 := fun z => h2 (i40.mp z)
    unfold p259
    rw [e1, ob, es, ob, if_neg n40, e53]
    have bad : ∃ g' p' S' s' d', (Option.bind (p248 F g1) fun r15 => p259_L84 F F g1 (nI (tPl n β s.1)) r15 0) = some (1, g') ∧ (tTk n β s.1 = 10000 ∨ MC n β l g0 g' p' S' s' d' (1 + 8 * tPl n β s.1 + (if tTk n β s.1 = 10000 then 1 else 0))) := by
      rw [weE (F := F) mh hF hq e53, ob, show (0 : Int32) = nI 0 from rfl, wdL (F := F) A hF M1 (nI (tPl n β s.1)) 11 0 F rfl (by omega) (fun j z => by omega)]
      have x1 := (wX_c (tTk n β s.1)).2 (fun z => by
        unfold isPl at h1
        rw [decide_eq_true z.1, decide_eq_true z.2, Bool.and_self, Bool.or_true] at h1
        cases h1)
      unfold p259_j110
      rw [x1, if_pos (show nI 11 = 11 from rfl)]
      obtain ⟨g2, e2, M2⟩ := M1.fl (show (0 : Int32) = nI 0 from rfl) (y := nI (tPl n β s.1)) rfl (by decide) q400
      rw [e2, ob]
      refine ⟨g2, tPl n β s.1, S, s, d, rfl, ?_⟩
      by_cases y : tTk n β s.1 = 10000
      · exact Or.inl y
      · right
        rw [if_neg y]
        rw [if_pos rfl] at M2
        exact M2
    by_cases zq : tPl n β s.1 < n
    · have esb : sgB n β (tPl n β s.1) = sb (β (tPl n β s.1)) := if_pos zq
      have et : tTk n β s.1 = tkn n β (tPl n β s.1) := by unfold tTk; rw [if_pos zq]
      have lt : s.1 < tMx n β := lm (by
        rw [et]
        rcases tkn_c (β := β) zq with ⟨a, b, -⟩ | ⟨a, a2, -, b, -⟩ | ⟨a, a2, b, -⟩
        · omega
        · omega
        · rw [b]; have := sgT_r (β (tPl n β s.1)) (decide (tEn n β (tPl n β s.1) = tPl n β s.1 + 2)); omega)
      rw [esb, isDM g1 (mh.2.2 _ zq).1, ob]
      cases hd2 : isD (β (tPl n β s.1))
      · have n4 : ¬ tTk n β s.1 = 10000 := by
          rw [et]
          rcases tkn_c (β := β) zq with ⟨a, -⟩ | ⟨a, a2, -, b, -⟩ | ⟨a, a2, b, -⟩
          · rw [hd2] at a; cases a
          · omega
          · rw [b]; have := sgT_r (β (tPl n β s.1)) (decide (tEn n β (tPl n β s.1) = tPl n β s.1 + 2)); omega
        rw [if_pos (show b2 false = 0 from rfl)]
        obtain ⟨g', p', S', s', d', y1, y2⟩ := bad
        exact ⟨g', p', S', s', d', y1, y2.resolve_left n4⟩
      · have t4 : tTk n β s.1 = 10000 := by
          rw [et]
          rcases tkn_c (β := β) zq with ⟨a, b, -⟩ | ⟨a, -⟩ | ⟨a, -⟩
          · have : ¬ tkn n β (tPl n β s.1) < 10000 := fun y => by
              unfold isPl at h1
              rw [et, decide_eq_true y] at h1
              cases h1
            omega
          · rw [hd2] at a; cases a
          · rw [hd2] at a; cases a
        rw [if_neg (show ¬ b2 true = 0 by decide)]
        obtain ⟨v, g2, e2, v1, v2, M2⟩ := MC.nu (F := F) (most := 9999) A hF (by decide) M1 zq hd2 e54
        rw [if_pos (Or.inl t4), if_pos rfl] at M2
        obtain ⟨g3, e3, M3⟩ := M2.ct (y := nI (tPl n β s.1)) rfl q400 (by show s.2.1 < 1000; omega)
        obtain ⟨g4, e4, M4⟩ := M3.em A (x := 0) (y := nI v) (t := v) (by unfold opM; rw [if_pos v1]; rfl) (fun _ => by unfold whM; rw [if_pos v1]) (by show s.2.2.length < 400; omega)
        rw [show p251 F g1 9999 = _ from e2, ob]
        show ∃ g' p' S' s' d', (Option.bind (p258 g2 (nI (tPl n β s.1))) fun r19 => Option.bind (p252 r19 0 (nI v)) fun r21 => some (1, r21)) = some (1, g') ∧ _
        rw [e3, ob, e4, ob]
        refine ⟨g4, tEn n β (tPl n β s.1), S, (s.1 + 1, s.2.1 + 1, s.2.2 ++ [v]), d, rfl, ?_⟩
        have ee : (if s.2.1 = 80 then (if 1 + 8 * tPl n β s.1 + 1 = 0 then 1 + 8 * tPl n β s.1 + 3 else 1 + 8 * tPl n β s.1 + 1) else 1 + 8 * tPl n β s.1 + 1) = 1 + 8 * tPl n β s.1 + 1 := by
          split
          · rw [if_neg (by omega)]
          · rfl
        rw [if_pos t4]
        have M4' := M4
        rw [show (if ((s.1 + 1, s.2.1, s.2.2) : PST).2.1 = 80 then (if 1 + 8 * tPl n β s.1 + 1 = 0 then 1 + 8 * tPl n β s.1 + 3 else 1 + 8 * tPl n β s.1 + 1) else 1 + 8 * tPl n β s.1 + 1) = 1 + 8 * tPl n β s.1 + 1 from ee] at M4'
        exact M4'
    · have esb : sgB n β (tPl n β s.1) = -1 := if_neg zq
      have et : tTk n β s.1 = 10002 := by unfold tTk; rw [if_neg zq]
      rw [esb, show p247 g1 (-1) = some 0 from rfl, ob, if_pos rfl]
      obtain ⟨g', p', S', s', d', y1, y2⟩ := bad
      exact ⟨g', p', S', s', d', y1, y2.resolve_left (by omega)⟩
def JS (J : List Nat) : Prop := J = [] ∨ ∃ j, J = [j] ∧ isPM j = true
def MS1 (M : List Nat) : Prop := M = [] ∨ M = [10047]
def btS (B : List Nat) : Prop := ¬ tp B = 5 ∧ ¬ tp B = 3 ∧ ¬ tp B = 4
theorem smsT (A : AM g0 n β l) (hF : 1000 ≤ F) {B J Mm : List Nat} (hJ : JS J) (hM : MS1 Mm) (hB : btS B) (M : MC n β l g0 g p (B ++ J.map opM ++ Mm.map opM) s d e) (hl : s.2.2.length + (B.length + J.length + Mm.length) ≤ s.1) (hs : s.1 < 400) : ∃ g', p257 F g 1 = some g' ∧ MC n β l g0 g' p (B ++ J.map opM) (s.1, s.2.1, s.2.2 ++ Mm) d e := by
  obtain ⟨F', hF'⟩ : ∃ F', F = F' + 2 := ⟨F - 2, by omega⟩
  have tJ : ¬ tp (B ++ J.map opM) = 5 := by
    rcases hJ with rfl | ⟨j, rfl, hj⟩
    · rw [List.map_nil, List.append_nil]; exact hB.1
    · show ¬ tp (B ++ [opM j]) = 5
      rw [tp_a]
      rcases isPM_c j hj with rfl | rfl <;> decide
  have lJ : (B ++ J.map opM).length = B.length + J.length := by rw [List.length_append, List.length_map]
  unfold p257
  rcases hM with rfl | rfl
  · rw [List.map_nil, List.append_nil] at M
    rw [List.append_nil, show p257_L0 F 1 F g = p257_L0 F 1 (F' + 1 + 1) g by rw [← hF']]
    exact ⟨g, smE A M (by rw [lJ]; simp at hl; omega) tJ (fun z => absurd z (by decide)), M⟩
  · have hl : s.2.2.length + (B.length + J.length + 1) ≤ s.1 := hl
    obtain ⟨g2, e2, M2⟩ := smP (F := F) (a0 := 1) (t := 10047) (f := F' + 1) (S := B ++ J.map opM) A (Or.inl rfl) M (by rw [lJ]; omega) (by omega)
    rw [show p257_L0 F 1 F g = p257_L0 F 1 (F' + 1 + 1) g by rw [← hF'], e2, smE A M2 (by rw [lJ]; omega) tJ (fun z => absurd z (by decide))]
    exact ⟨g2, rfl, M2⟩
theorem smsF (A : AM g0 n β l) (hF : 1000 ≤ F) {B J Mm : List Nat} (hJ : JS J) (hM : MS1 Mm) (hB : btS B) (M : MC n β l g0 g p (B ++ J.map opM ++ Mm.map opM) s d e) (hl : s.2.2.length + (B.length + J.length + Mm.length) ≤ s.1) (hs : s.1 ≤ 400) : ∃ g', p257 F g 0 = some g' ∧ MC n β l g0 g' p B (s.1, s.2.1, s.2.2 ++ Mm ++ J) d e := by
  obtain ⟨F', hF'⟩ : ∃ F', F = F' + 3 := ⟨F - 3, by omega⟩
  have lJ : (B ++ J.map opM).length = B.length + J.length := by rw [List.length_append, List.length_map]
  have step2 : ∀ (f : Nat) (g : HS) (s : PST), MC n β l g0 g p (B ++ J.map opM) s d e → s.2.2.length + (B.length + J.length) ≤ s.1 → s.1 ≤ 400 → ∃ g', p257_L0 F 0 (f + 2) g = some g' ∧ MC n β l g0 g' p B (s.1, s.2.1, s.2.2 ++ J) d e := by
    intro f g s M hl hs
    rcases hJ with rfl | ⟨j, rfl, hj⟩
    · rw [List.map_nil, List.append_nil] at M
      rw [List.append_nil]
      exact ⟨g, smE A M (by simp at hl; omega) hB.1 (fun _ => hB.2), M⟩
    · have hl : s.2.2.length + (B.length + 1) ≤ s.1 := hl
      obtain ⟨g2, e2, M2⟩ := smP (F := F) (a0 := 0) (t := j) (f := f + 1) (S := B) A (Or.inr ⟨rfl, isPM_c j hj⟩) M (by omega) (by omega)
      rw [e2, smE A M2 (by omega) hB.1 (fun _ => hB.2)]
      exact ⟨g2, rfl, M2⟩
  unfold p257
  rw [show p257_L0 F 0 F g = p257_L0 F 0 (F' + 1 + 2) g by rw [← hF']]
  rcases hM with rfl | rfl
  · rw [List.map_nil, List.append_nil] at M
    rw [List.append_nil]
    exact step2 (F' + 1) g s M (by simpa using hl) hs
  · have hl : s.2.2.length + (B.length + J.length + 1) ≤ s.1 := hl
    obtain ⟨g2, e2, M2⟩ := smP (F := F) (a0 := 0) (t := 10047) (f := F' + 2) (S := B ++ J.map opM) A (Or.inl rfl) M (by rw [lJ]; omega) (by omega)
    rw [show p257_L0 F 0 (F' + 1 + 2) g = p257_L0 F 0 (F' + 2 + 1) g from rfl, e2]
    exact step2 F' g2 _ M2 (by show (s.2.2 ++ [10047]).length + (B.length + J.length) ≤ s.1; rw [List.length_append]; show s.2.2.length + 1 + _ ≤ _; omega) hs
def hvR (F : Nat) (a0 : Int32) (r8 : HS) (r3 : Int32) : Option (Int32 × HS) := if (r3) = ((41) : Int32) then (Option.bind (p254 (r8) ) fun r11 => if (r11) = ((15) : Int32) then (Option.bind (some (hsI (hsI (r8) (86) 68 ((hI (r8) (86) 68) - (1))) (86) 56 ((hI (hsI (r8) (86) 68 ((hI (r8) (86) 68) - (1))) (86) 56) - (1)))) fun h14 => some (2, hsI (h14) (86) 53 ((hI (h14) (86) 53) + (1)))) else (p262_j131 F a0 (r8) (r3))) else (p262_j131 F a0 (r8) (r3))
/-- hasValue -/
theorem hvM (A : AM g0 n β l) (hF : 1000 ≤ F) (a0 : Int32) {B J Mm : List Nat} (hJ : JS J) (hM : MS1 Mm) (hB : btS B) (M : MC n β l g0 g p (B ++ J.map opM ++ Mm.map opM) s d 0) (hl : s.2.2.length + (B.length + J.length + Mm.length) ≤ s.1) (hs : s.1 ≤ tMx n β) : (tTk n β s.1 = 10047 → ∃ g' p', p262 F g a0 = some (1, g') ∧ MC n β l g0 g' p' (B ++ J.map opM ++ [5]) (s.1 + 1, s.2.1, s.2.2 ++ Mm) d 0) ∧ (isPM (tTk n β s.1) = true → ∃ g' p', p262 F g a0 = some (1, g') ∧ MC n β l g0 g' p' (B ++ [opM (tTk n β s.1)]) (s.1 + 1, s.2.1, s.2.2 ++ Mm ++ J) d 0) ∧ (¬ tTk n β s.1 = 10047 → isPM (tTk n β s.1) = false → ∃ g', p262 F g a0 = hvR F a0 g' (sgB n β (tPl n β s.1)) ∧ MC n β l g0 g' (tPl n β s.1) B (s.1, s.2.1, s.2.2 ++ Mm ++ J) d 0) := by
  obtain ⟨w0, mh0, -, -⟩ := M.am A
  have hn := mh0.1
  have hmx := tMx_b (n := n) (β := β) hn
  have lm := lt_m (tTk_m (n := n) (β := β) hn) hs
  obtain ⟨g1, e1, M1, e54⟩ := M.bl A hF
  obtain ⟨w, mh, st, -⟩ := M1.am A
  have hq := (tPl_b (n := n) (β := β) s.1).1
  have es := sgE mh hq M1.2.2.1
  have iff := fun c t (m : (c, t) ∈ sgPairs) => sg_iff (fun j hj => (mh.2.2 j hj).1) (c := c) (t := t) (i := s.1) m
  have i42 := iff 42 10047 (by decide)
  have i43 := iff 43 10045 (by decide)
  have i45 := iff 45 10046 (by decide)
  have lJ : (B ++ J.map opM).length = B.length + J.length := by rw [List.length_append, List.length_map]
  unfold p262
  rw [e1, ob, es, ob]
  refine ⟨fun h => ?_, fun h => ?_, fun h1 h2 => ?_⟩
  · have lt := lm (by omega)
    obtain ⟨zq, te⟩ := nx1 (c := 42) (by decide) h
    obtain ⟨n1, n2⟩ := nxt (n := n) (β := β) zq
    rw [te] at n1 n2
    have c42 : sgB n β (tPl n β s.1) = 42 := i42.mpr h
    obtain ⟨g2, e2, M2⟩ := smsT (F := F) A hF hJ hM hB M1 hl (by omega)
    obtain ⟨g3, e3, M3⟩ := M2.op A (show (5 : Int32) = nI 5 from rfl) (by rw [lJ]; omega)
    rw [if_pos c42]
    unfold p262_j27 p262_j39 p262_j64
    rw [if_pos c42, e2, ob, if_pos c42, e3, ob, M3.2.2.1, nI_1]
    exact ⟨_, tPl n β s.1 + 1, rfl, M3.po (p' := tPl n β s.1 + 1) (i' := s.1 + 1) ⟨n1, n2⟩⟩
  · have hc := isPM_c _ h
    have lt := lm (by omega)
    have n42 : ¬ sgB n β (tPl n β s.1) = 42 := fun z => by have := i42.mp z; omega
    obtain ⟨g2, e2, M2⟩ := smsF (F := F) A hF hJ hM hB M1 hl (by omega)
    rw [if_neg n42]
    rcases hc with hc | hc
    · obtain ⟨zq, te⟩ := nx1 (c := 43) (by decide) hc
      obtain ⟨n1, n2⟩ := nxt (n := n) (β := β) zq
      rw [te] at n1 n2
      have c43 : sgB n β (tPl n β s.1) = 43 := i43.mpr hc
      obtain ⟨g3, e3, M3⟩ := M2.op A (show (3 : Int32) = nI 3 from rfl) (by omega)
      rw [if_pos c43]
      unfold p262_j27 p262_j39 p262_j64
      rw [if_neg n42, e2, ob, if_neg n42, if_pos c43, e3, ob, M3.2.2.1, nI_1, hc]
      exact ⟨_, tPl n β s.1 + 1, rfl, M3.po (p' := tPl n β s.1 + 1) (i' := s.1 + 1) ⟨n1, n2⟩⟩
    · obtain ⟨zq, te⟩ := nx1 (c := 45) (by decide) hc
      obtain ⟨n1, n2⟩ := nxt (n := n) (β := β) zq
      rw [te] at n1 n2
      have c45 : sgB n β (tPl n β s.1) = 45 := i45.mpr hc
      have n43 : ¬ sgB n β (tPl n β s.1) = 43 := by rw [c45]; decide
      obtain ⟨g3, e3, M3⟩ := M2.op A (show (4 : Int32) = nI 4 from rfl) (by omega)
      rw [if_neg n43, if_pos c45]
      unfold p262_j27 p262_j39 p262_j64
      rw [if_neg n42, e2, ob, if_neg n42, if_neg n43, e3, ob, M3.2.2.1, nI_1, hc]
      exact ⟨_, tPl n β s.1 + 1, rfl, M3.po (p' := tPl n β s.1 + 1) (i' := s.1 + 1) ⟨n1, n2⟩⟩
  · have n42 : ¬ sgB n β (tPl n β s.1) = 42 := fun z => h1 (i42.mp z)
    have n43 : ¬ sgB n β (tPl n β s.1) = 43 := fun z => by have := i43.mp z; rw [this] at h2; exact absurd h2 (by decide)
    have n45 : ¬ sgB n β (tPl n β s.1) = 45 := fun z => by have := i45.mp z; rw [this] at h2; exact absurd h2 (by decide)
    obtain ⟨g2, e2, M2⟩ := smsF (F := F) A hF hJ hM hB M1 hl (by omega)
    rw [if_neg n42, if_neg n43, if_neg n45, e2, ob]
    exact ⟨g2, rfl, M2⟩
end MRD
