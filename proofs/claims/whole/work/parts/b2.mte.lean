/-! a law's text: the model reads tests and facts so -/
section MTE
variable {n : Nat} {β : Nat → Nat} {l : Nat} {g0 g : HS} {p : Nat} {S : List Nat} {s : PST} {d e F : Nat} {v1 v2 : Int32}
/-- wantsFact -/
theorem wfM (A : AM g0 n β l) (hF : 1000 ≤ F) (M : MC n β l g0 g p S s d 0) (hs : s.1 ≤ tMx n β) (hl : s.2.2.length + S.length ≤ s.1) (hd : d ≤ 10) : (tTk n β s.1 = 10030 → ∃ g' p', p261 F g = some (0, g') ∧ MC n β l g0 g' p' (S ++ [14]) (s.1 + 1, s.2.1, s.2.2) (d + 1) (if d = 10 then 1 + 8 * tPl n β s.1 + 2 else 0)) ∧ (tTk n β s.1 = 10043 → ∃ g' p', p261 F g = some (0, g') ∧ MC n β l g0 g' p' (S ++ [16]) (s.1 + 1, s.2.1, s.2.2) (d + 1) (if d = 10 then 1 + 8 * tPl n β s.1 + 2 else 0)) ∧ (¬ tTk n β s.1 = 10030 → ¬ tTk n β s.1 = 10043 → ∃ g', p261 F g = some (1, g') ∧ MC n β l g0 g' (tPl n β s.1) S s d 0) := by
  obtain ⟨w0, mh0, -, -⟩ := M.am A
  have hn := mh0.1
  have hmx := tMx_b (n := n) (β := β) hn
  have lm := lt_m (tTk_m (n := n) (β := β) hn) hs
  obtain ⟨g1, e1, M1, e54⟩ := M.bl A hF
  obtain ⟨w, mh, st, -⟩ := M1.am A
  have hq := (tPl_b (n := n) (β := β) s.1).1
  have q400 : tPl n β s.1 ≤ 400 := by omega
  have es := sgE mh hq M1.2.2.1
  have i91 := sg_iff (fun j hj => (mh.2.2 j hj).1) (c := 91) (t := 10043) (i := s.1) (by decide)
  have ew := weE (F := F) mh hF hq M1.2.2.1
  have ei : p249 F g1 (some 10) (nI (wEd n β (tPl n β s.1))) = some (b2 (decide (tTk n β s.1 = 10030))) := wsE (F := F) mh st hF M1.2.2.1 (show 20 < 21 by decide)
  unfold p261
  rw [e1, ob, ew, ob, ei, ob, b2_if]
  refine ⟨fun h => ?_, fun h => ?_, fun h1 h2 => ?_⟩
  · have lt := lm (by omega)
    obtain ⟨zq, te⟩ := nxw (k := 20) (by decide) h
    obtain ⟨n1, n2⟩ := nxt (n := n) (β := β) zq
    rw [te] at n1 n2
    obtain ⟨g2, e2, M2⟩ := M1.dp (y := nI (tPl n β s.1)) rfl q400 (by omega)
    obtain ⟨g3, e3, M3⟩ := M2.op A (show (14 : Int32) = nI 14 from rfl) (by omega)
    rw [decide_eq_true h, if_pos rfl]
    unfold p261_j31 p261_j51 p261_j69
    rw [M1.2.2.1, e2, ob, if_neg (show ¬ b2 true = 0 by decide), e3, ob, if_neg (show ¬ b2 true = 0 by decide)]
    refine ⟨_, wEd n β (tPl n β s.1), rfl, ?_⟩
    have := M3.po (p' := wEd n β (tPl n β s.1)) (i' := s.1 + 1) ⟨n1, n2⟩
    rw [if_pos rfl] at this
    exact this
  · have lt := lm (by omega)
    obtain ⟨zq, te⟩ := nx1 (c := 91) (by decide) h
    obtain ⟨n1, n2⟩ := nxt (n := n) (β := β) zq
    rw [te] at n1 n2
    have hno : ¬ tTk n β s.1 = 10030 := by omega
    obtain ⟨g2, e2, M2⟩ := M1.dp (y := nI (tPl n β s.1)) rfl q400 (by omega)
    obtain ⟨g3, e3, M3⟩ := M2.op A (show (16 : Int32) = nI 16 from rfl) (by omega)
    rw [decide_eq_false hno, if_neg (show ¬ false = true by decide), es, ob, if_pos (show sgB n β (tPl n β s.1) = 91 from i91.mpr h)]
    unfold p261_j31 p261_j51 p261_j69
    rw [M1.2.2.1, e2, ob, if_pos (show b2 false = 0 from rfl), e3, ob, if_pos (show b2 false = 0 from rfl), M3.2.2.1, nI_1]
    refine ⟨_, tPl n β s.1 + 1, rfl, ?_⟩
    have := M3.po (p' := tPl n β s.1 + 1) (i' := s.1 + 1) ⟨n1, n2⟩
    rw [if_pos rfl] at this
    exact this
  · rw [decide_eq_false h1, if_neg (show ¬ false = true by decide), es, ob, if_neg (show ¬ sgB n β (tPl n β s.1) = 91 from fun y => h2 (i91.mp y))]
    exact ⟨g1, rfl, M1⟩
def JO (J : List Nat) : Prop := J = [] ∨ J = [10028]
def MA (M : List Nat) : Prop := M = [] ∨ M = [10029]
def btT (B : List Nat) : Prop := ¬ tp B = 12 ∧ ¬ tp B = 13
theorem ansF (A : AM g0 n β l) (hF : 1000 ≤ F) {B J Mm : List Nat} (hJ : JO J) (hM : MA Mm) (hB : btT B) (M : MC n β l g0 g p (B ++ J.map opM ++ Mm.map opM) s d e) (hl : s.2.2.length + (B.length + J.length + Mm.length) ≤ s.1) (hs : s.1 < 400) : ∃ g', p263 F g 0 = some g' ∧ MC n β l g0 g' p (B ++ J.map opM) (s.1, s.2.1, s.2.2 ++ Mm) d e := by
  obtain ⟨F', hF'⟩ : ∃ F', F = F' + 2 := ⟨F - 2, by omega⟩
  have tJ : ¬ tp (B ++ J.map opM) = 12 := by
    rcases hJ with rfl | rfl
    · rw [List.map_nil, List.append_nil]; exact hB.1
    · show ¬ tp (B ++ [opM 10028]) = 12
      rw [tp_a]
      decide
  have lJ : (B ++ J.map opM).length = B.length + J.length := by rw [List.length_append, List.length_map]
  unfold p263
  rcases hM with rfl | rfl
  · rw [List.map_nil, List.append_nil] at M
    rw [List.append_nil, show p263_L0 F 0 F g = p263_L0 F 0 (F' + 1 + 1) g by rw [← hF']]
    exact ⟨g, anE A M (by rw [lJ]; simp at hl; omega) tJ (fun z => absurd rfl z), M⟩
  · have hl : s.2.2.length + (B.length + J.length + 1) ≤ s.1 := hl
    obtain ⟨g2, e2, M2⟩ := anP (F := F) (a0 := 0) (t := 10029) (f := F' + 1) (S := B ++ J.map opM) A (Or.inl rfl) M (by rw [lJ]; omega) (by omega)
    rw [show p263_L0 F 0 F g = p263_L0 F 0 (F' + 1 + 1) g by rw [← hF'], e2, anE A M2 (by rw [lJ]; omega) tJ (fun z => absurd rfl z)]
    exact ⟨g2, rfl, M2⟩
theorem ansT (A : AM g0 n β l) (hF : 1000 ≤ F) {B J Mm : List Nat} (hJ : JO J) (hM : MA Mm) (hB : btT B) (M : MC n β l g0 g p (B ++ J.map opM ++ Mm.map opM) s d e) (hl : s.2.2.length + (B.length + J.length + Mm.length) ≤ s.1) (hs : s.1 ≤ 400) : ∃ g', p263 F g 1 = some g' ∧ MC n β l g0 g' p B (s.1, s.2.1, s.2.2 ++ Mm ++ J) d e := by
  obtain ⟨F', hF'⟩ : ∃ F', F = F' + 3 := ⟨F - 3, by omega⟩
  have lJ : (B ++ J.map opM).length = B.length + J.length := by rw [List.length_append, List.length_map]
  have step2 : ∀ (f : Nat) (g : HS) (s : PST), MC n β l g0 g p (B ++ J.map opM) s d e → s.2.2.length + (B.length + J.length) ≤ s.1 → s.1 ≤ 400 → ∃ g', p263_L0 F 1 (f + 2) g = some g' ∧ MC n β l g0 g' p B (s.1, s.2.1, s.2.2 ++ J) d e := by
    intro f g s M hl hs
    rcases hJ with rfl | rfl
    · rw [List.map_nil, List.append_nil] at M
      rw [List.append_nil]
      exact ⟨g, anE A M (by simp at hl; omega) hB.1 (fun _ => hB.2), M⟩
    · have hl : s.2.2.length + (B.length + 1) ≤ s.1 := hl
      obtain ⟨g2, e2, M2⟩ := anP (F := F) (a0 := 1) (t := 10028) (f := f + 1) (S := B) A (Or.inr ⟨by decide, rfl⟩) M (by omega) (by omega)
      rw [e2, anE A M2 (by omega) hB.1 (fun _ => hB.2)]
      exact ⟨g2, rfl, M2⟩
  unfold p263
  rw [show p263_L0 F 1 F g = p263_L0 F 1 (F' + 1 + 2) g by rw [← hF']]
  rcases hM with rfl | rfl
  · rw [List.map_nil, List.append_nil] at M
    rw [List.append_nil]
    exact step2 (F' + 1) g s M (by simpa using hl) hs
  · have hl : s.2.2.length + (B.length + J.length + 1) ≤ s.1 := hl
    obtain ⟨g2, e2, M2⟩ := anP (F := F) (a0 := 1) (t := 10029) (f := F' + 2) (S := B ++ J.map opM) A (Or.inl rfl) M (by rw [lJ]; omega) (by omega)
    rw [show p263_L0 F 1 (F' + 1 + 2) g = p263_L0 F 1 (F' + 2 + 1) g from rfl, e2]
    exact step2 F' g2 _ M2 (by show (s.2.2 ++ [10029]).length + (B.length + J.length) ≤ s.1; rw [List.length_append]; show s.2.2.length + 1 + _ ≤ _; omega) hs
def cNn (S : List Nat) : Nat := (S.filter (fun k => decide (nI k = 14))).length
theorem cN_a (S : List Nat) (k : Nat) : cNn (S ++ [k]) = cNn S + (if nI k = 14 then 1 else 0) := by
  unfold cNn
  rw [List.filter_append, List.length_append]
  congr 1
  by_cases z : nI k = 14
  · rw [List.filter_cons_of_pos (by exact decide_eq_true z), if_pos z]; rfl
  · rw [List.filter_cons_of_neg (by rw [decide_eq_false z]; decide), if_neg z]; rfl
theorem snoc {S : List Nat} {N : Nat} (h : S.length = N + 1) : ∃ S' k, S = S' ++ [k] := by
  cases e : S.reverse with
  | nil =>
    have := congrArg List.length e
    rw [List.length_reverse, h] at this
    cases this
  | cons k R =>
    have := congrArg List.reverse e
    rw [List.reverse_reverse, List.reverse_cons] at this
    exact ⟨R.reverse, k, this⟩
/-- nots come off, whatever the fuel -/
theorem hfN (A : AM g0 n β l) : ∀ (N : Nat) (S : List Nat) (g : HS) (s : PST) (d f f2 : Nat), S.length = N → MC n β l g0 g p S s d 0 → s.2.2.length + S.length ≤ 400 → cNn S ≤ d → N < f → N < f2 → p264_L0 F f g = p264_L0 F f2 g := by
  intro N
  induction N with
  | zero =>
    intro S g s d f f2 hS M hl hd h1 h2
    obtain ⟨f, rfl⟩ : ∃ f', f = f' + 1 := ⟨f - 1, by omega⟩
    obtain ⟨f2, rfl⟩ : ∃ f', f2 = f' + 1 := ⟨f2 - 1, by omega⟩
    have e0 : S = [] := List.length_eq_zero_iff.mp hS
    subst e0
    rw [p264_L0, M.tp (Nat.zero_le _), ob, if_neg (show ¬ tp [] = 14 by decide)]
    symm
    rw [p264_L0, M.tp (Nat.zero_le _), ob, if_neg (show ¬ tp [] = 14 by decide)]
  | succ N ih =>
    intro S g s d f f2 hS M hl hd h1 h2
    obtain ⟨f, rfl⟩ : ∃ f', f = f' + 1 := ⟨f - 1, by omega⟩
    obtain ⟨f2, rfl⟩ : ∃ f', f2 = f' + 1 := ⟨f2 - 1, by omega⟩
    have htp := M.tp (by omega)
    by_cases z : tp S = 14
    · obtain ⟨S', k, rfl⟩ := snoc hS
      have z' := z
      rw [tp_a] at z
      rw [p264_L0, htp, ob, if_pos z']
      rw [cN_a, if_pos z] at hd
      have lS : (S' ++ [k]).length = S'.length + 1 := by rw [List.length_append]; rfl
      obtain ⟨d, rfl⟩ : ∃ d', d = d' + 1 := ⟨d - 1, by omega⟩
      obtain ⟨M1, -, -⟩ := M.pp (by omega)
      have M2 : MC n β l g0 (hsI (hsI g 86 68 (hI g 86 68 - 1)) 86 56 (hI (hsI g 86 68 (hI g 86 68 - 1)) 86 56 - 1)) p S' s d 0 := by
        obtain ⟨m0, m1, m3, m4, m5, m6, m7, m8, m9, m10⟩ := id M1
        exact M1.w1 (by decide) m1 (by rw [hsI_k (by decide)]; exact m3) ⟨by rw [hsI_k (by decide)]; exact m4.1, m4.2⟩ (by rw [hsI_s, m5, nI_pred]) (by rw [hsI_k (by decide)]; exact m6) rfl (hsI_k (by decide)) (by rw [hsI_k (by decide)]; exact m8) m9
      obtain ⟨g3, e3, M3⟩ := M2.em A (x := 14) (y := 0) (t := 10030) (by decide) (fun z => absurd z (by decide)) (by omega)
      rw [ob, e3, ob]
      symm
      rw [p264_L0, htp, ob, if_pos z', ob, e3, ob]
      exact (ih S' g3 _ d f f2 (by omega) M3 (by show (s.2.2 ++ [10030]).length + S'.length ≤ 400; rw [List.length_append]; show s.2.2.length + 1 + _ ≤ _; omega) (by omega) (by omega) (by omega)).symm
    · rw [p264_L0, htp, ob, if_neg z]
      symm
      rw [p264_L0, htp, ob, if_neg z]
/-- a not that is done -/
theorem hfP (A : AM g0 n β l) (hF : 1000 ≤ F) (M : MC n β l g0 g p (S ++ [14]) s (d + 1) 0) (hl : s.2.2.length + (S.length + 1) ≤ 400) (hd : cNn S ≤ d) : ∃ g', p264 F g = p264 F g' ∧ MC n β l g0 g' p S (s.1, s.2.1, s.2.2 ++ [10030]) d 0 := by
  obtain ⟨F', hF'⟩ : ∃ F', F = F' + 1 := ⟨F - 1, by omega⟩
  obtain ⟨M1, -, -⟩ := M.pp (by omega)
  have M2 : MC n β l g0 (hsI (hsI g 86 68 (hI g 86 68 - 1)) 86 56 (hI (hsI g 86 68 (hI g 86 68 - 1)) 86 56 - 1)) p S s d 0 := by
    obtain ⟨m0, m1, m3, m4, m5, m6, m7, m8, m9, m10⟩ := id M1
    exact M1.w1 (by decide) m1 (by rw [hsI_k (by decide)]; exact m3) ⟨by rw [hsI_k (by decide)]; exact m4.1, m4.2⟩ (by rw [hsI_s, m5, nI_pred]) (by rw [hsI_k (by decide)]; exact m6) rfl (hsI_k (by decide)) (by rw [hsI_k (by decide)]; exact m8) m9
  obtain ⟨g3, e3, M3⟩ := M2.em A (x := 14) (y := 0) (t := 10030) (by decide) (fun z => absurd z (by decide)) (by omega)
  refine ⟨g3, ?_, M3⟩
  unfold p264
  rw [show p264_L0 F F g = p264_L0 F (F' + 1) g by rw [← hF'], p264_L0, M.tp (by rw [List.length_append]; show S.length + 1 ≤ 400; omega), ob, tp_a, if_pos (show nI 14 = 14 from rfl), ob, e3, ob]
  exact hfN (F := F) A S.length S g3 _ d F' F rfl M3 (by show (s.2.2 ++ [10030]).length + S.length ≤ 400; rw [List.length_append]; show s.2.2.length + 1 + _ ≤ _; omega) hd (by omega) (by omega)
def hfR (F : Nat) (r19 : HS) (r21 : Int32) : Option (Int32 × HS) := if (r21) = ((93) : Int32) then (Option.bind (p254 (r19) ) fun r24 => if (r24) = ((16) : Int32) then (Option.bind (some (hsI (hsI (r19) (86) 68 ((hI (r19) (86) 68) - (1))) (86) 56 ((hI (hsI (r19) (86) 68 ((hI (r19) (86) 68) - (1))) (86) 56) - (1)))) fun h27 => some (3, hsI (h27) (86) 53 ((hI (h27) (86) 53) + (1)))) else (p264_j162 F (r19) )) else (p264_j162 F (r19) )
/-- hasFact -/
theorem hfM (A : AM g0 n β l) (hF : 1000 ≤ F) {B J Mm : List Nat} (hJ : JO J) (hM : MA Mm) (hB : btT B) (h14 : ¬ tp B = 14) (M : MC n β l g0 g p (B ++ J.map opM ++ Mm.map opM) s d 0) (hl : s.2.2.length + (B.length + J.length + Mm.length) ≤ s.1) (hs : s.1 ≤ tMx n β) : (tTk n β s.1 = 10029 → ∃ g' p', p264 F g = some (0, g') ∧ MC n β l g0 g' p' (B ++ J.map opM ++ [12]) (s.1 + 1, s.2.1, s.2.2 ++ Mm) d 0) ∧ (tTk n β s.1 = 10028 → ∃ g' p', p264 F g = some (0, g') ∧ MC n β l g0 g' p' (B ++ [13]) (s.1 + 1, s.2.1, s.2.2 ++ Mm ++ J) d 0) ∧ (¬ tTk n β s.1 = 10029 → ¬ tTk n β s.1 = 10028 → ∃ g', p264 F g = hfR F g' (sgB n β (tPl n β s.1)) ∧ MC n β l g0 g' (tPl n β s.1) B (s.1, s.2.1, s.2.2 ++ Mm ++ J) d 0) := by
  obtain ⟨w0, mh0, -, -⟩ := M.am A
  have hn := mh0.1
  have hmx := tMx_b (n := n) (β := β) hn
  have lm := lt_m (tTk_m (n := n) (β := β) hn) hs
  obtain ⟨g1, e1, M1, e54⟩ := M.bl A hF
  obtain ⟨w, mh, st, -⟩ := M1.am A
  have hq := (tPl_b (n := n) (β := β) s.1).1
  have ew := weE (F := F) mh hF hq M1.2.2.1
  have ea : p249 F g1 (some 22) (nI (wEd n β (tPl n β s.1))) = some (b2 (decide (tTk n β s.1 = 10029))) := wsE (F := F) mh st hF M1.2.2.1 (show 19 < 21 by decide)
  have eo : p249 F g1 (some 23) (nI (wEd n β (tPl n β s.1))) = some (b2 (decide (tTk n β s.1 = 10028))) := wsE (F := F) mh st hF M1.2.2.1 (show 18 < 21 by decide)
  have lJ : (B ++ J.map opM).length = B.length + J.length := by rw [List.length_append, List.length_map]
  have tt : ¬ tp (B ++ J.map opM ++ Mm.map opM) = 14 := by
    rcases hM with rfl | rfl
    · rw [List.map_nil, List.append_nil]
      rcases hJ with rfl | rfl
      · rw [List.map_nil, List.append_nil]; exact h14
      · show ¬ tp (B ++ [opM 10028]) = 14
        rw [tp_a]; decide
    · show ¬ tp (B ++ J.map opM ++ [opM 10029]) = 14
      rw [tp_a]; decide
  obtain ⟨F', hF'⟩ : ∃ F', F = F' + 1 := ⟨F - 1, by omega⟩
  unfold p264
  rw [show p264_L0 F F g = p264_L0 F (F' + 1) g by rw [← hF'], p264_L0, M.tp (by rw [List.length_append, lJ, List.length_map]; omega), ob, if_neg tt, e1, ob, ew, ob, ea, ob, b2_if]
  refine ⟨fun h => ?_, fun h => ?_, fun h1 h2 => ?_⟩
  · have lt := lm (by omega)
    obtain ⟨zq, te⟩ := nxw (k := 19) (by decide) h
    obtain ⟨n1, n2⟩ := nxt (n := n) (β := β) zq
    rw [te] at n1 n2
    obtain ⟨g2, e2, M2⟩ := ansF (F := F) A hF hJ hM hB M1 hl (by omega)
    obtain ⟨g3, e3, M3⟩ := M2.op A (show (12 : Int32) = nI 12 from rfl) (by rw [lJ]; omega)
    rw [decide_eq_true h, if_pos rfl]
    unfold p264_j72 p264_j82 p264_j97
    rw [if_neg (show ¬ b2 true = 0 by decide), e2, ob, if_neg (show ¬ b2 true = 0 by decide), e3, ob]
    exact ⟨_, wEd n β (tPl n β s.1), rfl, M3.po (p' := wEd n β (tPl n β s.1)) (i' := s.1 + 1) ⟨n1, n2⟩⟩
  · have lt := lm (by omega)
    obtain ⟨zq, te⟩ := nxw (k := 18) (by decide) h
    obtain ⟨n1, n2⟩ := nxt (n := n) (β := β) zq
    rw [te] at n1 n2
    obtain ⟨g2, e2, M2⟩ := ansT (F := F) A hF hJ hM hB M1 hl (by omega)
    obtain ⟨g3, e3, M3⟩ := M2.op A (show (13 : Int32) = nI 13 from rfl) (by omega)
    rw [decide_eq_false (show ¬ tTk n β s.1 = 10029 by omega), if_neg (show ¬ false = true by decide), eo, ob, b2_if, decide_eq_true h, if_pos rfl]
    unfold p264_j72 p264_j82 p264_j97
    rw [if_pos (show b2 false = 0 from rfl), e2, ob, if_pos (show b2 false = 0 from rfl), e3, ob]
    exact ⟨_, wEd n β (tPl n β s.1), rfl, M3.po (p' := wEd n β (tPl n β s.1)) (i' := s.1 + 1) ⟨n1, n2⟩⟩
  · obtain ⟨g2, e2, M2⟩ := ansT (F := F) A hF hJ hM hB M1 hl (by omega)
    obtain ⟨w2, mh2, -, -⟩ := M2.am A
    have es := sgE mh2 hq M2.2.2.1
    rw [decide_eq_false h1, if_neg (show ¬ false = true by decide), eo, ob, b2_if, decide_eq_false h2, if_neg (show ¬ false = true by decide), e2, ob, es, ob]
    exact ⟨g2, rfl, M2⟩
/-- after a test: closed, or not -/
theorem hf1 (A : AM g0 n β l) (M : MC n β l g0 g (tPl n β s.1) (S ++ [16]) s (d + 1) 0) (hS : S.length < 400) : (tTk n β s.1 = 10044 → ∃ g' p', hfR F g (sgB n β (tPl n β s.1)) = some (3, g') ∧ MC n β l g0 g' p' S (s.1 + 1, s.2.1, s.2.2) d 0) ∧ (¬ tTk n β s.1 = 10044 → ∃ g', hfR F g (sgB n β (tPl n β s.1)) = some (4, g') ∧ MFx g0 g' l (1 + 8 * tPl n β s.1 + 0)) := by
  obtain ⟨w, mh, st, -⟩ := M.am A
  have hn := mh.1
  have hq := (tPl_b (n := n) (β := β) s.1).1
  have i93 := sg_iff (fun j hj => (mh.2.2 j hj).1) (c := 93) (t := 10044) (i := s.1) (by decide)
  have lS : (S ++ [16]).length = S.length + 1 := by rw [List.length_append]; rfl
  have et := M.tp (by rw [lS]; omega)
  rw [tp_a] at et
  unfold hfR
  refine ⟨fun h => ?_, fun h => ?_⟩
  · obtain ⟨zq, te⟩ := nx1 (c := 93) (by decide) h
    obtain ⟨n1, n2⟩ := nxt (n := n) (β := β) zq
    rw [te] at n1 n2
    obtain ⟨M1, -, -⟩ := M.pp hS
    have M2 : MC n β l g0 (hsI (hsI g 86 68 (hI g 86 68 - 1)) 86 56 (hI (hsI g 86 68 (hI g 86 68 - 1)) 86 56 - 1)) (tPl n β s.1) S s d 0 := by
      obtain ⟨m0, m1, m3, m4, m5, m6, m7, m8, m9, m10⟩ := id M1
      exact M1.w1 (by decide) m1 (by rw [hsI_k (by decide)]; exact m3) ⟨by rw [hsI_k (by decide)]; exact m4.1, m4.2⟩ (by rw [hsI_s, m5, nI_pred]) (by rw [hsI_k (by decide)]; exact m6) rfl (hsI_k (by decide)) (by rw [hsI_k (by decide)]; exact m8) m9
    rw [if_pos (show sgB n β (tPl n β s.1) = 93 from i93.mpr h), et, ob, if_pos (show nI 16 = 16 from rfl), ob, M2.2.2.1, nI_1]
    exact ⟨_, tPl n β s.1 + 1, rfl, M2.po (p' := tPl n β s.1 + 1) (i' := s.1 + 1) ⟨n1, n2⟩⟩
  · obtain ⟨g2, e2, M2⟩ := M.fl (show (0 : Int32) = nI 0 from rfl) M.2.2.1 (by decide) (by omega)
    rw [if_pos rfl] at M2
    have e68 : hI g 86 68 = nI (S.length + 1) := by rw [← lS]; exact M.2.2.2.2.2.2.2.1
    unfold p264_j162 p264_j189
    rw [if_neg (show ¬ sgB n β (tPl n β s.1) = 93 from fun y => h (i93.mp y)), e68, if_pos (show (0 : Int32) < nI (S.length + 1) from nI_lt (a := 0) (by omega) (by omega)), e2, ob]
    exact ⟨g2, rfl, M2.mf (by omega)⟩
/-- .. the outermost -/
theorem hf2 (A : AM g0 n β l) (M : MC n β l g0 g (tPl n β s.1) [] s d 0) : ((tTk n β s.1 = 10002 ∨ tTk n β s.1 = 10040) → hfR F g (sgB n β (tPl n β s.1)) = some (4, g)) ∧ (¬ (tTk n β s.1 = 10002 ∨ tTk n β s.1 = 10040) → ∃ g', hfR F g (sgB n β (tPl n β s.1)) = some (4, g') ∧ MFx g0 g' l (1 + 8 * tPl n β s.1 + 0)) := by
  obtain ⟨w, mh, st, -⟩ := M.am A
  have hn := mh.1
  have hq := (tPl_b (n := n) (β := β) s.1).1
  have i59 := sg_iff (fun j hj => (mh.2.2 j hj).1) (c := 59) (t := 10040) (i := s.1) (by decide)
  have et := M.tp (Nat.zero_le _)
  have es := sgE mh hq M.2.2.1
  have e1 : hfR F g (sgB n β (tPl n β s.1)) = p264_j162 F g := by
    unfold hfR
    rw [et, ob, if_neg (show ¬ tp [] = 16 by decide), ite_self]
  have nE : tPl n β s.1 < n → ¬ tTk n β s.1 = 10002 := by
    intro z
    unfold tTk
    rw [if_pos z]
    rcases tkn_c (β := β) z with ⟨a, b, -⟩ | ⟨a, a2, -, b, -⟩ | ⟨a, a2, b, -⟩
    · omega
    · omega
    · rw [b]; have := sgT_r (β (tPl n β s.1)) (decide (tEn n β (tPl n β s.1) = tPl n β s.1 + 2)); omega
  have e68 : hI g 86 68 = nI 0 := M.2.2.2.2.2.2.2.1
  rw [e1]
  unfold p264_j162 p264_j189
  rw [e68, if_neg (show ¬ (0 : Int32) < nI 0 by decide), M.2.2.1, mh.2.1]
  by_cases z : tPl n β s.1 < n
  · rw [if_pos (nI_lt z (by omega)), es, ob]
    refine ⟨fun h => ?_, fun h => ?_⟩
    · rw [if_pos (show sgB n β (tPl n β s.1) = 59 from i59.mpr (h.resolve_left (nE z)))]
    · obtain ⟨g2, e2, M2⟩ := M.fl (show (0 : Int32) = nI 0 from rfl) (y := nI (tPl n β s.1)) rfl (by decide) (by omega)
      rw [if_pos rfl] at M2
      rw [if_neg (show ¬ sgB n β (tPl n β s.1) = 59 from fun y => h (Or.inr (i59.mp y))), e2, ob]
      exact ⟨g2, rfl, M2.mf (by omega)⟩
  · rw [if_neg (nI_nlt (by omega) (by omega))]
    have : tTk n β s.1 = 10002 := by unfold tTk; rw [if_neg z]
    exact ⟨fun _ => rfl, fun h => absurd (Or.inl this) h⟩
def OUTF (n : Nat) (β : Nat → Nat) (l : Nat) (g0 : HS) (F : Nat) (v1 v2 : Int32) (h : HS) (st0 st1 : Int32) (S : List Nat) (d : Nat) (s : PST) (r : PRS) : Prop := (∃ q h' p' k, r = Sum.inr q ∧ RN F v1 v2 h st0 h' st1 k ∧ MC n β l g0 h' p' S q d 0 ∧ k + 4 * s.1 ≤ 4 * q.1) ∨ ∃ e h' st' k, r = Sum.inl e ∧ RN F v1 v2 h st0 h' st' k ∧ MFx g0 h' l e ∧ k + 4 * s.1 ≤ 2001
def SIMF (n : Nat) (β : Nat → Nat) (l : Nat) (g0 : HS) (F : Nat) (v1 v2 : Int32) (d : Nat) (V : PST → PRS) : Prop := ∀ h p S s, MC n β l g0 h p S s d 0 → topF S → s.1 ≤ tMx n β → s.2.2.length + S.length ≤ s.1 → s.2.1 ≤ 80 → cNn S ≤ d → OUTF n β l g0 F v1 v2 h 0 3 S d s (V s)
end MTE
