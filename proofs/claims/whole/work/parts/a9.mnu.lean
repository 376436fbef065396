/-! a law's text: the model's readers of numbers, signs, pending sums -/
section MNU
variable {n : Nat} {β : Nat → Nat} {l : Nat} {g0 g : HS} {p : Nat} {S : List Nat} {s : PST} {d e F : Nat}
theorem MC.mv {h : HS} {p' i' : Nat} (w : 160 ≤ g.1) (M : MC n β l g0 g p S s d e) (f : FR [] [(86, 53), (86, 54)] nD g h) (e53 : hI h 86 53 = nI p') (hp : p' ≤ n ∧ skp n β p' = tPl n β i') : MC n β l g0 h p' S (i', s.2.1, s.2.2) d e := by
  obtain ⟨⟨m0, m0'⟩, m1, m3, m4, m5, m6, m7, m8, m9, m10⟩ := M
  have f1' : FR MWw MKk nD g h := f.mo (fun a z => nomatch z) (by decide) (fun _ z => z) nD160
  have r133 : hI h 133 = hI g 133 := f.fA w 133 (by decide)
  have r134 : hI h 134 = hI g 134 := f.fA w 134 (by decide)
  have r135 : hI h 135 = hI g 135 := f.fA w 135 (by decide)
  have k55 : hI h 86 55 = hI g 86 55 := f.fI w 86 55 (by decide)
  have k56 : hI h 86 56 = hI g 86 56 := f.fI w 86 56 (by decide)
  have k57 : hI h 86 57 = hI g 86 57 := f.fI w 86 57 (by decide)
  have k67 : hI h 86 67 = hI g 86 67 := f.fI w 86 67 (by decide)
  have k68 : hI h 86 68 = hI g 86 68 := f.fI w 86 68 (by decide)
  exact ⟨⟨m0.tr f1', fun j hj => by rw [r133, r134]; exact m0' j hj⟩, hp, e53, ⟨by rw [k55]; exact m4.1, m4.2⟩, by rw [k56]; exact m5, by rw [k57]; exact m6, by rw [k67]; exact m7, by rw [k68]; exact m8, fun j hj => by rw [r135]; exact m9 j hj, fun j hj => by rw [r133, r134]; exact m10 j hj⟩
theorem nxt {i : Nat} (h : tPl n β i < n) : tEn n β (tPl n β i) ≤ n ∧ skp n β (tEn n β (tPl n β i)) = tPl n β (i + 1) := ⟨(tEn_b h).2, by rw [tPl, if_pos h]⟩
theorem nx1 {c t i : Nat} (m : (c, t) ∈ sgPairs) (h : tTk n β i = t) : tPl n β i < n ∧ tEn n β (tPl n β i) = tPl n β i + 1 := by
  obtain ⟨d1, d2, d3, d4, d5⟩ := sg_nd c t m
  unfold tTk at h
  by_cases z : tPl n β i < n
  · rw [if_pos z] at h
    refine ⟨z, ?_⟩
    rcases tkn_c (β := β) z with ⟨a, b, -⟩ | ⟨a, a2, -, b, -⟩ | ⟨a, a2, b, e, f⟩
    · omega
    · omega
    · rw [b] at h
      have hc := (sgT_i c t m _ _).mp h
      rcases e with e | e
      · exact e
      · have := (f.mp e).1
        rw [hc] at this
        rcases this with y | y
        · rw [y] at m; exact absurd m (by simp [sgPairs])
        · rw [y] at m; exact absurd m (by simp [sgPairs])
  · rw [if_neg z] at h; omega
theorem nxw {k i : Nat} (hk : k < 21) (h : tTk n β i = 10010 + k) : tPl n β i < n ∧ tEn n β (tPl n β i) = wEd n β (tPl n β i) := by
  unfold tTk at h
  by_cases z : tPl n β i < n
  · rw [if_pos z] at h
    refine ⟨z, ?_⟩
    rcases tkn_c (β := β) z with ⟨a, b, -⟩ | ⟨a, a2, te, -⟩ | ⟨a, a2, b, -⟩
    · omega
    · exact te
    · rw [b] at h
      have := sgT_r (β (tPl n β i)) (decide (tEn n β (tPl n β i) = tPl n β i + 2))
      omega
  · rw [if_neg z] at h; omega
/-- a number -/
theorem nuL (M : MH g n β) (w : 160 ≤ g.1) {q most : Nat} (hm : most < 20000) (hd : ∀ j, q ≤ j → j < adn n (fun j => isD (β j)) q → isD (β j) = true) (hq : q ≤ n) : ∀ (f k : Nat) (h : HS), q + k ≤ adn n (fun j => isD (β j)) q → adn n (fun j => isD (β j)) q - (q + k) < f → FR [] [(86, 53)] nD g h → hI h 86 53 = nI (q + k) → ∃ h', FR [] [(86, 53)] nD g h' ∧ hI h' 86 53 = nI (adn n (fun j => isD (β j)) q) ∧ p251_L4 F (nI most) f h (nI (nuF β q (if k < 4 then k else 4))) (nI k) = p251_j73 F (nI most) h' (nI (nuF β q (if adn n (fun j => isD (β j)) q - q < 4 then adn n (fun j => isD (β j)) q - q else 4))) (nI (adn n (fun j => isD (β j)) q - q)) := by
  have hn := M.1
  obtain ⟨a1, a2, a3, a4⟩ := adn_b (n := n) (p := fun j => isD (β j)) _ q rfl
  have a2 := a2 hq
  have nb : ∀ k, k ≤ 4 → q + k ≤ adn n (fun j => isD (β j)) q → nuF β q k < 10 ^ k := by
    intro k
    induction k with
    | zero => intro _ _; show 0 < 1; decide
    | succ k ih =>
      intro hk hq2
      have := ih (by omega) (by omega)
      have d := hd (q + k) (by omega) (by omega)
      unfold isD at d
      rw [Bool.and_eq_true] at d
      have := of_decide_eq_true d.1
      have := of_decide_eq_true d.2
      rw [nuF, Nat.pow_succ]
      omega
  intro f
  induction f with
  | zero => intro k h _ z; omega
  | succ f ih =>
    intro k h hk hf fh e
    have Mh := M.fr w fh (by decide)
    rw [p251_L4, e, Mh.2.1]
    by_cases z : q + k < adn n (fun j => isD (β j)) q
    · obtain ⟨b1, b2'⟩ := Mh.2.2 (q + k) (by omega)
      have hdk := hd (q + k) (by omega) z
      rw [if_pos (nI_lt (by omega) (by omega)), nI_clamp (n := q + k) (by omega), if_neg (nI_in' (by omega) (by decide)), b2', isDM h b1, ob, hdk, if_neg (show ¬ b2 true = 0 by decide)]
      have hd2 := hdk
      unfold isD at hd2
      rw [Bool.and_eq_true] at hd2
      have d1 := of_decide_eq_true hd2.1
      have d2 := of_decide_eq_true hd2.2
      obtain ⟨h', x1, x2, x3⟩ := ih (k + 1) (hsI h 86 53 (nI (q + (k + 1)))) (by omega) (by omega) (fh.sI (Or.inr (Or.inr (Or.inl (by decide))))) (hsI_s _ _ _ _)
      refine ⟨h', x1, x2, ?_⟩
      rw [← x3]
      unfold p251_j56
      by_cases z4 : k < 4
      · have nk := nb k (by omega) (by omega)
        have p10 : (10 : Nat) ^ k ≤ 10 ^ 3 := Nat.pow_le_pow_right (by decide) (by omega)
        rw [if_pos (show nI k < 4 from nI_lt (b := 4) z4 (by decide)), if_pos z4, if_neg (nI_in' (by omega) (by decide)), sb_lo _ (by omega), show (10 : Int32) = nI 10 from rfl, show (48 : Int32) = nI 48 from rfl, pk_mul, nI_add, pk_sub (by omega), e, nI_1, nI_1, show (if k + 1 < 4 then k + 1 else 4) = k + 1 by by_cases y : k + 1 < 4; rw [if_pos y]; rw [if_neg y]; omega, nuF]
        rw [show 10 * nuF β q k + β (q + k) - 48 = nuF β q k * 10 + (β (q + k) - 48) by omega]
        rfl
      · rw [if_neg (show ¬ nI k < 4 from nI_nlt (a := k) (b := 4) (by omega) (by omega)), if_neg z4, e, nI_1, nI_1, if_neg (show ¬ k + 1 < 4 by omega)]
        rfl
    · have hk2 : q + k = adn n (fun j => isD (β j)) q := by omega
      refine ⟨h, fh, by rw [e, hk2], ?_⟩
      have ek : adn n (fun j => isD (β j)) q - q = k := by omega
      rw [ek]
      by_cases y : q + k < n
      · obtain ⟨b1, b2'⟩ := Mh.2.2 (q + k) y
        have hf2 : isD (β (q + k)) = false := by
          have := a3 (by omega)
          rw [hk2]; exact this
        rw [if_pos (nI_lt y (by omega)), nI_clamp (n := q + k) (by omega), if_neg (nI_in' (by omega) (by decide)), b2', isDM h b1, ob, hf2, if_pos (show b2 false = 0 from rfl)]
      · rw [if_neg (nI_nlt (by omega) (by omega))]
theorem MC.nu (A : AM g0 n β l) (hF : 1000 ≤ F) {most : Nat} (hm : most < 20000) (M : MC n β l g0 g (tPl n β s.1) S s d e) (hq : tPl n β s.1 < n) (hd : isD (β (tPl n β s.1)) = true) (e54 : hI g 86 54 = nI (tPl n β s.1)) : ∃ v g', p251 F g (nI most) = some (nI v, g') ∧ v < 10000 ∧ (tTk n β s.1 < 10000 → v = tTk n β s.1) ∧ MC n β l g0 g' (tEn n β (tPl n β s.1)) S (s.1 + 1, s.2.1, s.2.2) d (if tTk n β s.1 = 10000 ∨ most < v then (if e = 0 then 1 + 8 * tPl n β s.1 + 1 else e) else e) := by
  obtain ⟨w, mh, -, -⟩ := M.am A
  have hn := mh.1
  have et : tTk n β s.1 = tkn n β (tPl n β s.1) := by unfold tTk; rw [if_pos hq]
  obtain ⟨n1, n2⟩ := nxt (n := n) (β := β) hq
  rcases tkn_c (β := β) hq with ⟨-, t1, t2, t3, te⟩ | ⟨a, -⟩ | ⟨a, -⟩
  · obtain ⟨a1, a2, a3, a4⟩ := adn_b (n := n) (p := fun j => isD (β j)) _ (tPl n β s.1) rfl
    obtain ⟨h', f1, x1, x2⟩ := nuL (F := F) mh w hm a4 (Nat.le_of_lt hq) F 0 g (by omega) (by omega) (FR.rf nD160) (by rw [Nat.add_zero]; exact M.2.2.1)
    rw [← te] at x1 x2
    have M1 := M.mv (i' := s.1 + 1) w (f1.mo (fun a z => nomatch z) (by decide) (fun _ z => z) nD160) x1 ⟨n1, n2⟩
    have vlt : nuF β (tPl n β s.1) (if tEn n β (tPl n β s.1) - tPl n β s.1 < 4 then tEn n β (tPl n β s.1) - tPl n β s.1 else 4) < 10000 := by
      have hb := tEn_b (n := n) (β := β) hq
      have := nu_lt (β := β) (q := tPl n β s.1) (e := tPl n β s.1 + (if tEn n β (tPl n β s.1) - tPl n β s.1 < 4 then tEn n β (tPl n β s.1) - tPl n β s.1 else 4)) (by split <;> omega) (fun j j1 j2 => a4 j j1 (by rw [← te]; split at j2 <;> omega)) (by omega)
      rw [Nat.add_sub_cancel_left] at this
      exact this
    have e54' : hI h' 86 54 = nI (tPl n β s.1) := (f1.fI w 86 54 (by decide)).trans e54
    obtain ⟨g2, e2, M2⟩ := M1.fl (show (1 : Int32) = nI 1 from rfl) e54' (by decide) (by omega)
    have q4 : tTk n β s.1 = 10000 ↔ 4 < tEn n β (tPl n β s.1) - tPl n β s.1 := by rw [et]; exact t2
    have main : ∃ g', p251_j73 F (nI most) h' (nI (nuF β (tPl n β s.1) (if tEn n β (tPl n β s.1) - tPl n β s.1 < 4 then tEn n β (tPl n β s.1) - tPl n β s.1 else 4))) (nI (tEn n β (tPl n β s.1) - tPl n β s.1)) = some (nI (nuF β (tPl n β s.1) (if tEn n β (tPl n β s.1) - tPl n β s.1 < 4 then tEn n β (tPl n β s.1) - tPl n β s.1 else 4)), g') ∧ MC n β l g0 g' (tEn n β (tPl n β s.1)) S (s.1 + 1, s.2.1, s.2.2) d (if tTk n β s.1 = 10000 ∨ most < nuF β (tPl n β s.1) (if tEn n β (tPl n β s.1) - tPl n β s.1 < 4 then tEn n β (tPl n β s.1) - tPl n β s.1 else 4) then (if e = 0 then 1 + 8 * tPl n β s.1 + 1 else e) else e) := by
      unfold p251_j73 p251_j83
      by_cases z : 4 < tEn n β (tPl n β s.1) - tPl n β s.1
      · rw [if_pos (show (4 : Int32) < nI _ from nI_lt (a := 4) z (by omega)), e2, ob, if_pos (Or.inl (q4.mpr z))]
        exact ⟨g2, rfl, M2⟩
      · rw [if_neg (show ¬ (4 : Int32) < nI _ from nI_nlt (a := 4) (by omega) (by decide))]
        by_cases y : most < nuF β (tPl n β s.1) (if tEn n β (tPl n β s.1) - tPl n β s.1 < 4 then tEn n β (tPl n β s.1) - tPl n β s.1 else 4)
        · rw [if_pos (nI_lt y (by omega)), e2, ob, if_pos (Or.inr y)]
          exact ⟨g2, rfl, M2⟩
        · have hno : ¬ (tTk n β s.1 = 10000 ∨ most < nuF β (tPl n β s.1) (if tEn n β (tPl n β s.1) - tPl n β s.1 < 4 then tEn n β (tPl n β s.1) - tPl n β s.1 else 4)) := fun x => Or.elim x (fun x => z (q4.mp x)) y
          rw [if_neg (nI_nlt (by omega) (by omega)), if_neg hno]
          exact ⟨h', rfl, M1⟩
    obtain ⟨g', y1, y2⟩ := main
    refine ⟨_, g', ?_, vlt, fun z => ?_, y2⟩
    · unfold p251
      rw [← y1]
      exact x2
    · have : ¬ 4 < tEn n β (tPl n β s.1) - tPl n β s.1 := fun y => by have := q4.mpr y; omega
      rw [et, t3 (by omega)]
      congr 1
      split <;> omega
  · rw [hd] at a; cases a
  · rw [hd] at a; cases a
theorem sg_tab : ∀ x, x < 256 → ∀ two : Bool, (isSg (sgT x two) = true ↔ (x = 60 ∨ x = 61 ∨ x = 62)) := by decide +kernel
/-- a sign that compares -/
theorem MC.cp (A : AM g0 n β l) (M : MC n β l g0 g (tPl n β s.1) S s d e) : (isSg (tTk n β s.1) = false → p260 g = some (-1, g)) ∧ (isSg (tTk n β s.1) = true → ∃ g', p260 g = some (nI (opM (tTk n β s.1)), g') ∧ MC n β l g0 g' (tEn n β (tPl n β s.1)) S (s.1 + 1, s.2.1, s.2.2) d e) := by
  obtain ⟨w, mh, -, -⟩ := M.am A
  have hn := mh.1
  obtain ⟨hq, -, -⟩ := tPl_b (n := n) (β := β) s.1
  have e53 := M.2.2.1
  have es := sgE mh hq e53
  -- whether an equals sign follows
  have e1 : p260 g = p260_j39 g (sgB n β (tPl n β s.1)) (if tPl n β s.1 + 1 < n ∧ β (tPl n β s.1 + 1) = 61 then 1 else 0) := by
    unfold p260 p260_j38
    rw [es, ob, e53, nI_1, mh.2.1]
    by_cases z : tPl n β s.1 + 1 < n
    · obtain ⟨b1, b2'⟩ := mh.2.2 _ z
      rw [if_pos (nI_lt z (by omega)), if_neg (nI_in (by omega) (by decide)), nI_clamp (by omega), b2']
      by_cases y : β (tPl n β s.1 + 1) = 61
      · rw [if_pos (show sb _ = 61 from (sb_eq (c := 61) b1 (by decide)).mpr y), if_pos ⟨z, y⟩]
      · rw [if_neg (show ¬ sb _ = 61 from fun x => y ((sb_eq (c := 61) b1 (by decide)).mp x)), if_neg (fun x => y x.2)]
    · rw [if_neg (nI_nlt (by omega) (by omega)), if_neg (fun x => z x.1)]
  have hT : isSg (tTk n β s.1) = true → tPl n β s.1 < n ∧ (β (tPl n β s.1) = 60 ∨ β (tPl n β s.1) = 61 ∨ β (tPl n β s.1) = 62) ∧ tTk n β s.1 = sgT (β (tPl n β s.1)) (decide (tEn n β (tPl n β s.1) = tPl n β s.1 + 2)) := by
    intro h
    obtain ⟨s1, s2⟩ := isSg_c h
    unfold tTk at h s1 s2 ⊢
    by_cases z : tPl n β s.1 < n
    · rw [if_pos z] at h s1 s2 ⊢
      rcases tkn_c (β := β) z with ⟨a, b, -⟩ | ⟨a, a2, -, b, -⟩ | ⟨a, a2, b, -⟩
      · omega
      · omega
      · rw [b] at h
        exact ⟨z, (sg_tab _ (mh.2.2 _ z).1 _).mp h, b⟩
    · rw [if_neg z] at s1; omega
  have hB : ∀ c, c < 128 → c ≠ 0 → (sgB n β (tPl n β s.1) = nI c) → tPl n β s.1 < n ∧ β (tPl n β s.1) = c := by
    intro c hc _ h
    unfold sgB at h
    by_cases z : tPl n β s.1 < n
    · rw [if_pos z] at h
      exact ⟨z, (sb_eq (mh.2.2 _ z).1 hc).mp h⟩
    · rw [if_neg z] at h
      have := m1_nI (n := c) (by omega)
      rw [← h] at this
      exact absurd rfl (of_eq_false this)
  have toT : ∀ c, (c = 60 ∨ c = 61 ∨ c = 62) → sgB n β (tPl n β s.1) = nI c → isSg (tTk n β s.1) = true := by
    intro c hc h
    obtain ⟨z, hb⟩ := hB c (by omega) (by omega) h
    unfold tTk
    rw [if_pos z]
    have dl : isD (β (tPl n β s.1)) = false ∧ isL (β (tPl n β s.1)) = false := by rw [hb]; rcases hc with rfl | rfl | rfl <;> decide
    rcases tkn_c (β := β) z with ⟨a, -⟩ | ⟨a, a2, -⟩ | ⟨a, a2, b, -⟩
    · rw [dl.1] at a; cases a
    · rw [dl.2] at a2; cases a2
    · rw [b]
      exact (sg_tab _ (mh.2.2 _ z).1 _).mpr (by rw [hb]; exact hc)
  refine ⟨fun h => ?_, fun h => ?_⟩
  · rw [e1]
    unfold p260_j39
    have k : ∀ c, (c = 60 ∨ c = 61 ∨ c = 62) → ¬ sgB n β (tPl n β s.1) = nI c := fun c hc y => by
      rw [toT c hc y] at h; cases h
    rw [if_neg (show ¬ sgB n β (tPl n β s.1) = 61 from k 61 (by decide)), if_neg (show ¬ sgB n β (tPl n β s.1) = 60 from k 60 (by decide)), if_neg (show ¬ sgB n β (tPl n β s.1) = 62 from k 62 (by decide))]
  · obtain ⟨z, hb, ht⟩ := hT h
    obtain ⟨n1, n2⟩ := nxt (n := n) (β := β) z
    have dl : isD (β (tPl n β s.1)) = false ∧ isL (β (tPl n β s.1)) = false := by rcases hb with y | y | y <;> rw [y] <;> decide
    have te : (tEn n β (tPl n β s.1) = tPl n β s.1 + 1 ∨ tEn n β (tPl n β s.1) = tPl n β s.1 + 2) ∧ (tEn n β (tPl n β s.1) = tPl n β s.1 + 2 ↔ (β (tPl n β s.1) = 60 ∨ β (tPl n β s.1) = 62) ∧ tPl n β s.1 + 1 < n ∧ β (tPl n β s.1 + 1) = 61) := by
      rcases tkn_c (β := β) z with ⟨a, -⟩ | ⟨a, a2, -⟩ | ⟨-, -, -, x, y⟩
      · rw [dl.1] at a; cases a
      · rw [dl.2] at a2; cases a2
      · exact ⟨x, y⟩
    have esb : sgB n β (tPl n β s.1) = sb (β (tPl n β s.1)) := if_pos z
    have pos : ∀ v, v = tEn n β (tPl n β s.1) → MC n β l g0 (hsI g 86 53 (nI v)) (tEn n β (tPl n β s.1)) S (s.1 + 1, s.2.1, s.2.2) d e := by
      intro v hv
      rw [hv]
      exact M.po ⟨n1, n2⟩
    rw [e1]
    unfold p260_j39 p260_j71 p260_j85
    rw [e53, esb]
    rcases hb with y | y | y
    · have k61 : ¬ sb (β (tPl n β s.1)) = 61 := by rw [y]; decide
      have k60 : sb (β (tPl n β s.1)) = 60 := by rw [y]; decide
      rw [if_neg k61, if_pos k60, if_pos k60]
      by_cases x : tPl n β s.1 + 1 < n ∧ β (tPl n β s.1 + 1) = 61
      · have e2 := te.2.mpr ⟨Or.inl y, x⟩
        rw [if_pos x, if_neg n10, if_neg n10, show (2 : Int32) = nI 2 from rfl, nI_add, ht, y, e2, decide_eq_true rfl]
        refine ⟨_, rfl, ?_⟩
        rw [← e2]
        exact pos _ rfl
      · have e2 : ¬ tEn n β (tPl n β s.1) = tPl n β s.1 + 2 := fun q => x (te.2.mp q).2
        have e3 := te.1.resolve_right e2
        rw [if_neg x, if_pos rfl, if_pos rfl, nI_1, ht, y, decide_eq_false e2]
        refine ⟨_, rfl, ?_⟩
        exact pos _ e3.symm
    · have k61 : sb (β (tPl n β s.1)) = 61 := by rw [y]; decide
      have e2 : ¬ tEn n β (tPl n β s.1) = tPl n β s.1 + 2 := fun q => by have := (te.2.mp q).1; omega
      have e3 := te.1.resolve_right e2
      rw [if_pos k61, nI_1, ht, y, decide_eq_false e2]
      exact ⟨_, rfl, pos _ e3.symm⟩
    · have k61 : ¬ sb (β (tPl n β s.1)) = 61 := by rw [y]; decide
      have k60 : ¬ sb (β (tPl n β s.1)) = 60 := by rw [y]; decide
      have k62 : sb (β (tPl n β s.1)) = 62 := by rw [y]; decide
      rw [if_neg k61, if_neg k60, if_pos k62, if_neg k60]
      by_cases x : tPl n β s.1 + 1 < n ∧ β (tPl n β s.1 + 1) = 61
      · have e2 := te.2.mpr ⟨Or.inr y, x⟩
        rw [if_pos x, if_neg n10, if_neg n10, show (2 : Int32) = nI 2 from rfl, nI_add, ht, y, e2, decide_eq_true rfl]
        refine ⟨_, rfl, ?_⟩
        rw [← e2]
        exact pos _ rfl
      · have e2 : ¬ tEn n β (tPl n β s.1) = tPl n β s.1 + 2 := fun q => x (te.2.mp q).2
        have e3 := te.1.resolve_right e2
        rw [if_neg x, if_pos rfl, if_pos rfl, nI_1, ht, y, decide_eq_false e2]
        refine ⟨_, rfl, ?_⟩
        exact pos _ e3.symm
/-- pending products and sums, pending ands and ors -/
theorem smP (A : AM g0 n β l) {a0 : Int32} {t f : Nat} (ht : t = 10047 ∨ (a0 = 0 ∧ (t = 10045 ∨ t = 10046))) (M : MC n β l g0 g p (S ++ [opM t]) s d e) (hS : S.length < 400) (hl : s.2.2.length < 400) : ∃ g', p257_L0 F a0 (f + 1) g = p257_L0 F a0 f g' ∧ MC n β l g0 g' p S (s.1, s.2.1, s.2.2 ++ [t]) d e := by
  obtain ⟨g', e1, M1⟩ := M.pe A (by omega) hS hl
  have et := M.tp (by rw [List.length_append]; show S.length + 1 ≤ 400; omega)
  rw [tp_a] at et
  refine ⟨g', ?_, M1⟩
  rw [p257_L0, et, ob]
  unfold p257_j28
  rcases ht with rfl | ⟨rfl, rfl | rfl⟩
  · rw [if_pos (show nI (opM 10047) = 5 by decide)]
    exact e1 _
  · rw [if_neg (show ¬ nI (opM 10045) = 5 by decide), if_pos rfl, ob, if_pos (show nI (opM 10045) = 3 by decide)]
    exact e1 _
  · rw [if_neg (show ¬ nI (opM 10046) = 5 by decide), if_pos rfl, ob, if_neg (show ¬ nI (opM 10046) = 3 by decide), ob, if_pos (show nI (opM 10046) = 4 by decide)]
    exact e1 _
theorem smE (A : AM g0 n β l) {a0 : Int32} {f : Nat} (M : MC n β l g0 g p S s d e) (hS : S.length ≤ 400) (h5 : ¬ tp S = 5) (h3 : a0 = 0 → ¬ tp S = 3 ∧ ¬ tp S = 4) : p257_L0 F a0 (f + 1) g = some g := by
  rw [p257_L0, M.tp hS, ob, if_neg h5]
  by_cases z : a0 = 0
  · rw [if_pos z, ob, if_neg (h3 z).1, ob, if_neg (h3 z).2]
  · rw [if_neg z]
theorem anP (A : AM g0 n β l) {a0 : Int32} {t f : Nat} (ht : t = 10029 ∨ (¬ a0 = 0 ∧ t = 10028)) (M : MC n β l g0 g p (S ++ [opM t]) s d e) (hS : S.length < 400) (hl : s.2.2.length < 400) : ∃ g', p263_L0 F a0 (f + 1) g = p263_L0 F a0 f g' ∧ MC n β l g0 g' p S (s.1, s.2.1, s.2.2 ++ [t]) d e := by
  obtain ⟨g', e1, M1⟩ := M.pe A (by omega) hS hl
  have et := M.tp (by rw [List.length_append]; show S.length + 1 ≤ 400; omega)
  rw [tp_a] at et
  refine ⟨g', ?_, M1⟩
  rw [p263_L0, et, ob]
  unfold p263_j22
  rcases ht with rfl | ⟨h0, rfl⟩
  · rw [if_pos (show nI (opM 10029) = 12 by decide)]
    exact e1 _
  · rw [if_neg (show ¬ nI (opM 10028) = 12 by decide), if_neg h0, ob, if_pos (show nI (opM 10028) = 13 by decide)]
    exact e1 _
theorem anE (A : AM g0 n β l) {a0 : Int32} {f : Nat} (M : MC n β l g0 g p S s d e) (hS : S.length ≤ 400) (h5 : ¬ tp S = 12) (h3 : ¬ a0 = 0 → ¬ tp S = 13) : p263_L0 F a0 (f + 1) g = some g := by
  rw [p263_L0, M.tp hS, ob, if_neg h5]
  by_cases z : a0 = 0
  · rw [if_pos z]
  · rw [if_neg z, ob, if_neg (h3 z)]
end MNU
