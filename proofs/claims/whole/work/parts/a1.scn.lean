/-! a law's text: the class's scan, through -/
section SC2
variable {h : HS} {n : Nat} {β : Nat → Nat} {F : Nat}
theorem tknC (B : BYc h n β) (A : STc h) (hF : 1000 ≤ F) {q : Nat} (hq : q < n) : p108 F h (nI q) (nI (tEn n β q)) = some (nI (tkn n β q)) := by
  have B' := B
  obtain ⟨hn, e0, eb⟩ := B
  obtain ⟨b1, b2'⟩ := eb q hq
  obtain ⟨t1, t2⟩ := tEn_b (n := n) (β := β) hq
  unfold p108
  rw [nI_clamp (by omega), if_neg (nI_in' (by omega) (by decide)), b2', isDC h b1, ob, b2_if]
  have neS : isD (β q) = true ∨ isL (β q) = true → ¬ (β q = 60 ∨ β q = 62) := by
    intro z w
    rcases w with w | w <;> rw [w] at z <;> exact absurd z (by decide)
  cases hd : isD (β q)
  · rw [if_neg (by decide), isLC h b1, ob, b2_if]
    cases hl : isL (β q)
    · rw [if_neg (by decide)]
      have et : tkn n β q = sgT (β q) (decide (tEn n β q = q + 2)) := by unfold tkn; rw [if_neg (show ¬ isD (β q) = true by rw [hd]; decide), if_neg (show ¬ isL (β q) = true by rw [hl]; decide)]
      have e2 : tEn n β q = q + 1 ∨ tEn n β q = q + 2 := by
        unfold tEn
        rw [hd, hl]
        repeat' split
        all_goals first | exact Or.inl rfl | exact Or.inr rfl | contradiction
      unfold p108_j68
      rw [pk_sub (by omega), et]
      rcases e2 with e2 | e2
      · rw [e2, show q + 1 - q = 1 by omega, if_neg (show ¬ (1 : Int32) < nI 1 by decide), decide_eq_false (by omega), show (0 : Int32) = b2 false from rfl, sgC h b1, ob]
      · rw [e2, show q + 2 - q = 2 by omega, if_pos (show (1 : Int32) < nI 2 by decide), decide_eq_true rfl, show (1 : Int32) = b2 true from rfl, sgC h b1, ob]
    · have et : tkn n β q = if wIx n β q = 21 then 10001 else 10010 + wIx n β q := by unfold tkn; rw [if_neg (show ¬ isD (β q) = true by rw [hd]; decide), if_pos hl]
      have hw := fsN_le (wEq β q (tEn n β q)) 21
      rw [if_pos rfl, wfC B' A hF (Nat.le_of_lt t1) t2, ob, et]
      have ew : fsN (wEq β q (tEn n β q)) 21 = wIx n β q := Eq.refl _
      rw [ew] at hw ⊢
      generalize wIx n β q = x at *
      by_cases z : x = 21
      · rw [if_pos z, if_pos z, if_pos rfl]; rfl
      · rw [if_neg z, if_neg z, if_neg (fun y => by have := m1_nI (n := x) (by omega); rw [this] at y; exact y), show (10010 : Int32) = nI 10010 from rfl, nI_add]
  · have et : tkn n β q = if 4 < tEn n β q - q then 10000 else nuF β q (tEn n β q - q) := by unfold tkn; rw [if_pos hd]
    have te : tEn n β q = adn n (fun j => isD (β j)) (q + 1) := by unfold tEn; rw [if_neg (neS (Or.inl hd)), if_pos hd]
    rw [if_pos rfl, et]
    unfold p109
    rw [pk_sub (by omega)]
    by_cases z : 4 < tEn n β q - q
    · rw [if_pos (show (4 : Int32) < nI (tEn n β q - q) from nI_lt (a := 4) z (by omega)), if_pos z]; rfl
    · rw [if_neg (show ¬ (4 : Int32) < nI (tEn n β q - q) from nI_nlt (a := 4) (by omega) (by decide)), if_neg z]
      have := nuC (F := F) (h := h) (q := q) (e := tEn n β q) B' t2 (Nat.le_of_lt t1) (by omega) (fun j a b => by
        by_cases y : j = q
        · subst y; exact hd
        · rw [te] at b
          exact (adn_b (n := n) (p := fun j => isD (β j)) _ (q + 1) rfl).2.2.2 j (by omega) b) F 0 (by omega) (by omega)
      rw [Nat.add_zero] at this
      rw [show p109_L16 F (nI q) (nI (tEn n β q)) F h 0 (nI q) = _ from this, ob]
theorem kpE {g : HS} {c : Nat} {x y : Int32} (hc : c < 401) (e : hI g 57 2 = nI c) : p104 g x y = some (hsI (hsI (hsI g 59 c x) 60 c y) 57 2 (nI (c + 1))) := by
  unfold p104
  have e2 : hI (hsI g 59 c x) 57 2 = nI c := by rw [hsI_n (by decide)]; exact e
  have e3 : hI (hsI (hsI g 59 c x) 60 c y) 57 2 = nI c := by rw [hsI_n (by decide)]; exact e2
  rw [e, if_pos (show nI c < 401 from nI_lt (b := 401) hc (by decide)), nI_clamp (by omega), if_neg (nI_in' (by omega) (by decide)), e2, nI_clamp (by omega), if_neg (nI_in' (by omega) (by decide)), ob, e3, nI_1]
/-- the tokens' table -/
def TKc (g : HS) (n : Nat) (β : Nat → Nat) (j : Nat) : Prop := ∀ k, k < j → hI g 59 k = nI (tTk n β k) ∧ hI g 60 k = nI (tPl n β k)
theorem TKc.s {g : HS} {j : Nat} (T : TKc g n β j) : TKc (hsI (hsI (hsI g 59 j (nI (tTk n β j))) 60 j (nI (tPl n β j))) 57 2 (nI (j + 1))) n β (j + 1) := by
  intro k hk
  have e59 : hI (hsI (hsI (hsI g 59 j (nI (tTk n β j))) 60 j (nI (tPl n β j))) 57 2 (nI (j + 1))) 59 = hI (hsI g 59 j (nI (tTk n β j))) 59 := (hsI_n (by decide)).trans (hsI_n (by decide))
  have e60 : hI (hsI (hsI (hsI g 59 j (nI (tTk n β j))) 60 j (nI (tPl n β j))) 57 2 (nI (j + 1))) 60 = hI (hsI (hsI g 59 j (nI (tTk n β j))) 60 j (nI (tPl n β j))) 60 := hsI_n (by decide)
  have e60' : hI (hsI g 59 j (nI (tTk n β j))) 60 = hI g 60 := hsI_n (by decide)
  rw [e59, e60]
  by_cases z : k = j
  · subst z
    exact ⟨hsI_s _ _ _ _, hsI_s _ _ _ _⟩
  · obtain ⟨t1, t2⟩ := T k (by omega)
    rw [hsI_k z, hsI_k z, e60']
    exact ⟨t1, t2⟩
theorem BYc.fr {g : HS} {W : List Nat} {K : List (Nat × Nat)} {D : Nat → Prop} (B : BYc h n β) (w : 160 ≤ h.1) (f : FR W K D h g) (ok : ¬ 57 ∈ W ∧ ¬ (57, 0) ∈ K ∧ frO [58] W K) : BYc g n β := ⟨B.1, (f.fI w 57 0 ⟨by decide, ok.1, ok.2.1⟩).trans B.2.1, fun j hj => ⟨(B.2.2 j hj).1, by rw [f.fA w 58 (ok.2.2 58 (by decide))]; exact (B.2.2 j hj).2⟩⟩
theorem STc.fr {g : HS} {W : List Nat} {K : List (Nat × Nat)} {D : Nat → Prop} (A : STc h) (w : 160 ≤ h.1) (f : FR W K D h g) (ok : frO [2, 3, 4, 5, 6, 7, 8, 9, 10, 11, 12, 13, 14, 15, 16, 17, 18, 19, 20, 21, 22, 23] W K) : STc g := by
  have k2 : hI g 2 = hI h 2 := f.fA w 2 (ok 2 (by decide))
  have ks : ∀ a, 2 < a → a < 24 → hI g a = hI h a := fun a a1 a2 => f.fA w a (ok a ((by decide : ∀ a, a < 24 → 2 < a → a ∈ [2, 3, 4, 5, 6, 7, 8, 9, 10, 11, 12, 13, 14, 15, 16, 17, 18, 19, 20, 21, 22, 23]) a a2 a1))
  refine ⟨fun k hk => ?_, (f.N (by omega)).trans A.2⟩
  obtain ⟨a1, a2, a3, a4⟩ := A.1 k hk
  obtain ⟨-, -, -, -, -, w1, w2⟩ := wst_f k hk
  rw [k2, ks _ w2 w1]
  exact ⟨a1, (f.N (by omega)).trans a2, (f.T (by omega)).trans a3, a4⟩
theorem scL (B : BYc h n β) (A : STc h) (w : 160 ≤ h.1) (hF : 1000 ≤ F) : ∀ (f q i j : Nat) (g : HS), q ≤ n → n - q < f → i ≤ q → FR [59, 60] [(57, 2)] nD h g → hI g 57 2 = nI j → TKc g n β j → (∀ k, k < j → tPl n β k < n) → skp n β q = tPl n β j → ∃ g', p103_L9 F f g (nI q) (nI i) = some g' ∧ FR [59, 60] [(57, 2)] nD h g' ∧ TKc g' n β (tMx n β + 1) := by
  have hn := B.1
  obtain ⟨x1, x2, x3⟩ := tMx_b (n := n) (β := β) hn
  intro f
  induction f with
  | zero => intro q i j g _ z; omega
  | succ f ih =>
    intro q i j g hq hf hi fg e2 T hP hs
    have Bg := B.fr w fg (by decide)
    have Ag := A.fr w fg (by decide)
    have jm : j ≤ tMx n β := by
      rcases Nat.lt_or_ge (tMx n β) j with z | z
      · have := hP _ z; omega
      · exact z
    have fin : tPl n β j = n → ∃ g', p103_j66 F g = some g' ∧ FR [59, 60] [(57, 2)] nD h g' ∧ TKc g' n β (tMx n β + 1) := by
      intro z
      have ej : j = tMx n β := by
        rcases Nat.lt_or_ge j (tMx n β) with y | y
        · have := x3 j y; omega
        · omega
      have et : tTk n β j = 10002 := by rw [ej]; exact tTk_m hn
      refine ⟨hsI (hsI (hsI g 59 j (nI (tTk n β j))) 60 j (nI (tPl n β j))) 57 2 (nI (j + 1)), ?_, ((fg.sI (Or.inl (by decide))).sI (Or.inl (by decide))).sI (Or.inr (Or.inr (Or.inl (by decide)))), by rw [← ej]; exact T.s⟩
      unfold p103_j66
      rw [Bg.2.1, kpE (c := j) (by omega) e2, ob, et, z]
      rfl
    rw [p103_L9, Bg.2.1]
    by_cases z : q < n
    · obtain ⟨b1, b2'⟩ := Bg.2.2 q z
      rw [if_pos (show nI i < 400 from nI_lt (b := 400) (by omega) (by decide)), if_pos (nI_lt z (by omega)), if_neg (nI_in (by omega) (by decide)), nI_clamp (by omega), b2']
      unfold p103_j60
      by_cases c : β q = 32
      · rw [if_pos (show nI (β q) = 32 by rw [c]; rfl), nI_1, nI_1]
        refine ih (q + 1) (i + 1) j g (by omega) (by omega) (by omega) fg e2 T hP ?_
        rw [← hs]
        unfold skp
        rw [adn_s z, if_pos (decide_eq_true c)]
      · have eP : tPl n β j = q := by
          rw [← hs]
          unfold skp
          rw [adn_s z, decide_eq_false c]
          rfl
        obtain ⟨t1, t2⟩ := tEn_b (n := n) (β := β) z
        have et : tTk n β j = tkn n β q := by unfold tTk; rw [eP, if_pos z]
        have jl : j < 401 := by omega
        have := kpE (x := nI (tTk n β j)) (y := nI (tPl n β j)) jl e2
        rw [et, eP] at this
        rw [if_neg (show ¬ nI (β q) = 32 from fun y => c ((nI_eq (b := 32) (by omega) (by decide)).mp y)), tenC Bg hF z, ob, tknC Bg Ag hF z, ob, this, ob, nI_1]
        refine ih (tEn n β q) (i + 1) (j + 1) (hsI (hsI (hsI g 59 j (nI (tkn n β q))) 60 j (nI q)) 57 2 (nI (j + 1))) t2 (by omega) (by omega) (((fg.sI (Or.inl (by decide))).sI (Or.inl (by decide))).sI (Or.inr (Or.inr (Or.inl (by decide))))) (hsI_s _ _ _ _) ?_ (fun k hk => ?_) ?_
        · have := T.s
          rw [et, eP] at this
          exact this
        · by_cases y : k = j
          · subst y; rw [eP]; exact z
          · exact hP k (by omega)
        · rw [tPl, eP, if_pos z]
    · have : q = n := by omega
      subst this
      have eP : tPl q β j = q := by
        rw [← hs]
        exact adn_n (Nat.le_refl _)
      rw [if_neg (show ¬ nI q < nI q from Int32.lt_irrefl), ite_self]
      exact fin eP
theorem scanC (B : BYc h n β) (A : STc h) (w : 160 ≤ h.1) (hF : 1000 ≤ F) : ∃ g, p103 F h = some g ∧ FR [59, 60] [(57, 2)] nD h g ∧ TKc g n β (tMx n β + 1) := by
  have f0 : FR [59, 60] [(57, 2)] nD h (hsI h 57 2 0) := (FR.rf nD160).sI (Or.inr (Or.inr (Or.inl (by decide))))
  obtain ⟨g, e, f, T⟩ := scL (F := F) B A w hF F 0 0 0 (hsI h 57 2 0) (Nat.zero_le _) (by have := B.1; omega) (Nat.le_refl _) f0 (hsI_s _ _ _ _) (fun k z => by omega) (fun k z => by omega) rfl
  exact ⟨g, e, f, T⟩
end SC2
