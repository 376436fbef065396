/-! a law's text: the model's state while it reads -/
def MKk : List (Nat × Nat) := [(86, 53), (86, 54), (86, 55), (86, 56), (86, 57), (86, 67), (86, 68)]
def MWw : List Nat := [133, 134, 135]
def AM (g0 : HS) (n : Nat) (β : Nat → Nat) (l : Nat) : Prop := 160 ≤ g0.1 ∧ MH g0 n β ∧ STc g0 ∧ hI g0 86 58 = nI l ∧ l < 20
def tp (S : List Nat) : Int32 := if S.length = 0 then -1 else nI (S.getD (S.length - 1) 0)
def MCX (g0 g : HS) (l : Nat) : Prop := FR MWw MKk nD g0 g ∧ ∀ j, j < 400 * l → hI g 133 j = hI g0 133 j ∧ hI g 134 j = hI g0 134 j
def MC (n : Nat) (β : Nat → Nat) (l : Nat) (g0 g : HS) (p : Nat) (S : List Nat) (s : PST) (d e : Nat) : Prop := MCX g0 g l ∧ (p ≤ n ∧ skp n β p = tPl n β s.1) ∧ hI g 86 53 = nI p ∧ (hI g 86 55 = nI e ∧ e < 100000) ∧ hI g 86 56 = nI d ∧ hI g 86 57 = nI s.2.1 ∧ hI g 86 67 = nI s.2.2.length ∧ hI g 86 68 = nI S.length ∧ (∀ j, j < S.length → hI g 135 j = nI (S.getD j 0)) ∧ ∀ j, j < s.2.2.length → hI g 133 (400 * l + j) = nI (opM (s.2.2.getD j 0)) ∧ (s.2.2.getD j 0 < 10021 → hI g 134 (400 * l + j) = nI (whM (s.2.2.getD j 0)))
theorem tp_a (S : List Nat) (k : Nat) : tp (S ++ [k]) = nI k := by
  unfold tp
  have : (S ++ [k]).length = S.length + 1 := by rw [List.length_append]; rfl
  rw [this, if_neg (Nat.succ_ne_zero _), Nat.add_sub_cancel, gdA, if_neg (Nat.lt_irrefl _), Nat.sub_self]
  rfl
section MOP
variable {n : Nat} {β : Nat → Nat} {l : Nat} {g0 g : HS} {p : Nat} {S : List Nat} {s : PST} {d e F : Nat}
theorem MC.am (A : AM g0 n β l) (M : MC n β l g0 g p S s d e) : 160 ≤ g.1 ∧ MH g n β ∧ STc g ∧ hI g 86 58 = nI l := by
  obtain ⟨a1, a2, a3, a4, a5⟩ := A
  have f := M.1.1
  exact ⟨Nat.le_trans a1 f.1, a2.fr a1 f (by decide), a3.fr a1 f (by decide), (f.fI a1 86 58 (by decide)).trans a4⟩
theorem MC.bl (A : AM g0 n β l) (hF : 1000 ≤ F) (M : MC n β l g0 g p S s d e) : ∃ g', p245 F g = some g' ∧ MC n β l g0 g' (tPl n β s.1) S s d e ∧ hI g' 86 54 = nI (tPl n β s.1) := by
  obtain ⟨w, mh, -, -⟩ := M.am A
  obtain ⟨⟨m0, m0'⟩, ⟨m1, m2⟩, m3, ⟨m4, m4'⟩, m5, m6, m7, m8, m9, m10⟩ := M
  obtain ⟨g', e1, f1, x1, x2⟩ := blE (F := F) mh w hF m1 m3
  rw [m2] at x1 x2
  obtain ⟨t1, t2, -⟩ := tPl_b (n := n) (β := β) s.1
  have f1' : FR MWw MKk nD g g' := f1.mo (fun a z => nomatch z) (by decide) (fun _ z => z) nD160
  have r133 : hI g' 133 = hI g 133 := f1.fA w 133 (by decide)
  have r134 : hI g' 134 = hI g 134 := f1.fA w 134 (by decide)
  have r135 : hI g' 135 = hI g 135 := f1.fA w 135 (by decide)
  have k55 : hI g' 86 55 = hI g 86 55 := f1.fI w 86 55 (by decide)
  have k56 : hI g' 86 56 = hI g 86 56 := f1.fI w 86 56 (by decide)
  have k57 : hI g' 86 57 = hI g 86 57 := f1.fI w 86 57 (by decide)
  have k67 : hI g' 86 67 = hI g 86 67 := f1.fI w 86 67 (by decide)
  have k68 : hI g' 86 68 = hI g 86 68 := f1.fI w 86 68 (by decide)
  refine ⟨g', e1, ⟨⟨m0.tr f1', fun j hj => by rw [r133, r134]; exact m0' j hj⟩, ⟨t1, t2⟩, x1, ⟨by rw [k55]; exact m4, m4'⟩, by rw [k56]; exact m5, by rw [k57]; exact m6, by rw [k67]; exact m7, by rw [k68]; exact m8, fun j hj => by rw [r135]; exact m9 j hj, fun j hj => by rw [r133, r134]; exact m10 j hj⟩, x2⟩
/-- one field of the model written -/
theorem MC.w1 (M : MC n β l g0 g p S s d e) {k : Nat} {v : Int32} (hk : (86, k) ∈ MKk) {p' : Nat} {S' : List Nat} {s' : PST} {d' e' : Nat} (hp : p' ≤ n ∧ skp n β p' = tPl n β s'.1) (h53 : hI (hsI g 86 k v) 86 53 = nI p') (h55 : hI (hsI g 86 k v) 86 55 = nI e' ∧ e' < 100000) (h56 : hI (hsI g 86 k v) 86 56 = nI d') (h57 : hI (hsI g 86 k v) 86 57 = nI s'.2.1) (hC : s'.2.2 = s.2.2) (h67 : hI (hsI g 86 k v) 86 67 = hI g 86 67) (h68 : hI (hsI g 86 k v) 86 68 = nI S'.length) (hS : ∀ j, j < S'.length → hI g 135 j = nI (S'.getD j 0)) : MC n β l g0 (hsI g 86 k v) p' S' s' d' e' := by
  obtain ⟨⟨m0, m0'⟩, -, m3, m4, m5, m6, m7, m8, m9, m10⟩ := M
  have r : ∀ a, ¬ a = 86 → hI (hsI g 86 k v) a = hI g a := fun a ha => hsI_n ha
  refine ⟨⟨m0.sI (Or.inr (Or.inr (Or.inl hk))), fun j hj => by rw [r 133 (by decide), r 134 (by decide)]; exact m0' j hj⟩, hp, h53, h55, h56, h57, ?_, h68, fun j hj => by rw [r 135 (by decide)]; exact hS j hj, fun j hj => ?_⟩
  · rw [h67, hC]; exact m7
  · rw [hC] at hj ⊢
    rw [r 133 (by decide), r 134 (by decide)]
    exact m10 j hj
theorem MC.po (M : MC n β l g0 g p S s d e) {p' i' : Nat} (hp : p' ≤ n ∧ skp n β p' = tPl n β i') : MC n β l g0 (hsI g 86 53 (nI p')) p' S (i', s.2.1, s.2.2) d e := by
  obtain ⟨m0, -, m3, m4, m5, m6, m7, m8, m9, m10⟩ := id M
  exact M.w1 (by decide) hp (hsI_s _ _ _ _) ⟨by rw [hsI_k (by decide)]; exact m4.1, m4.2⟩ (by rw [hsI_k (by decide)]; exact m5) (by rw [hsI_k (by decide)]; exact m6) rfl (hsI_k (by decide)) (by rw [hsI_k (by decide)]; exact m8) m9
theorem MC.fl (M : MC n β l g0 g p S s d e) {x y : Int32} {k q : Nat} (hx : x = nI k) (hy : y = nI q) (hk : k < 8) (hq : q ≤ 400) : ∃ g', p244 g x y = some g' ∧ MC n β l g0 g' p S s d (if e = 0 then 1 + 8 * q + k else e) := by
  obtain ⟨m0, m1, m3, m4, m5, m6, m7, m8, m9, m10⟩ := id M
  unfold p244
  rw [m4.1]
  by_cases z : e = 0
  · rw [if_pos (show nI e = 0 by rw [z]; rfl), if_pos z, hx, hy, show (8 : Int32) = nI 8 from rfl, show (1 : Int32) = nI 1 from rfl, pk_mul, nI_add, nI_add]
    exact ⟨_, rfl, M.w1 (by decide) m1 (by rw [hsI_k (by decide)]; exact m3) ⟨hsI_s _ _ _ _, by omega⟩ (by rw [hsI_k (by decide)]; exact m5) (by rw [hsI_k (by decide)]; exact m6) rfl (hsI_k (by decide)) (by rw [hsI_k (by decide)]; exact m8) m9⟩
  · rw [if_neg (nI_ne0 (by omega) (by omega)), if_neg z]
    exact ⟨g, rfl, M⟩
theorem MC.dp (M : MC n β l g0 g p S s d e) {y : Int32} {q : Nat} (hy : y = nI q) (hq : q ≤ 400) (hd : d < 1000) : ∃ g', p256 g y = some g' ∧ MC n β l g0 g' p S s (d + 1) (if d = 10 then (if e = 0 then 1 + 8 * q + 2 else e) else e) := by
  have inc : ∀ {g : HS} {e : Nat}, MC n β l g0 g p S s d e → MC n β l g0 (hsI g 86 56 (hI g 86 56 + 1)) p S s (d + 1) e := by
    intro g e M
    obtain ⟨m0, m1, m3, m4, m5, m6, m7, m8, m9, m10⟩ := id M
    exact M.w1 (by decide) m1 (by rw [hsI_k (by decide)]; exact m3) ⟨by rw [hsI_k (by decide)]; exact m4.1, m4.2⟩ (by rw [hsI_s, m5, nI_1]) (by rw [hsI_k (by decide)]; exact m6) rfl (hsI_k (by decide)) (by rw [hsI_k (by decide)]; exact m8) m9
  have m5 := M.2.2.2.2.1
  unfold p256 p256_j15
  rw [m5]
  by_cases z : d = 10
  · rw [if_pos (show nI d = 10 by rw [z]; rfl), if_pos z]
    obtain ⟨g2, e2, M2⟩ := M.fl (show (2 : Int32) = nI 2 from rfl) hy (by decide) hq
    rw [e2, ob]
    exact ⟨_, rfl, inc M2⟩
  · have z' : ¬ nI d = 10 := fun y => z ((nI_eq (b := 10) (by omega) (by decide)).mp y)
    rw [if_neg z', if_neg z, ← m5]
    exact ⟨_, rfl, inc M⟩
theorem MC.ct (M : MC n β l g0 g p S s d e) {y : Int32} {q : Nat} (hy : y = nI q) (hq : q ≤ 400) (hc : s.2.1 < 1000) : ∃ g', p258 g y = some g' ∧ MC n β l g0 g' p S (s.1, s.2.1 + 1, s.2.2) d (if s.2.1 = 80 then (if e = 0 then 1 + 8 * q + 3 else e) else e) := by
  have inc : ∀ {g : HS} {e : Nat}, MC n β l g0 g p S s d e → MC n β l g0 (hsI g 86 57 (hI g 86 57 + 1)) p S (s.1, s.2.1 + 1, s.2.2) d e := by
    intro g e M
    obtain ⟨m0, m1, m3, m4, m5, m6, m7, m8, m9, m10⟩ := id M
    exact M.w1 (by decide) m1 (by rw [hsI_k (by decide)]; exact m3) ⟨by rw [hsI_k (by decide)]; exact m4.1, m4.2⟩ (by rw [hsI_k (by decide)]; exact m5) (by rw [hsI_s, m6, nI_1]) rfl (hsI_k (by decide)) (by rw [hsI_k (by decide)]; exact m8) m9
  have m6 := M.2.2.2.2.2.1
  unfold p258 p258_j15
  rw [m6]
  by_cases z : s.2.1 = 80
  · rw [if_pos (show nI s.2.1 = 80 by rw [z]; rfl), if_pos z]
    obtain ⟨g2, e2, M2⟩ := M.fl (show (3 : Int32) = nI 3 from rfl) hy (by decide) hq
    rw [e2, ob]
    exact ⟨_, rfl, inc M2⟩
  · have z' : ¬ nI s.2.1 = 80 := fun y => z ((nI_eq (b := 80) (by omega) (by decide)).mp y)
    rw [if_neg z', if_neg z, ← m6]
    exact ⟨_, rfl, inc M⟩
theorem MC.em (A : AM g0 n β l) (M : MC n β l g0 g p S s d e) {x y : Int32} {t : Nat} (hx : x = nI (opM t)) (hy : t < 10021 → y = nI (whM t)) (hl : s.2.2.length < 400) : ∃ g', p252 g x y = some g' ∧ MC n β l g0 g' p S (s.1, s.2.1, s.2.2 ++ [t]) d e := by
  have hl20 := A.2.2.2.2
  obtain ⟨w, -, -, e58⟩ := M.am A
  obtain ⟨⟨m0, m0'⟩, m1, m3, m4, m5, m6, m7, m8, m9, m10⟩ := M
  have ix : (400 : Int32) * nI l + nI s.2.2.length = nI (400 * l + s.2.2.length) := by rw [show (400 : Int32) = nI 400 from rfl, pk_mul, nI_add]
  have r86 : hI (hsI g 133 (400 * l + s.2.2.length) x) 86 = hI g 86 := hsI_n (by decide)
  have r86' : hI (hsI (hsI g 133 (400 * l + s.2.2.length) x) 134 (400 * l + s.2.2.length) y) 86 = hI g 86 := (hsI_n (by decide)).trans r86
  have ll : (s.2.2 ++ [t]).length = s.2.2.length + 1 := by rw [List.length_append]; rfl
  refine ⟨hsI (hsI (hsI g 133 (400 * l + s.2.2.length) x) 134 (400 * l + s.2.2.length) y) 86 67 (nI (s.2.2.length + 1)), ?_, ⟨((m0.sI (Or.inl (by decide))).sI (Or.inl (by decide))).sI (Or.inr (Or.inr (Or.inl (by decide)))), fun j hj => ?_⟩, m1, ?_, ⟨?_, m4.2⟩, ?_, ?_, ?_, ?_, fun j hj => ?_, fun j hj => ?_⟩
  · unfold p252
    rw [e58, m7, ix, nI_clamp (by omega), if_neg (nI_in' (by omega) (by decide)), r86, e58, m7, ix, nI_clamp (by omega), if_neg (nI_in' (by omega) (by decide)), ob, r86', m7, nI_1]
  · have a1 : hI (hsI (hsI (hsI g 133 (400 * l + s.2.2.length) x) 134 (400 * l + s.2.2.length) y) 86 67 (nI (s.2.2.length + 1))) 133 = hI (hsI g 133 (400 * l + s.2.2.length) x) 133 := (hsI_n (by decide)).trans (hsI_n (by decide))
    have a2 : hI (hsI (hsI (hsI g 133 (400 * l + s.2.2.length) x) 134 (400 * l + s.2.2.length) y) 86 67 (nI (s.2.2.length + 1))) 134 = hI (hsI (hsI g 133 (400 * l + s.2.2.length) x) 134 (400 * l + s.2.2.length) y) 134 := hsI_n (by decide)
    rw [a1, a2, hsI_k (by omega), hsI_k (by omega), hsI_n (by decide)]
    exact m0' j hj
  · rw [hsI_k (by decide), r86']; exact m3
  · rw [hsI_k (by decide), r86']; exact m4.1
  · rw [hsI_k (by decide), r86']; exact m5
  · rw [hsI_k (by decide), r86']; exact m6
  · rw [hsI_s, ll]
  · rw [hsI_k (by decide), r86']; exact m8
  · rw [hsI_n (by decide), hsI_n (by decide), hsI_n (by decide)]; exact m9 j hj
  · have hj : j < s.2.2.length + 1 := by rw [← ll]; exact hj
    have a1 : hI (hsI (hsI (hsI g 133 (400 * l + s.2.2.length) x) 134 (400 * l + s.2.2.length) y) 86 67 (nI (s.2.2.length + 1))) 133 = hI (hsI g 133 (400 * l + s.2.2.length) x) 133 := (hsI_n (by decide)).trans (hsI_n (by decide))
    have a2 : hI (hsI (hsI (hsI g 133 (400 * l + s.2.2.length) x) 134 (400 * l + s.2.2.length) y) 86 67 (nI (s.2.2.length + 1))) 134 = hI (hsI (hsI g 133 (400 * l + s.2.2.length) x) 134 (400 * l + s.2.2.length) y) 134 := hsI_n (by decide)
    show hI _ 133 (400 * l + j) = nI (opM ((s.2.2 ++ [t]).getD j 0)) ∧ ((s.2.2 ++ [t]).getD j 0 < 10021 → hI _ 134 (400 * l + j) = nI (whM ((s.2.2 ++ [t]).getD j 0)))
    rw [a1, a2, gdA]
    by_cases z : j = s.2.2.length
    · subst z
      rw [if_neg (Nat.lt_irrefl _), Nat.sub_self, hsI_s, hsI_s, hx]
      exact ⟨rfl, hy⟩
    · rw [if_pos (by omega), hsI_k (by omega), hsI_k (by omega), hsI_n (by decide)]
      exact m10 j (by omega)
theorem MC.op (A : AM g0 n β l) (M : MC n β l g0 g p S s d e) {x : Int32} {k : Nat} (hx : x = nI k) (hS : S.length < 400) : ∃ g', p253 g x = some g' ∧ MC n β l g0 g' p (S ++ [k]) s d e := by
  obtain ⟨⟨m0, m0'⟩, m1, m3, m4, m5, m6, m7, m8, m9, m10⟩ := M
  have r86 : hI (hsI g 135 S.length x) 86 = hI g 86 := hsI_n (by decide)
  have ll : (S ++ [k]).length = S.length + 1 := by rw [List.length_append]; rfl
  have rr : ∀ a, ¬ a = 86 → ¬ a = 135 → hI (hsI (hsI g 135 S.length x) 86 68 (nI (S.length + 1))) a = hI g a := fun a h1 h2 => (hsI_n h1).trans (hsI_n h2)
  refine ⟨hsI (hsI g 135 S.length x) 86 68 (nI (S.length + 1)), ?_, ⟨(m0.sI (Or.inl (by decide))).sI (Or.inr (Or.inr (Or.inl (by decide)))), fun j hj => by rw [rr 133 (by decide) (by decide), rr 134 (by decide) (by decide)]; exact m0' j hj⟩, m1, ?_, ⟨?_, m4.2⟩, ?_, ?_, ?_, ?_, fun j hj => ?_, fun j hj => by rw [rr 133 (by decide) (by decide), rr 134 (by decide) (by decide)]; exact m10 j hj⟩
  · unfold p253
    rw [m8, nI_clamp (by omega), if_neg (nI_in' hS (by decide)), r86, m8, nI_1, ob]
  · rw [hsI_k (by decide), r86]; exact m3
  · rw [hsI_k (by decide), r86]; exact m4.1
  · rw [hsI_k (by decide), r86]; exact m5
  · rw [hsI_k (by decide), r86]; exact m6
  · rw [hsI_k (by decide), r86]; exact m7
  · rw [hsI_s, ll]
  · rw [ll] at hj
    rw [hsI_n (by decide), gdA]
    by_cases z : j = S.length
    · subst z
      rw [if_neg (Nat.lt_irrefl _), Nat.sub_self, hsI_s, hx]
      rfl
    · rw [if_pos (by omega), hsI_k z]
      exact m9 j (by omega)
theorem MC.tp (M : MC n β l g0 g p S s d e) (hS : S.length ≤ 400) : p254 g = some (tp S) := by
  obtain ⟨m0, m1, m3, m4, m5, m6, m7, m8, m9, m10⟩ := M
  unfold p254 CFilesOpenedLaw_law_r5264_0a9391.tp
  rw [m8]
  by_cases z : S.length = 0
  · rw [if_pos (show nI S.length = 0 by rw [z]; rfl), if_pos z]
  · rw [if_neg (nI_ne0 (by omega) (by omega)), if_neg z, show nI S.length - 1 = nI (S.length - 1) from pk_sub (b := 1) (by omega), if_neg (nI_in (by omega) (by decide)), nI_clamp (by omega), m9 _ (by omega)]
/-- the topmost is taken off -/
theorem MC.pp {k : Nat} (M : MC n β l g0 g p (S ++ [k]) s d e) (hS : S.length < 400) : MC n β l g0 (hsI g 86 68 (hI g 86 68 - 1)) p S s d e ∧ hI (hsI g 86 68 (hI g 86 68 - 1)) 86 68 = nI S.length ∧ hI (hsI g 86 68 (hI g 86 68 - 1)) 135 S.length = nI k := by
  obtain ⟨m0, m1, m3, m4, m5, m6, m7, m8, m9, m10⟩ := id M
  have ll : (S ++ [k]).length = S.length + 1 := by rw [List.length_append]; rfl
  have e68 : hI (hsI g 86 68 (hI g 86 68 - 1)) 86 68 = nI S.length := by rw [hsI_s, m8, ll, nI_pred]
  refine ⟨M.w1 (by decide) m1 (by rw [hsI_k (by decide)]; exact m3) ⟨by rw [hsI_k (by decide)]; exact m4.1, m4.2⟩ (by rw [hsI_k (by decide)]; exact m5) (by rw [hsI_k (by decide)]; exact m6) rfl (hsI_k (by decide)) e68 (fun j hj => ?_), e68, ?_⟩
  · rw [m9 j (by omega), gdA, if_pos hj]
  · rw [hsI_n (by decide), m9 _ (by omega), gdA, if_neg (Nat.lt_irrefl _), Nat.sub_self]
    rfl
/-- .. and written down -/
theorem MC.pe (A : AM g0 n β l) {t : Nat} (ht : ¬ t < 10021) (M : MC n β l g0 g p (S ++ [opM t]) s d e) (hS : S.length < 400) (hl : s.2.2.length < 400) : ∃ g', (∀ {α : Type} (K : HS → Option α), (if hI (hsI g 86 68 (hI g 86 68 - 1)) 86 68 < (0 : Int32) ∨ 400 ≤ (hI (hsI g 86 68 (hI g 86 68 - 1)) 86 68).toNatClampNeg then none else Option.bind (p252 (hsI g 86 68 (hI g 86 68 - 1)) (hI (hsI g 86 68 (hI g 86 68 - 1)) 135 (hI (hsI g 86 68 (hI g 86 68 - 1)) 86 68).toNatClampNeg) 0) fun r => K r) = K g') ∧ MC n β l g0 g' p S (s.1, s.2.1, s.2.2 ++ [t]) d e := by
  obtain ⟨M1, e1, e2⟩ := M.pp hS
  obtain ⟨g', e3, M3⟩ := M1.em A (x := nI (opM t)) (y := 0) (t := t) rfl (fun z => absurd z ht) hl
  refine ⟨g', fun K => ?_, M3⟩
  rw [e1, nI_clamp (by omega), if_neg (nI_in' hS (by decide)), e2, e3, ob]
end MOP
