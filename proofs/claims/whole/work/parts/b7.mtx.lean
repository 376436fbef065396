/-! a law's text: the model reads it through -/
section MTX
variable {n : Nat} {β : Nat → Nat} {l : Nat} {h0 g : HS} {s : PST} {p F : Nat} {L : List CLE} {a0 : Int32}
def W7 : List Nat := [127, 128, 129, 130, 131, 132, 133, 134, 135]
def K7 : List (Nat × Nat) := [(86, 52), (86, 53), (86, 54), (86, 55), (86, 56), (86, 57), (86, 58), (86, 67), (86, 68)]
def TMf (h0 g : HS) (l : Nat) : Prop := FR W7 K7 nD h0 g ∧ (∀ j, ¬ j = l → hI g 127 j = hI h0 127 j ∧ hI g 128 j = hI h0 128 j) ∧ (∀ j, j < 12 * l → hI g 129 j = hI h0 129 j ∧ hI g 130 j = hI h0 130 j ∧ hI g 131 j = hI h0 131 j ∧ hI g 132 j = hI h0 132 j) ∧ ∀ j, j < 400 * l → hI g 133 j = hI h0 133 j ∧ hI g 134 j = hI h0 134 j
def TMc (g : HS) (l : Nat) (C : List Nat) : Prop := ∀ j, j < C.length → hI g 133 (400 * l + j) = nI (opM (C.getD j 0)) ∧ (C.getD j 0 < 10021 → hI g 134 (400 * l + j) = nI (whM (C.getD j 0)))
def TMZ (h0 g : HS) (l x : Nat) : Prop := TMf h0 g l ∧ hI g 86 52 = 0 ∧ hI g 86 58 = nI x
theorem TMo.f7 (w : 160 ≤ h0.1) (o : TMo h0 g l) : TMf h0 g l := by
  obtain ⟨o1, o2, o3, o4⟩ := o
  refine ⟨o1.mo (by decide) (by decide) (fun _ z => z) nD160, fun j hj => ⟨by rw [o1.fA w 127 (by decide)], o2 j hj⟩, o3, o4⟩
theorem TMf.tr {a b c : HS} (x : TMf a b l) (y : TMf b c l) : TMf a c l := by
  obtain ⟨x1, x2, x3, x4⟩ := x
  obtain ⟨y1, y2, y3, y4⟩ := y
  refine ⟨x1.tr y1, fun j hj => ?_, fun j hj => ?_, fun j hj => ?_⟩
  · exact ⟨(y2 j hj).1.trans (x2 j hj).1, (y2 j hj).2.trans (x2 j hj).2⟩
  · obtain ⟨a1, a2, a3, a4⟩ := x3 j hj
    obtain ⟨b1, b2', b3, b4⟩ := y3 j hj
    exact ⟨b1.trans a1, b2'.trans a2, b3.trans a3, b4.trans a4⟩
  · obtain ⟨a1, a2⟩ := x4 j hj
    obtain ⟨b1, b2'⟩ := y4 j hj
    exact ⟨b1.trans a1, b2'.trans a2⟩
theorem TMf.k {k : Nat} {v : Int32} (hk : (86, k) ∈ K7) : TMf g (hsI g 86 k v) l := by
  have r : ∀ x, ¬ x = 86 → hI (hsI g 86 k v) x = hI g x := fun x hx => hsI_n hx
  refine ⟨(FR.rf nD160).sI (Or.inr (Or.inr (Or.inl hk))), fun j _ => by rw [r 127 (by decide), r 128 (by decide)]; exact ⟨rfl, rfl⟩, fun j _ => ?_, fun j _ => ?_⟩
  · rw [r 129 (by decide), r 130 (by decide), r 131 (by decide), r 132 (by decide)]; exact ⟨rfl, rfl, rfl, rfl⟩
  · rw [r 133 (by decide), r 134 (by decide)]; exact ⟨rfl, rfl⟩
theorem TMf.wl {a : Nat} {v : Int32} (ha : a = 127 ∨ a = 128) : TMf g (hsI g a l v) l := by
  have r : ∀ x, ¬ x = a → hI (hsI g a l v) x = hI g x := fun x hx => hsI_n hx
  have rk : ∀ x j, ¬ j = l → hI (hsI g a l v) x j = hI g x j := by
    intro x j hj
    by_cases z : x = a
    · rw [z, hsI_k hj]
    · rw [r x z]
  refine ⟨(FR.rf nD160).sI (Or.inl (by rcases ha with rfl | rfl <;> decide)), fun j hj => ⟨rk 127 j hj, rk 128 j hj⟩, fun j _ => ?_, fun j _ => ?_⟩
  · rw [r 129 (by omega), r 130 (by omega), r 131 (by omega), r 132 (by omega)]; exact ⟨rfl, rfl, rfl, rfl⟩
  · rw [r 133 (by omega), r 134 (by omega)]; exact ⟨rfl, rfl⟩
theorem endE (o : TMf h0 g l) (hl : l < 20) (e58 : hI g 86 58 = nI l) {e : Nat} (e55 : hI g 86 55 = nI e) (he : 0 < e ∧ e < 100000) : ∃ g', p267_j109 F a0 g = some (-2 - nI e, g') ∧ TMZ h0 g' l l := by
  have a1 : hI (hsI g 86 52 0) 86 55 = nI e := by rw [hsI_k (by decide)]; exact e55
  have a2 : hI (hsI g 86 52 0) 86 58 = nI l := by rw [hsI_k (by decide)]; exact e58
  have a3 : hI (hsI (hsI g 86 52 0) 128 l 0) 86 = hI (hsI g 86 52 0) 86 := hsI_n (by decide)
  refine ⟨hsI (hsI g 86 52 0) 128 l 0, ?_, (o.tr (TMf.k (by decide))).tr (TMf.wl (Or.inr rfl)), by rw [a3]; exact hsI_s _ _ _ _, by rw [a3]; exact a2⟩
  unfold p267_j109
  rw [a1, if_pos (show (0 : Int32) < nI e from nI_lt (a := 0) he.1 (by omega)), a2, nI_clamp (by omega), if_neg (nI_in' hl (by decide)), a3, a1]
theorem endO (o : TMf h0 g l) (hl : l < 20) (e58 : hI g 86 58 = nI l) (e55 : hI g 86 55 = nI 0) : ∃ g', p267_j109 F a0 g = some (nI l, g') ∧ TMZ h0 g' l (l + 1) ∧ hI g' 127 l = a0 ∧ ∀ x, x ∈ [128, 129, 130, 131, 132, 133, 134] → hI g' x = hI g x := by
  have a1 : hI (hsI g 86 52 0) 86 55 = nI 0 := by rw [hsI_k (by decide)]; exact e55
  have a2 : hI (hsI g 86 52 0) 86 58 = nI l := by rw [hsI_k (by decide)]; exact e58
  have a3 : hI (hsI (hsI g 86 52 0) 127 l a0) 86 = hI (hsI g 86 52 0) 86 := hsI_n (by decide)
  refine ⟨hsI (hsI (hsI g 86 52 0) 127 l a0) 86 58 (nI (l + 1)), ?_, ⟨((o.tr (TMf.k (by decide))).tr (TMf.wl (Or.inl rfl))).tr (TMf.k (by decide)), by rw [hsI_k (by decide), a3]; exact hsI_s _ _ _ _, hsI_s _ _ _ _⟩, by rw [hsI_n (by decide)]; exact hsI_s _ _ _ _, fun x hx => ?_⟩
  · unfold p267_j109
    rw [a1, if_neg (show ¬ (0 : Int32) < nI 0 by decide), a2, nI_clamp (by omega), if_neg (nI_in' hl (by decide)), a3, a2, ob, nI_1, hsI_s, show (1 : Int32) = nI 1 from rfl, pk_sub (by omega), Nat.add_sub_cancel]
  · have hx' : ¬ x = 86 ∧ ¬ x = 127 := by
      simp only [List.mem_cons, List.not_mem_nil, or_false] at hx
      omega
    rw [hsI_n hx'.1, hsI_n hx'.2, hsI_n hx'.1]
theorem TM.nx (A0 : AM h0 n β l) {q : PST} (K : TM n β l h0 g (tPl n β q.1) q L) (ht : tTk n β q.1 = 10040) : TM n β l h0 (hsI g 86 53 (nI (tPl n β q.1 + 1))) (tPl n β q.1 + 1) (q.1 + 1, q.2.1, q.2.2) L := by
  obtain ⟨o0, ⟨S, d, M⟩, r1, r2⟩ := K
  obtain ⟨x1, x2⟩ := nx1 (c := 59) (by decide) ht
  obtain ⟨y1, y2⟩ := nxt x1
  rw [x2] at y1 y2
  have r : ∀ x, ¬ x = 86 → hI (hsI g 86 53 (nI (tPl n β q.1 + 1))) x = hI g x := fun x hx => hsI_n hx
  refine ⟨o0.tr (TMo.f (by decide)), ⟨S, d, (M.po ⟨y1, y2⟩).self⟩, ?_, fun c hc => ?_⟩
  · rw [r 128 (by decide)]; exact r1
  · rw [r 129 (by decide), r 130 (by decide), r 131 (by decide), r 132 (by decide)]; exact r2 c hc
/-- the whole text -/
theorem txM (A0 : AM h0 n β l) (hF : 3000 ≤ F) : ∀ (N f : Nat) (g : HS) (p : Nat) (s : PST) (L : List CLE), tMx n β - s.1 < N → tMx n β - s.1 + 2 < f → TM n β l h0 g p s L → s.1 ≤ tMx n β → s.2.2.length ≤ s.1 → s.2.1 ≤ 80 → L.length ≤ 12 → lbg L L.length = s.2.2.length → ∃ g', (∃ e, aTx (tTk n β) (tPl n β) N L s = Sum.inl e ∧ p267_L57 F a0 f g 1 = some (-2 - nI e, g') ∧ TMZ h0 g' l l ∧ 0 < e ∧ e < 100000) ∨ (∃ r L', aTx (tTk n β) (tPl n β) N L s = Sum.inr (r, L') ∧ p267_L57 F a0 f g 1 = some (nI l, g') ∧ TMZ h0 g' l (l + 1) ∧ hI g' 127 l = a0 ∧ TMr g' l L' ∧ TMc g' l r.2.2) := by
  have hn := A0.2.1.1
  have hl20 := A0.2.2.2.2
  have w := A0.1
  have hmx := tMx_b (n := n) (β := β) hn
  have hTm := tTk_m (n := n) (β := β) hn
  intro N
  induction N with
  | zero => intro f g p s L z; omega
  | succ N ih =>
    intro f g p s L hN hf K hs hlen hc hL h4
    obtain ⟨f, rfl⟩ : ∃ f', f = f' + 2 := ⟨f - 2, by omega⟩
    have e55 : hI g 86 55 = nI 0 := by obtain ⟨-, ⟨S, d, M⟩, -⟩ := K; exact M.2.2.2.1.1
    obtain ⟨g2, e2, c⟩ := clM A0 hF K hs hlen hc hL h4
    rw [p267_L57, if_neg n10, if_pos (show hI g 86 55 = 0 by rw [e55]; rfl), e2, ob, aTx]
    have bad : ∀ e, TME h0 g2 l e → ∃ g', (if hI g2 86 55 = 0 then (if hI g2 86 53 < hI g2 86 52 then p267_j95 F a0 (p267_L57 F a0 (f + 1)) g2 1 else p267_j94 F a0 (p267_L57 F a0 (f + 1)) g2) else p267_j94 F a0 (p267_L57 F a0 (f + 1)) g2) = some (-2 - nI e, g') ∧ TMZ h0 g' l l := by
      intro e ⟨o, x1, x2, x3⟩
      have o7 := (o.f7 w).tr (TMf.k (g := g2) (l := l) (k := 53) (v := hI g2 86 53 + 1) (by decide))
      have w2 : 160 ≤ g2.1 := Nat.le_trans w o.1.1
      have e58 : hI (hsI g2 86 53 (hI g2 86 53 + 1)) 86 58 = nI l := by rw [hsI_k (by decide), o.1.fI w 86 58 (by decide)]; exact A0.2.2.2.1
      obtain ⟨g3, y1, y2⟩ := endE (F := F) (a0 := a0) o7 hl20 e58 (e := e) (by rw [hsI_k (by decide)]; exact x1) ⟨x2, x3⟩
      refine ⟨g3, ?_, y2⟩
      rw [if_neg (show ¬ hI g2 86 55 = 0 by rw [x1]; exact nI_ne0 x2 (by omega))]
      unfold p267_j94 p267_j95
      rw [p267_L57, if_pos rfl, y1]
    rcases c with ⟨q, kd, x, c1, c2, c3⟩ | ⟨e, c1, c2⟩
    · obtain ⟨l1, nL, k2, x9, x2, D, G⟩ := gd_cl (P := tPl n β) hTm hs c1
      have hL12 : L.length < 12 := by omega
      obtain ⟨d1, d2, d3, d4, -⟩ := G
      have d4 := d4 hc
      have ll : (L ++ [(kd, x, q.2.2.length)]).length = L.length + 1 := by rw [List.length_append]; rfl
      have l4 : lbg (L ++ [(kd, x, q.2.2.length)]) (L ++ [(kd, x, q.2.2.length)]).length = q.2.2.length := by
        rw [ll]
        unfold lbg
        rw [if_neg (Nat.succ_ne_zero _), Nat.add_sub_cancel, lgd, if_pos rfl]
      have A := A0.fr c3.1.1 (by decide)
      have e53 : hI g2 86 53 = nI (tPl n β q.1) := by obtain ⟨-, ⟨S, d, M⟩, -⟩ := c3; exact M.2.2.1
      have e55 : hI g2 86 55 = nI 0 := by obtain ⟨-, ⟨S, d, M⟩, -⟩ := c3; exact M.2.2.2.1.1
      have e52 : hI g2 86 52 = nI n := A.2.1.2.1
      have e58 : hI g2 86 58 = nI l := A.2.2.2.1
      have tb := (tPl_b (n := n) (β := β) q.1).1
      rw [c1, Sum.elim_inr, if_pos (show hI g2 86 55 = 0 by rw [e55]; rfl), e53, e52]
      by_cases zE : tTk n β q.1 = 10002
      · rw [if_pos (show tTk n β (q, kd, x).1.1 = 10002 from zE)]
        have pe : ¬ tPl n β q.1 < n := by
          intro z
          have : tTk n β q.1 = tkn n β (tPl n β q.1) := by unfold tTk; rw [if_pos z]
          rw [this] at zE
          rcases tkn_c (β := β) z with ⟨-, b, -⟩ | ⟨-, -, -, b, -⟩ | ⟨-, -, b, -⟩
          · omega
          · omega
          · have := sgT_r (β (tPl n β q.1)) (decide (tEn n β (tPl n β q.1) = tPl n β q.1 + 2)); omega
        rw [if_neg (nI_nlt (by omega) (by omega))]
        have o7 := (c3.1.f7 w).tr (TMf.k (g := g2) (l := l) (k := 53) (v := hI g2 86 53 + 1) (by decide))
        obtain ⟨g3, y1, y2, y3, y4⟩ := endO (F := F) (a0 := a0) o7 hl20 (by rw [hsI_k (by decide)]; exact e58) (by rw [hsI_k (by decide)]; exact e55)
        have rr : ∀ x, x ∈ [128, 129, 130, 131, 132, 133, 134] → hI g3 x = hI g2 x := fun x hx => (y4 x hx).trans (hsI_n (by
          simp only [List.mem_cons, List.not_mem_nil, or_false] at hx
          omega))
        refine ⟨g3, Or.inr ⟨q, _, rfl, ?_, y2, y3, ?_, ?_⟩⟩
        · unfold p267_j94 p267_j95
          rw [p267_L57, if_pos rfl, y1]
        · obtain ⟨-, -, r1, r2⟩ := c3
          refine ⟨by rw [rr 128 (by decide)]; exact r1, fun c hc => ?_⟩
          rw [rr 129 (by decide), rr 130 (by decide), rr 131 (by decide), rr 132 (by decide)]
          exact r2 c hc
        · obtain ⟨-, ⟨S, d, M⟩, -⟩ := c3
          intro j hj
          rw [rr 133 (by decide), rr 134 (by decide)]
          exact M.2.2.2.2.2.2.2.2.2 j hj
      · have zS := c2.resolve_left zE
        obtain ⟨x1, x2'⟩ := nx1 (c := 59) (by decide) zS
        have lq : q.1 < tMx n β := lt_m hTm d1 zE
        rw [if_neg (show ¬ tTk n β (q, kd, x).1.1 = 10002 from zE), if_pos (show tTk n β (q, kd, x).1.1 = 10040 from zS), if_pos (nI_lt x1 (by omega))]
        unfold p267_j95
        rw [e53, nI_1]
        have K2 := TM.nx A0 c3 zS
        have := ih (f + 1) _ _ _ _ (by show tMx n β - (q.1 + 1) < N; omega) (by show tMx n β - (q.1 + 1) + 2 < f + 1; omega) K2 (by show q.1 + 1 ≤ tMx n β; omega) (by show q.2.2.length ≤ q.1 + 1; omega) d4 (by rw [ll]; omega) l4
        exact this
    · obtain ⟨g3, y1, y2⟩ := bad e c2
      refine ⟨g3, Or.inl ⟨e, ?_, y1, y2, c2.2.2⟩⟩
      rcases c1 with c1 | ⟨q, kd, x, c1, c3, c4⟩
      · rw [c1]; rfl
      · rw [c1, Sum.elim_inr, if_neg (show ¬ tTk n β (q, kd, x).1.1 = 10002 from fun z => c3 (Or.inl z)), if_neg (show ¬ tTk n β (q, kd, x).1.1 = 10040 from fun z => c3 (Or.inr z)), c4]
end MTX
