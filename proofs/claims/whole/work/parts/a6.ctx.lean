/-! a law's text: the class reads the text; what a law that was read is like -/
section CTX
variable {T P : Nat → Nat} {m : Nat}
theorem el_i {α β : Type} {r : Sum Nat α} {f : α → Sum Nat β} {q : β} (h : Sum.elim (fun e => Sum.inl e) f r = Sum.inr q) : ∃ s, r = Sum.inr s ∧ f s = Sum.inr q := by
  cases r with
  | inl e => cases h
  | inr s => exact ⟨s, rfl, h⟩
theorem gd_cl (hm : T m = 10002) {cc : Nat} {s r : PST} {kd x : Nat} (hs : s.1 ≤ m) (h : aCl T P cc s = Sum.inr (r, kd, x)) : s.1 < r.1 ∧ ¬ cc = 12 ∧ kd ≤ 2 ∧ x ≤ 99 ∧ (kd = 0 → x ≤ 2) ∧ ∃ D, GDr T m (decide (kd < 2)) s r D := by
  unfold aCl at h
  by_cases zv : 10021 ≤ T s.1 ∧ T s.1 ≤ 10023
  case neg => rw [if_neg zv] at h; cases h
  case pos =>
    rw [if_pos zv] at h
    obtain ⟨hk1, hk2⟩ := kdO_c zv
    generalize hk : kdO (T s.1) = k at *
    by_cases z12 : cc = 12
    · rw [if_pos z12] at h; cases h
    · rw [if_neg z12] at h
      obtain ⟨⟨s1, y⟩, e1, h⟩ := el_i h
      obtain ⟨q, e2, h⟩ := el_i h
      injection h with h
      injection h with h1 h2
      injection h2 with h2 h3
      subst h1; subst h2; subst h3
      have lt : s.1 < m := lt_m hm hs (by omega)
      have up : ∀ (b : Bool) (s1 : PST) (D : List Nat), s.1 + 1 ≤ s1.1 → s1.2.1 = s.2.1 → s1.2.2 = s.2.2 → s1.1 < q.1 ∧ GDr T m b s1 q D → s.1 < q.1 ∧ GDr T m b s q D := by
        rintro b s1 D a1 a2 a3 ⟨a4, d1, d2, d3, d4, d5, d6, d7, d8⟩
        rw [a3] at d2
        rw [a2] at d3 d4 d8
        rw [a3] at d5
        exact ⟨by omega, d1, by omega, d3, d4, d5, d6, d7, d8⟩
      unfold aHd at e1
      by_cases k2 : k = 2
      · rw [if_pos k2] at e1
        injection e1 with e1
        injection e1 with e1 e3
        subst e1; subst e3
        unfold aBd at e2
        rw [if_pos k2] at e2
        obtain ⟨⟨l1, D, gD⟩, -, -⟩ := gd_sum hm (gd_val (P := P) hm 11) _ _ (show s.1 + 1 ≤ m from lt) e2
        obtain ⟨u1, u2'⟩ := up false (s.1 + 1, s.2.1, s.2.2) D (Nat.le_refl _) rfl rfl ⟨l1, gD⟩
        refine ⟨u1, z12, hk2, Nat.zero_le _, fun z => by omega, D, ?_⟩
        rw [decide_eq_false (show ¬ k < 2 by omega)]
        exact u2'
      · rw [if_neg k2] at e1
        obtain ⟨⟨s2, y2⟩, e3, e1⟩ := el_i e1
        obtain ⟨s3, e4, e1⟩ := el_i e1
        injection e1 with e1
        injection e1 with e1 e5
        subst e1; subst e5
        have b1 : s2.1 = s.1 + 1 + 1 ∧ s2.2.1 = s.2.1 ∧ s2.2.2 = s.2.2 ∧ y2 ≤ 99 ∧ (k = 0 → y2 ≤ 2) ∧ s.1 + 1 < m := by
          by_cases k0 : k = 0
          · rw [if_pos k0] at e3
            unfold aVb at e3
            have g : ∀ v, v ≤ 2 → ¬ T (s.1 + 1) = 10002 → (Sum.inr ((s.1 + 1 + 1, s.2.1, s.2.2), v) : Sum Nat (PST × Nat)) = Sum.inr (s2, y2) → s2.1 = s.1 + 1 + 1 ∧ s2.2.1 = s.2.1 ∧ s2.2.2 = s.2.2 ∧ y2 ≤ 99 ∧ (k = 0 → y2 ≤ 2) ∧ s.1 + 1 < m := by
              intro v hv ht z
              injection z with z
              injection z with z1 z2
              subst z1; subst z2
              exact ⟨rfl, rfl, rfl, by omega, fun _ => hv, lt_m hm (show s.1 + 1 ≤ m from lt) ht⟩
            by_cases c0 : T (s.1 + 1) = 10024
            · rw [if_pos c0] at e3; exact g 0 (by decide) (by rw [c0]; decide) e3
            · rw [if_neg c0] at e3
              by_cases c1 : T (s.1 + 1) = 10025
              · rw [if_pos c1] at e3; exact g 1 (by decide) (by rw [c1]; decide) e3
              · rw [if_neg c1] at e3
                by_cases c2 : T (s.1 + 1) = 10026
                · rw [if_pos c2] at e3; exact g 2 (by decide) (by rw [c2]; decide) e3
                · rw [if_neg c2] at e3; cases e3
          · rw [if_neg k0] at e3
            unfold aNd at e3
            by_cases c0 : 10000 < T (s.1 + 1)
            · rw [if_pos c0] at e3; cases e3
            · rw [if_neg c0] at e3
              by_cases c1 : 99 < T (s.1 + 1)
              · rw [if_pos c1] at e3; cases e3
              · rw [if_neg c1] at e3
                injection e3 with z
                injection z with z1 z2
                subst z1; subst z2
                have c1' : T (s.1 + 1) ≤ 99 := Nat.le_of_not_lt c1
                exact ⟨rfl, rfl, rfl, c1', fun z => absurd z k0, lt_m hm (show s.1 + 1 ≤ m from lt) (by show ¬ T (s.1 + 1) = 10002; omega)⟩
        obtain ⟨b1, b2', b3, b4, b5, b6⟩ := b1
        unfold aIf at e4
        by_cases c : T s2.1 = 10027
        · rw [if_pos c] at e4
          injection e4 with e4
          subst e4
          have lt2 : s2.1 < m := lt_m hm (by omega) (by rw [c]; decide)
          unfold aBd at e2
          rw [if_neg k2] at e2
          obtain ⟨⟨l1, D, gD⟩, -, -⟩ := gd_test hm (gd_fact (P := P) hm 11) _ _ (show s2.1 + 1 ≤ m from lt2) e2
          obtain ⟨u1, u2'⟩ := up true (s2.1 + 1, s2.2.1, s2.2.2) D (by show s.1 + 1 ≤ s2.1 + 1; omega) b2' b3 ⟨l1, gD⟩
          refine ⟨u1, z12, hk2, b4, b5, D, ?_⟩
          rw [decide_eq_true (show k < 2 by omega)]
          exact u2'
        · rw [if_neg c] at e4; cases e4
/-- a law's clauses, as the code has them -/
def lbg (L : List CLE) (c : Nat) : Nat := if c = 0 then 0 else (L.getD (c - 1) (0, 0, 0)).2.2
def TXI (L : List CLE) (C : List Nat) : Prop := L.length ≤ 12 ∧ (∀ t, t ∈ C → okT t) ∧ (∀ c, c < L.length → (L.getD c (0, 0, 0)).1 ≤ 2 ∧ (L.getD c (0, 0, 0)).2.1 ≤ 99 ∧ ((L.getD c (0, 0, 0)).1 = 0 → (L.getD c (0, 0, 0)).2.1 ≤ 2) ∧ lbg L c ≤ (L.getD c (0, 0, 0)).2.2 ∧ (L.getD c (0, 0, 0)).2.2 ≤ C.length ∧ (∃ B, tyR (fun k => C.getD k 0) (lbg L c) ((L.getD c (0, 0, 0)).2.2 - lbg L c) = some (B, 1) ∧ B 0 = decide ((L.getD c (0, 0, 0)).1 < 2)) ∧ vals (fun k => C.getD k 0) (lbg L c) ((L.getD c (0, 0, 0)).2.2 - lbg L c) ≤ 80) ∧ lbg L L.length = C.length
theorem tyR_cg {f g : Nat → Nat} {b : Nat} : ∀ k, (∀ j, j < k → f (b + j) = g (b + j)) → tyR f b k = tyR g b k
  | 0, _ => rfl
  | k + 1, h => by rw [tyR, tyR, tyR_cg k (fun j hj => h j (by omega)), h k (by omega)]
theorem vals_cg {f g : Nat → Nat} {b k : Nat} (h : ∀ j, j < k → f (b + j) = g (b + j)) : vals f b k = vals g b k := by
  unfold vals
  exact cnt_congr fun j hj => by rw [h j hj]
theorem tyR_L {f : Nat → Nat} {b : Nat} : ∀ (D : List Nat), (∀ j, j < D.length → f (b + j) = D.getD j 0) → ∀ k, k ≤ D.length → tyR f b k = tyLs (fun _ => false, 0) (D.take k) ∧ vals f b k = vcn (D.take k) := by
  intro D hD k
  induction k with
  | zero => intro _; exact ⟨rfl, rfl⟩
  | succ k ih =>
    intro hk
    obtain ⟨i1, i2⟩ := ih (by omega)
    have et : D.take (k + 1) = D.take k ++ [D.getD k 0] := by
      rw [gd_l (show k < D.length by omega), List.take_append_getElem]
    rw [et, tyL_a, vcn_a, tyR, i1, hD k (by omega)]
    refine ⟨?_, ?_⟩
    · congr 1
      funext q
      show _ = Option.bind (tyF q (D.getD k 0)) fun r => tyLs r []
      cases tyF q (D.getD k 0) <;> rfl
    · show cnt (fun j => decide (f (b + j) < 10021)) (k + 1) = _
      rw [cnt_ss, hD k (by omega)]
      show vals f b k + _ = _
      rw [i2]
      congr 1
      unfold vcn
      by_cases z : D.getD k 0 < 10021
      · rw [List.filter_cons_of_pos (by exact decide_eq_true z), if_pos (by exact decide_eq_true z)]
        rfl
      · rw [List.filter_cons_of_neg (by rw [decide_eq_false z]; decide), if_neg (by rw [decide_eq_false z]; decide)]
        rfl
theorem lgd {L : List CLE} {x : CLE} {c : Nat} : (L ++ [x]).getD c (0, 0, 0) = if c = L.length then x else L.getD c (0, 0, 0) := by
  by_cases z : c = L.length
  · subst z
    rw [if_pos rfl, List.getD_eq_getElem?_getD, List.getElem?_append_right (Nat.le_refl _), Nat.sub_self]
    rfl
  · rw [if_neg z]
    rcases Nat.lt_or_ge c L.length with y | y
    · rw [List.getD_eq_getElem?_getD, List.getD_eq_getElem?_getD, List.getElem?_append_left y]
    · rw [List.getD_eq_getElem?_getD, List.getD_eq_getElem?_getD, List.getElem?_eq_none (by rw [List.length_append]; show L.length + 1 ≤ c; omega), List.getElem?_eq_none y]
theorem TXI_s {L : List CLE} {s r : PST} {kd x : Nat} {D : List Nat} (hL : L.length < 12) (H : TXI L s.2.2) (k2 : kd ≤ 2) (x9 : x ≤ 99) (x2 : kd = 0 → x ≤ 2) (G : GDr T m (decide (kd < 2)) s r D) (h80 : s.2.1 ≤ 80) : TXI (L ++ [(kd, x, r.2.2.length)]) r.2.2 := by
  obtain ⟨-, h2, h3, h4⟩ := H
  obtain ⟨d1, d2, d3, d4, d5, d6, d7, d8⟩ := G
  have ll : (L ++ [(kd, x, r.2.2.length)]).length = L.length + 1 := by rw [List.length_append]; rfl
  have lb : ∀ c, c ≤ L.length → lbg (L ++ [(kd, x, r.2.2.length)]) c = lbg L c := by
    intro c hc
    unfold lbg
    by_cases z : c = 0
    · rw [if_pos z, if_pos z]
    · rw [if_neg z, if_neg z, lgd, if_neg (by omega)]
  have lr : r.2.2.length = s.2.2.length + D.length := by rw [d5, List.length_append]
  have gl : ∀ k, k < s.2.2.length → r.2.2.getD k 0 = s.2.2.getD k 0 := fun k hk => by rw [d5, gdA, if_pos hk]
  refine ⟨by omega, fun t ht => ?_, fun c hc => ?_, ?_⟩
  · rw [d5, List.mem_append] at ht
    exact ht.elim (h2 t) (d7 t)
  · rw [ll] at hc
    rw [lgd, lb c (by omega)]
    by_cases z : c = L.length
    · subst z
      rw [if_pos rfl, h4]
      obtain ⟨t1, t2⟩ := tyR_L (f := fun k => r.2.2.getD k 0) (b := s.2.2.length) D (fun j hj => by
        show r.2.2.getD (s.2.2.length + j) 0 = _
        rw [d5, gdA, if_neg (by omega)]
        congr 1
        omega) D.length (Nat.le_refl _)
      obtain ⟨B, y1, y2, -⟩ := d6 (fun _ => false, 0)
      have d4 := d4 h80
      show kd ≤ 2 ∧ x ≤ 99 ∧ (kd = 0 → x ≤ 2) ∧ s.2.2.length ≤ r.2.2.length ∧ r.2.2.length ≤ r.2.2.length ∧ (∃ B, tyR (fun k => r.2.2.getD k 0) s.2.2.length (r.2.2.length - s.2.2.length) = some (B, 1) ∧ B 0 = decide (kd < 2)) ∧ vals (fun k => r.2.2.getD k 0) s.2.2.length (r.2.2.length - s.2.2.length) ≤ 80
      rw [show r.2.2.length - s.2.2.length = D.length by omega, t1, t2, List.take_length]
      exact ⟨k2, x9, x2, by omega, Nat.le_refl _, ⟨B, y1, y2⟩, by omega⟩
    · obtain ⟨a1, a2, a3, a4, a5, ⟨B, a6, a7⟩, a8⟩ := h3 c (by omega)
      rw [if_neg z]
      refine ⟨a1, a2, a3, a4, by omega, ⟨B, ?_, a7⟩, ?_⟩
      · rw [← a6]
        exact tyR_cg _ (fun j hj => gl _ (by omega))
      · have e8 : vals (fun k => r.2.2.getD k 0) (lbg L c) ((L.getD c (0, 0, 0)).2.2 - lbg L c) = vals (fun k => s.2.2.getD k 0) (lbg L c) ((L.getD c (0, 0, 0)).2.2 - lbg L c) := vals_cg (fun j hj => gl _ (by omega))
        rw [e8]
        exact a8
  · rw [ll]
    unfold lbg
    rw [if_neg (by omega), Nat.add_sub_cancel, lgd, if_pos rfl]
theorem TXI_0 : TXI [] [] := ⟨by decide, (by intro t h; cases h), (by intro c h; cases h), rfl⟩
variable {h0 : HS} {F : Nat}
theorem KE.l (K : ∃ L : Nat, True) {g : HS} {e : Nat} (Ke : KE h0 g e) (f : Nat) (v : Int32) : p30_L31 F (f + 1) g v = some (nI e, g) := by
  have n0 : ¬ hI g 61 3 = 0 := by rw [Ke.2.1]; exact nI_ne0 Ke.2.2.1 (by have := Ke.2.2.2; omega)
  rw [p30_L31]
  unfold p30_j83
  rw [Ke.2.1]
  by_cases z : v < 400
  · rw [if_pos z, if_neg (by rw [← Ke.2.1]; exact n0)]
  · rw [if_neg z]
theorem cTx (B : TB h0 T P m) (w : 160 ≤ h0.1) (hF : 1000 ≤ F) : ∀ (n f : Nat) (g : HS) (L : List CLE) (s : PST) (v : Nat), m - s.1 < n → m - s.1 + 1 < f → v ≤ s.1 → KT h0 g s L → s.1 ≤ m → s.2.2.length ≤ s.1 → s.2.1 ≤ 80 → TXI L s.2.2 → ∃ g', (Option.bind (p35 F g) fun r => p30_L31 F f r (nI v)) = some ((match aTx T P n L s with | Sum.inl e => nI e | Sum.inr _ => 0), g') ∧ ((∃ e, aTx T P n L s = Sum.inl e ∧ KE h0 g' e) ∨ ∃ r L', aTx T P n L s = Sum.inr (r, L') ∧ KT h0 g' r L' ∧ r.1 ≤ m ∧ r.2.2.length ≤ r.1 ∧ TXI L' r.2.2) := by
  have hm := B.1
  intro n
  induction n with
  | zero => intro f g L s v z; omega
  | succ n ih =>
    intro f g L s v hn hf hv K hs hl hc HX
    obtain ⟨f, rfl⟩ : ∃ f', f = f' + 2 := ⟨f - 2, by omega⟩
    obtain ⟨g2, e2, c⟩ := cCl (F := F) B w hF K hs hl hc HX.1
    rw [e2, ob, aTx]
    rcases c with ⟨e, ea, Ke⟩ | ⟨r, kd, x, ea, Kr⟩
    · rw [ea]
      exact ⟨g2, KE.l ⟨0, trivial⟩ Ke _ _, Or.inl ⟨e, rfl, Ke⟩⟩
    · obtain ⟨l1, nL, k2, x9, x2, D, G⟩ := gd_cl (P := P) B.2.1 hs ea
      have hL : L.length < 12 := by have := HX.1; omega
      have HX2 := TXI_s hL HX k2 x9 x2 G hc
      obtain ⟨d1, d2, d3, d4, -⟩ := G
      have d4 := d4 hc
      have w2 : 160 ≤ g2.1 := Nat.le_trans w Kr.1.1
      have B2 := B.fr w Kr.1 (by decide)
      have K2 := Kr.2.1
      have tr := (B.2.2 r.1 d1).2.1
      rw [ea, Sum.elim_inr, p30_L31, if_pos (show nI v < 400 from nI_lt (b := 400) (by omega) (by decide)), K2.2.2.1, if_pos rfl, K2.tk B2 w2 d1, ob]
      by_cases zE : T r.1 = 10002
      · rw [if_pos (show nI (T r.1) = 10002 by rw [zE]; rfl), if_pos zE]
        unfold p30_j83
        rw [K2.2.2.1]
        exact ⟨g2, rfl, Or.inr ⟨r, _, rfl, Kr, d1, by omega, HX2⟩⟩
      · have lr : r.1 < m := lt_m B.2.1 d1 zE
        rw [if_neg (show ¬ nI (T r.1) = 10002 from fun y => zE ((nI_eq (b := 10002) (by omega) (by decide)).mp y)), if_neg zE, K2.ac B2 w2 d1 (show (10040 : Int32) = nI 10040 from rfl) (by decide)]
        unfold p30_j77
        by_cases zS : T r.1 = 10040
        · rw [if_pos zS, if_pos zS, ob, if_neg n10, nI_1]
          have Ka : KT h0 (hsI g2 61 2 (hI g2 61 2 + 1)) (r.1 + 1, r.2.1, r.2.2) (L ++ [(kd, x, r.2.2.length)]) := by
            obtain ⟨q1, q2, q3, q4⟩ := Kr
            refine ⟨q1.sI (Or.inr (Or.inr (Or.inl (by decide)))), q2.at.self, by rw [hsI_k (by decide)]; exact q3, fun c hcL => ?_⟩
            have a1 : hI (hsI g2 61 2 (hI g2 61 2 + 1)) 62 = hI g2 62 := hsI_n (by decide)
            have a2 : hI (hsI g2 61 2 (hI g2 61 2 + 1)) 63 = hI g2 63 := hsI_n (by decide)
            have a3 : hI (hsI g2 61 2 (hI g2 61 2 + 1)) 64 = hI g2 64 := hsI_n (by decide)
            rw [a1, a2, a3]
            exact q4 c hcL
          exact ih (f + 1) _ _ _ (v + 1) (by show m - (r.1 + 1) < n; omega) (by show m - (r.1 + 1) + 1 < f + 1; omega) (by show v + 1 ≤ r.1 + 1; omega) Ka lr (by show r.2.2.length ≤ r.1 + 1; omega) d4 HX2
        · rw [if_neg zS, if_neg zS, ob, if_pos rfl]
          obtain ⟨g3, e3, K3⟩ := K2.rf B2 w2 d1 (show (0 : Int32) = nI 0 from rfl) (by decide)
          have Ke : KE h0 g3 (1 + 8 * P r.1 + 0) := ⟨Kr.1.tr (fr65 K3.1), K3.2.1⟩
          rw [e3, ob]
          exact ⟨g3, KE.l ⟨0, trivial⟩ Ke _ _, Or.inl ⟨_, rfl, Ke⟩⟩
theorem cTxt (B : TB h0 T P m) (w : 160 ≤ h0.1) (hF : 1000 ≤ F) : ∃ g', p30 F h0 = some ((match aTx T P 401 [] (0, 0, []) with | Sum.inl e => nI e | Sum.inr _ => 0), g') ∧ ((∃ e, aTx T P 401 [] (0, 0, []) = Sum.inl e ∧ KE h0 g' e) ∨ ∃ r L', aTx T P 401 [] (0, 0, []) = Sum.inr (r, L') ∧ KT h0 g' r L' ∧ r.1 ≤ m ∧ r.2.2.length ≤ r.1 ∧ TXI L' r.2.2) := by
  have hm := B.1
  unfold p30
  have i3 : ∀ {g : HS} {k : Nat}, FR W6 K6 nD h0 g → (61, k) ∈ K6 → FR W6 K6 nD h0 (hsI g 61 k 0) := fun f z => f.sI (Or.inr (Or.inr (Or.inl z)))
  have f0 := i3 (k := 6) (i3 (k := 5) (i3 (k := 4) (i3 (k := 3) (i3 (k := 2) (FR.rf nD160) (by decide)) (by decide)) (by decide)) (by decide)) (by decide)
  have K0 : KT h0 (hsI (hsI (hsI (hsI (hsI h0 61 2 0) 61 3 0) 61 4 0) 61 5 0) 61 6 0) (0, 0, []) [] := by
    refine ⟨f0, ⟨FR.rf nD160, ?_, ?_, ?_, ?_, fun j z => absurd z (Nat.not_lt_zero j)⟩, ?_, fun c z => absurd z (Nat.not_lt_zero c)⟩
    · rw [hsI_k (by decide), hsI_k (by decide), hsI_k (by decide), hsI_k (by decide)]; exact hsI_s _ _ _ _
    · rw [hsI_k (by decide), hsI_k (by decide), hsI_k (by decide)]; exact hsI_s _ _ _ _
    · rw [hsI_k (by decide), hsI_k (by decide)]; exact hsI_s _ _ _ _
    · exact hsI_s _ _ _ _
    · rw [hsI_k (by decide)]; exact hsI_s _ _ _ _
  exact cTx (F := F) B w hF 401 F _ [] (0, 0, []) 0 (by show m - 0 < 401; omega) (by show m - 0 + 1 < F; omega) (Nat.le_refl _) K0 (Nat.zero_le _) (Nat.le_refl _) (Nat.zero_le _) TXI_0
end CTX
