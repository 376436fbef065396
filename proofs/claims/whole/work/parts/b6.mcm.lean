/-! a law's text: the model reads a clause, through -/
section MCM
variable {n : Nat} {β : Nat → Nat} {l : Nat} {h0 g : HS} {s : PST} {p F : Nat} {L : List CLE}
theorem lbg_a (L : List CLE) (x : CLE) {c : Nat} (hc : c ≤ L.length) : lbg (L ++ [x]) c = lbg L c := by
  unfold lbg
  by_cases z : c = 0
  · rw [if_pos z, if_pos z]
  · rw [if_neg z, if_neg z, lgd, if_neg (by omega)]
theorem MC.rs {g0 : HS} {S : List Nat} {d e : Nat} (M : MC n β l g0 g p S s d e) : MC n β l g0 (hsI (hsI g 86 68 0) 86 56 0) p [] s 0 e := by
  obtain ⟨m0, m1, m3, m4, m5, m6, m7, m8, m9, m10⟩ := id M
  have M1 : MC n β l g0 (hsI g 86 68 0) p [] s d e := M.w1 (by decide) m1 (by rw [hsI_k (by decide)]; exact m3) ⟨by rw [hsI_k (by decide)]; exact m4.1, m4.2⟩ (by rw [hsI_k (by decide)]; exact m5) (by rw [hsI_k (by decide)]; exact m6) rfl (hsI_k (by decide)) (hsI_s _ _ _ _) (fun j hj => absurd hj (Nat.not_lt_zero j))
  obtain ⟨m0, m1, m3, m4, m5, m6, m7, m8, m9, m10⟩ := id M1
  exact M1.w1 (by decide) m1 (by rw [hsI_k (by decide)]; exact m3) ⟨by rw [hsI_k (by decide)]; exact m4.1, m4.2⟩ (hsI_s _ _ _ _) (by rw [hsI_k (by decide)]; exact m6) rfl (hsI_k (by decide)) (by rw [hsI_k (by decide)]; exact m8) m9
theorem rnF {v1 v2 : Int32} {h h' : HS} {st st' : Int32} {k : Nat} (r : RN F v1 v2 h st h' st' k) (hk : k ≤ 2010) (hF : 3000 ≤ F) : ∃ f, p266_L88 F F h v1 v2 st = p266_L88 F (f + 1) h' v1 v2 st' := by
  refine ⟨F - k - 1, ?_⟩
  have := r (F - k)
  rw [show F - k + k = F by omega] at this
  rw [this, show F - k - 1 + 1 = F - k by omega]
def clA (n : Nat) (β : Nat → Nat) (l : Nat) (h0 : HS) (s : PST) (L : List CLE) (g' : HS) : Prop := (∃ q kd x, aCl (tTk n β) (tPl n β) L.length s = Sum.inr (q, kd, x) ∧ (tTk n β q.1 = 10002 ∨ tTk n β q.1 = 10040) ∧ TM n β l h0 g' (tPl n β q.1) q (L ++ [(kd, x, q.2.2.length)])) ∨ ∃ e, (aCl (tTk n β) (tPl n β) L.length s = Sum.inl e ∨ ∃ q kd x, aCl (tTk n β) (tPl n β) L.length s = Sum.inr (q, kd, x) ∧ ¬ (tTk n β q.1 = 10002 ∨ tTk n β q.1 = 10040) ∧ e = 1 + 8 * tPl n β q.1 + 0) ∧ TME h0 g' l e
theorem clJ (A0 : AM h0 n β l) (hF : 3000 ≤ F) (K : TM n β l h0 g p s L) (hs : s.1 ≤ tMx n β) (hl : s.2.2.length ≤ s.1) (hc : s.2.1 ≤ 80) (hL : L.length ≤ 12) (h4 : lbg L L.length = s.2.2.length) {k0 : Nat} (hk : 12 * l ≤ k0 ∧ k0 < 240) {a b : Int32} (hab : b + a = nI k0) (hk2 : k0 = 12 * l + L.length ∨ L.length = 12) : ∃ g', p266_j34 F g a b = some g' ∧ clA n β l h0 s L g' := by
  obtain ⟨o0, ⟨S, d, M⟩, r1, r2⟩ := K
  have A : AM g n β l := A0.fr o0.1 (by decide)
  have hn := A.2.1.1
  have hmx := tMx_b (n := n) (β := β) hn
  have hTm := tTk_m (n := n) (β := β) hn
  have hl20 := A.2.2.2.2
  unfold p266_j34
  rw [hab]
  rcases bgM (F := F) (k0 := k0) A (by omega) M hs hL r1 hk.2 with ⟨kd, x, s1, g1, p1, y1, zv, yk, y12, y2, M1, b1, y3, y4⟩ | ⟨e, x, g1, z1, z2, z3, y2, y3, y4, y5⟩
  · have hkk : k0 = 12 * l + L.length := hk2.resolve_right y12
    have hkd : kd ≤ 2 := by rw [yk]; exact (kdO_c zv).2
    have lt : s.1 < tMx n β := lt_m hTm hs (by omega)
    obtain ⟨i1, i2, i3, i4⟩ := hd_in (P := tPl n β) hTm (show (s.1 + 1, s.2.1, s.2.2).1 ≤ tMx n β from lt) y1
    have i1 : s.1 + 1 ≤ s1.1 := i1
    have i3 : s1.2.1 = s.2.1 := i3
    have i4 : s1.2.2 = s.2.2 := i4
    have e55 : hI g1 86 55 = nI 0 := M1.2.2.2.1.1
    have e67 : hI g1 86 67 = nI s.2.2.length := by rw [← i4]; exact M1.2.2.2.2.2.2.1
    have b1k : BGk k0 g g1 := ⟨b1, y4⟩
    rw [y2, ob]
    show ∃ g', (if (0 : Int32) < hI g1 86 55 then some g1 else if nI k0 < 0 ∨ 240 ≤ (nI k0).toNatClampNeg then none else if nI k0 < 0 ∨ 240 ≤ (nI k0).toNatClampNeg then none else Option.bind (some (hsI (hsI g1 129 (nI k0).toNatClampNeg (nI kd)) 131 (nI k0).toNatClampNeg (hI (hsI g1 129 (nI k0).toNatClampNeg (nI kd)) 86 67))) fun h9 => if nI kd = 2 then p266_j87 F (hsI (hsI h9 86 68 0) 86 56 0) (nI k0) (nI kd) 1 else p266_j87 F (hsI (hsI h9 86 68 0) 86 56 0) (nI k0) (nI kd) 0) = some g' ∧ _
    have r67 : hI (hsI g1 129 k0 (nI kd)) 86 67 = nI s.2.2.length := by rw [hsI_n (by decide)]; exact e67
    rw [e55, if_neg (show ¬ (0 : Int32) < nI 0 by decide), nI_clamp (by omega), if_neg (nI_in' hk.2 (by decide)), if_neg (nI_in' hk.2 (by decide)), ob, r67]
    have est : (if nI kd = 2 then p266_j87 F (hsI (hsI (hsI (hsI g1 129 k0 (nI kd)) 131 k0 (nI s.2.2.length)) 86 68 0) 86 56 0) (nI k0) (nI kd) 1 else p266_j87 F (hsI (hsI (hsI (hsI g1 129 k0 (nI kd)) 131 k0 (nI s.2.2.length)) 86 68 0) 86 56 0) (nI k0) (nI kd) 0) = p266_L88 F F (hsI (hsI (hsI (hsI g1 129 k0 (nI kd)) 131 k0 (nI s.2.2.length)) 86 68 0) 86 56 0) (nI k0) (nI kd) (if kd = 2 then 1 else 0) := by
      by_cases z : kd = 2
      · rw [if_pos (show nI kd = 2 by rw [z]; rfl), if_pos z]; rfl
      · rw [if_neg (show ¬ nI kd = 2 from fun y => z ((nI_eq (b := 2) (by omega) (by decide)).mp y)), if_neg z]; rfl
    rw [est]
    have Mh := ((M1.wr (a := 129) (k := k0) (v := nI kd) (by decide)).wr (a := 131) (k := k0) (v := nI s.2.2.length) (by decide)).rs
    have oh : TMo g1 (hsI (hsI (hsI (hsI g1 129 k0 (nI kd)) 131 k0 (nI s.2.2.length)) 86 68 0) 86 56 0) l := (((TMo.w (Or.inl rfl) hk.1).tr (TMo.w (Or.inr (Or.inl rfl)) hk.1)).tr (TMo.f (by decide))).tr (TMo.f (by decide))
    have og := o0.tr (TMo.bg A.1 hk.1 b1k)
    have ogh := og.tr oh
    have h129 : hI (hsI (hsI (hsI (hsI g1 129 k0 (nI kd)) 131 k0 (nI s.2.2.length)) 86 68 0) 86 56 0) 129 = hI (hsI g1 129 k0 (nI kd)) 129 := (hsI_n (by decide)).trans ((hsI_n (by decide)).trans (hsI_n (by decide)))
    have h130 : hI (hsI (hsI (hsI (hsI g1 129 k0 (nI kd)) 131 k0 (nI s.2.2.length)) 86 68 0) 86 56 0) 130 = hI g1 130 := (hsI_n (by decide)).trans ((hsI_n (by decide)).trans ((hsI_n (by decide)).trans (hsI_n (by decide))))
    have h131 : hI (hsI (hsI (hsI (hsI g1 129 k0 (nI kd)) 131 k0 (nI s.2.2.length)) 86 68 0) 86 56 0) 131 = hI (hsI (hsI g1 129 k0 (nI kd)) 131 k0 (nI s.2.2.length)) 131 := (hsI_n (by decide)).trans (hsI_n (by decide))
    have h132 : hI (hsI (hsI (hsI (hsI g1 129 k0 (nI kd)) 131 k0 (nI s.2.2.length)) 86 68 0) 86 56 0) 132 = hI g1 132 := (hsI_n (by decide)).trans ((hsI_n (by decide)).trans ((hsI_n (by decide)).trans (hsI_n (by decide))))
    have h128 : hI (hsI (hsI (hsI (hsI g1 129 k0 (nI kd)) 131 k0 (nI s.2.2.length)) 86 68 0) 86 56 0) 128 = hI g1 128 := (hsI_n (by decide)).trans ((hsI_n (by decide)).trans ((hsI_n (by decide)).trans (hsI_n (by decide))))
    have Ah : AM (hsI (hsI (hsI (hsI g1 129 k0 (nI kd)) 131 k0 (nI s.2.2.length)) 86 68 0) 86 56 0) n β l := A0.fr ogh.1 (by decide)
    have Mh : MC n β l (hsI (hsI (hsI (hsI g1 129 k0 (nI kd)) 131 k0 (nI s.2.2.length)) 86 68 0) 86 56 0) (hsI (hsI (hsI (hsI g1 129 k0 (nI kd)) 131 k0 (nI s.2.2.length)) 86 68 0) 86 56 0) p1 [] s1 0 0 := Mh.self
    generalize hH : hsI (hsI (hsI (hsI g1 129 k0 (nI kd)) 131 k0 (nI s.2.2.length)) 86 68 0) 86 56 0 = H at *
    have eCl : aCl (tTk n β) (tPl n β) L.length s = Sum.elim (fun e => Sum.inl e) (fun r => Sum.inr (r, kd, x)) (aBd (tTk n β) (tPl n β) kd s1) := by
      unfold aCl
      rw [if_pos zv, if_neg y12, ← yk, y1, Sum.elim_inr]
    rcases simB (F := F) (v1 := nI k0) (v2 := nI kd) Ah hF rfl hkd Mh i2 (by rw [i4]; omega) (by rw [i3]; exact hc) with ⟨q, h2, k, q1, q2, q3, M2, q5⟩ | ⟨e, h2, st2, k, q1, q3, q4, q5⟩
    · obtain ⟨f, ef⟩ := rnF q3 q5 hF
      have w2 : 160 ≤ H.1 := Ah.1
      have f2 := M2.1.1
      have e58 : hI h2 86 58 = nI l := (M2.am Ah).2.2.2
      obtain ⟨e3, o3⟩ := j178 (F := F) (g := h2) hk hl20 e58
      rw [ef, p266_L88, if_pos rfl, e3]
      refine ⟨_, rfl, Or.inl ⟨q, kd, x, by rw [eCl, q1, Sum.elim_inr], q2, (ogh.tr (TMo.mx w2 M2.1)).tr o3, ⟨[], 0, ((M2.wr (a := 132) (k := k0) (v := hI h2 86 67) (by decide)).wr (a := 128) (k := l) (v := hI h2 128 l + 1) (by decide))⟩, ?_, fun c hcL => ?_⟩⟩
      · have x1 : hI h2 128 l = nI L.length := by rw [f2.fA w2 128 (by decide), h128, b1.1.fA A.1 128 (by decide)]; exact r1
        rw [hsI_s, x1, nI_1, List.length_append]
        rfl
      · have hcL : c < L.length + 1 := by rw [List.length_append] at hcL; exact hcL
        have t129 : hI (hsI (hsI h2 132 k0 (hI h2 86 67)) 128 l (hI h2 128 l + 1)) 129 = hI (hsI g1 129 k0 (nI kd)) 129 := (hsI_n (by decide)).trans ((hsI_n (by decide)).trans ((f2.fA w2 129 (by decide)).trans h129))
        have t130 : hI (hsI (hsI h2 132 k0 (hI h2 86 67)) 128 l (hI h2 128 l + 1)) 130 = hI g1 130 := (hsI_n (by decide)).trans ((hsI_n (by decide)).trans ((f2.fA w2 130 (by decide)).trans h130))
        have t131 : hI (hsI (hsI h2 132 k0 (hI h2 86 67)) 128 l (hI h2 128 l + 1)) 131 = hI (hsI (hsI g1 129 k0 (nI kd)) 131 k0 (nI s.2.2.length)) 131 := (hsI_n (by decide)).trans ((hsI_n (by decide)).trans ((f2.fA w2 131 (by decide)).trans h131))
        have t132 : hI (hsI (hsI h2 132 k0 (hI h2 86 67)) 128 l (hI h2 128 l + 1)) 132 = hI (hsI h2 132 k0 (hI h2 86 67)) 132 := hsI_n (by decide)
        rw [t129, t130, t131, t132, lgd, lbg_a L _ (by omega)]
        by_cases z : c = L.length
        · subst z
          rw [if_pos rfl, ← hkk, hsI_s, hsI_s, hsI_s, h4]
          exact ⟨rfl, y3, rfl, M2.2.2.2.2.2.2.1⟩
        · obtain ⟨c1, c2, c3, c4⟩ := r2 c (by omega)
          have f1 := b1.1
          rw [if_neg z, hsI_k (by omega), hsI_k (by omega), hsI_k (by omega), y4 _ (by omega), f1.fA A.1 129 (by decide), hsI_n (by decide), f1.fA A.1 131 (by decide), f2.fA w2 132 (by decide), h132, f1.fA A.1 132 (by decide)]
          exact ⟨c1, c2, c3, c4⟩
    · obtain ⟨f, ef⟩ := rnF q3 q5 hF
      obtain ⟨x1, x2, x3, x4⟩ := q4
      have w2 : 160 ≤ H.1 := Ah.1
      have e58 : hI h2 86 58 = nI l := (x1.1.fI w2 86 58 (by decide)).trans Ah.2.2.2.1
      obtain ⟨e3, o3⟩ := j178 (F := F) (g := h2) hk hl20 e58
      have eL : p266_L88 F (f + 1) h2 (nI k0) (nI kd) st2 = p266_j178 F h2 (nI k0) := by
        rw [p266_L88]
        by_cases z : st2 = 4
        · rw [if_pos z]
        · rw [if_neg z, if_neg (show ¬ hI h2 86 55 = 0 by rw [x2]; exact nI_ne0 x3 (by omega))]
      rw [ef, eL, e3]
      refine ⟨_, rfl, Or.inr ⟨e, ?_, (ogh.tr (TMo.mx w2 x1)).tr o3, ?_, x3, x4⟩⟩
      · rcases q1 with q1 | ⟨q, q1, q2, q3⟩
        · exact Or.inl (by rw [eCl, q1]; rfl)
        · exact Or.inr ⟨q, kd, x, by rw [eCl, q1]; rfl, q2, q3⟩
      · rw [hsI_n (by decide), hsI_n (by decide)]; exact x2
  · rw [y2, ob]
    show ∃ g', (if (0 : Int32) < hI g1 86 55 then some g1 else _) = some g' ∧ _
    rw [y3, if_pos (show (0 : Int32) < nI e from nI_lt (a := 0) y4.1 (by omega))]
    refine ⟨g1, rfl, Or.inr ⟨e, Or.inl ?_, o0.tr (TMo.bg A.1 hk.1 y5), y3, y4.1, y4.2⟩⟩
    unfold aCl
    by_cases zv : 10021 ≤ tTk n β s.1 ∧ tTk n β s.1 ≤ 10023
    · rw [if_pos zv]
      by_cases z12 : L.length = 12
      · rw [if_pos z12, z1 zv z12]
      · rw [if_neg z12, z2 zv z12]; rfl
    · rw [if_neg zv, z3 zv]
/-- a clause -/
theorem clM (A0 : AM h0 n β l) (hF : 3000 ≤ F) (K : TM n β l h0 g p s L) (hs : s.1 ≤ tMx n β) (hl : s.2.2.length ≤ s.1) (hc : s.2.1 ≤ 80) (hL : L.length ≤ 12) (h4 : lbg L L.length = s.2.2.length) : ∃ g', p266 F g = some g' ∧ clA n β l h0 s L g' := by
  have A : AM g n β l := A0.fr K.1.1 (by decide)
  have hl20 := A.2.2.2.2
  have i12 : (12 : Int32) * nI l = nI (12 * l) := pk_mul 12 l
  unfold p266
  rw [A.2.2.2.1, nI_clamp (by omega), if_neg (nI_in' hl20 (by decide)), K.2.2.1]
  by_cases z : L.length < 12
  · rw [if_pos (show nI L.length < 12 from nI_lt (b := 12) z (by decide)), if_neg (nI_in' hl20 (by decide))]
    exact clJ A0 hF K hs hl hc hL h4 (k0 := 12 * l + L.length) (by omega) (by rw [i12, nI_add]) (Or.inl rfl)
  · rw [if_neg (show ¬ nI L.length < 12 from nI_nlt (a := L.length) (b := 12) (by omega) (by omega))]
    exact clJ A0 hF K hs hl hc hL h4 (k0 := 12 * l) (by omega) (by rw [i12]; exact nI_add (12 * l) 0) (Or.inr (by omega))
end MCM
