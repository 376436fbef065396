/-! laying, the class: the search -/
theorem lt_bst {a b : Nat} (ha : a < 1000) (hb : b < 1000) : (nI a < bst b) = (a + 1 < b) := by
  unfold bst
  cases b with
  | zero =>
    refine propext ⟨fun z => ?_, fun z => by omega⟩
    rw [Int32.lt_iff_toInt_lt, nI_toInt (by omega), show (nI 0 - 1).toInt = -1 by decide] at z
    omega
  | succ b => rw [nI_pred, lt_nI (by omega) (by omega)]; exact propext ⟨fun z => by omega, fun z => by omega⟩
theorem if_nI {a b : Nat} (ha : a < 1000) (hb : b < 1000) : (if nI a < nI b then nI a else nI b) = nI (if a < b then a else b) := by
  by_cases z : a < b
  · rw [if_pos (nI_lt z (by omega)), if_pos z]
  · rw [if_neg (nI_nlt (by omega) (by omega)), if_neg z]
theorem sumL_le {f : Nat → Nat} {B : Nat} : ∀ l : List Nat, (∀ x, f x ≤ B) → sumL f l ≤ B * l.length
  | [], _ => Nat.zero_le _
  | x :: t, h => by
    have := sumL_le t h
    have := h x
    rw [sumL, List.length_cons, Nat.mul_add]
    omega
theorem rw0_p {m : Nat → Nat} {p : List Nat} {x k : Nat} (hk : k < p.length) : rw0 m (p ++ [x]) k = rw0 m p k := rw0_l hk
theorem un_bit : ∀ t, t < 256 → ∀ i, i < 8 → nI t ||| ((1 : Int32) <<< (nI i &&& 31)) = nI (t ||| 2 ^ i) ∧ t ||| 2 ^ i < 256 := by decide +kernel
theorem pf_u {p : List Nat} {n : Nat} {U : List Nat} (hp : (p ++ U).Perm (List.range n)) {u : List Nat} (hu : u.Perm U) : (p ++ u).Perm (List.range n) := ((List.perm_append_left_iff p).mpr hu).trans hp
theorem pf_nd {q : List Nat} {n : Nat} (hp : q.Perm (List.range n)) : q.Nodup ∧ q.length = n ∧ ∀ j, j < q.length → q.getD j 0 < n := by
  refine ⟨hp.nodup_iff.mpr List.nodup_range, by rw [hp.length_eq, List.length_range], fun j hj => ?_⟩
  rw [gd_l hj]
  exact List.mem_range.mp (hp.mem_iff.mp (List.getElem_mem hj))
section LA7
variable {h h0 : HS} {m : Nat → Nat} {n w F : Nat}
theorem LM.fk {h g : HS} (L : LM h0 m n w h) (wh : 160 ≤ h.1) (f : FR [45, 46, 47] [(39, 3), (39, 4)] nD h g) : LM h0 m n w g := by
  obtain ⟨l1, l2, l3, l4⟩ := L
  refine ⟨l1.fk wh f (by decide), fun k hk => ⟨fun q hq => ?_, fun q hq => ?_⟩, fun k hk => ?_, fun k hk => ?_⟩
  · rw [f.fA wh 41 (by decide)]; exact (l2 k hk).1 q hq
  · rw [f.fA wh 42 (by decide)]; exact (l2 k hk).2 q hq
  · rw [f.fA wh 43 (by decide)]; exact l3 k hk
  · rw [f.fA wh 44 (by decide)]; exact l4 k hk
/-- what one more gains -/
theorem gainE {g : HS} (L : LM h0 m n w g) (hn : n ≤ 8) (hw : 0 < w) (hw8 : w ≤ 8) {p : List Nat} {x : Nat} (hl : p.length < n) (hp : ∀ k, k < p.length → hI g 45 k = nI (p.getD k 0) ∧ p.getD k 0 < n ∧ ¬ p.getD k 0 = x) (hx : x < n) : p49 g (nI p.length) (nI x) = some (nI (gnn h0 (rw0 m (p ++ [x])) w p.length)) := by
  obtain ⟨l1, l2, l3, l4⟩ := L
  have ex : rw0 m (p ++ [x]) p.length = m x := by unfold rw0; rw [gdA, if_neg (Nat.lt_irrefl _), Nat.sub_self]; rfl
  have j31 : ∀ c, p49_j31 (nI p.length) (nI x) g (nI c) = some (nI (c + (if decide (w ≤ p.length) && jn h0 (rw0 m (p ++ [x]) (p.length - w)) (m x) 1 then 1 else 0))) := by
    intro c
    unfold p49_j31
    rw [l1.2.1]
    by_cases z : w ≤ p.length
    · obtain ⟨e1, e2, e3⟩ := hp (p.length - w) (by omega)
      rw [if_neg (nI_nlt z (by omega)), pk_sub z, if_neg (nI_in (by omega) (by decide)), nI_clamp (by omega), e1, if_neg (nI_in (by omega) (by decide)), nI_clamp (by omega), and1N (by omega), nI_add, (l2 _ e2).2 x (by omega), decide_eq_true hx, Bool.true_and, decide_eq_true z, Bool.true_and, rw0_p (by omega)]
      unfold RB
      rw [decide_eq_true e3]
      rfl
    · rw [if_pos (nI_lt (by omega) (by omega)), decide_eq_false z]
      rfl
  unfold p49 gnn
  rw [ex, l1.2.1, if_neg (nI_ne0 hw (by omega)), m8 w (by omega) p.length (by omega) hw]
  by_cases z : 0 < p.length % w
  · have l0 : 0 < p.length := by rcases Nat.eq_zero_or_pos p.length with e | e; rw [e, Nat.zero_mod] at z; omega; exact e
    obtain ⟨e1, e2, e3⟩ := hp (p.length - 1) (by omega)
    rw [if_pos (show (0 : Int32) < nI (p.length % w) from nI_lt z (by have := Nat.mod_lt p.length hw; omega)), show nI p.length - 1 = nI (p.length - 1) from pk_sub (b := 1) l0, if_neg (nI_in (by omega) (by decide)), nI_clamp (by omega), e1, if_neg (nI_in (by omega) (by decide)), nI_clamp (by omega), and1N (by omega), show (0 : Int32) = nI 0 from rfl, nI_add, (l2 _ e2).1 x (by omega), decide_eq_true hx, Bool.true_and, j31, Nat.zero_add, decide_eq_true z, Bool.true_and, rw0_p (k := p.length - 1) (by omega)]
    unfold RB
    rw [decide_eq_true e3]
    rfl
  · rw [if_neg (show ¬ (0 : Int32) < nI (p.length % w) from nI_nlt (a := 0) (by omega) (by omega)), show (0 : Int32) = nI 0 from rfl, j31, decide_eq_false z]
    rfl
theorem CSt.up {σ : LYS} {p : List Nat} {x : Nat} (M : CSt h0 h m n σ (p ++ [x])) : CSt h0 h m n σ p := by
  obtain ⟨m1, m2, m3, m4, m5, m6, m7⟩ := M
  refine ⟨m1, m2, m3, m4, fun k hk => ?_, m6, m7⟩
  rw [m5 k (by rw [List.length_append]; exact Nat.lt_add_right _ hk), gdA, if_pos hk]
theorem CSt.dn {σ : LYS} {p : List Nat} {x : Nat} (M : CSt h0 h m n σ p) : CSt h0 (hsI h 45 p.length (nI x)) m n σ (p ++ [x]) := by
  obtain ⟨m1, m2, m3, m4, m5, m6, m7⟩ := M
  refine ⟨m1.sI (Or.inl (by decide)), by rw [hsI_n (by decide)]; exact m2, m3, by rw [hsI_n (by decide)]; exact m4, fun k hk => ?_, fun z => ⟨(m6 z).1, fun k hk => by rw [hsI_n (by decide)]; exact (m6 z).2 k hk⟩, fun z => ⟨(m7 z).1, fun k hk => by rw [hsI_n (by decide)]; exact (m7 z).2 k hk⟩⟩
  rw [gdA]
  by_cases z : k = p.length
  · subst z
    rw [hsI_s, if_neg (Nat.lt_irrefl _), Nat.sub_self]
    rfl
  · have : k < p.length := by rw [List.length_append] at hk; simp at hk; omega
    rw [hsI_k z, if_pos this]
    exact m5 k this
/-- the search finds what all ways, folded, give -/
theorem srch (b0 : HS) (wf : WF h0) (A : FAc h0) (L : LM b0 m n w h0) (hn : n ≤ 8) (hw : 0 < w) (hw8 : w ≤ 8) (hF : 20 ≤ F) : ∀ (r : Nat) (p : List Nat) (t : Nat) (σ : LYS) (h : HS) (K : Nat), (un n t).length = r → p.length + r = n → t < 256 → (p ++ un n t).Perm (List.range n) → CSt h0 h m n σ p → r < K → σ.2.1 + fct r < 2 ^ 30 → ∃ g, qr48 F K h (nI p.length) (nI t) (nI (fitC b0 (rw0 m p) w p.length)) (nI (sumL (hpF b0 m n) (un n t))) = some g ∧ CSt h0 g m n (blk (lphi b0 m w n) r p σ (un n t)) p := by
  have w0 := wf.1
  have hO := hpF_O b0 m n
  have jO := jtF_O w n
  intro r
  induction r with
  | zero =>
    intro p t σ h K hU hl ht hp M hK hB
    obtain ⟨K, rfl⟩ : ∃ K', K = K' + 1 := ⟨K - 1, by omega⟩
    have eU : un n t = [] := List.length_eq_zero_iff.mp hU
    have Lh := L.fk w0 M.1
    obtain ⟨q1, q2, q3⟩ := pf_nd hp
    have hl' : p.length = n := by omega
    have ep : p ++ un n t = p := by rw [eU, List.append_nil]
    have eφ : lphi b0 m w n p = fitC b0 (rw0 m p) w p.length := by rw [hl']; rfl
    have f16 : fitC b0 (rw0 m p) w p.length ≤ 16 := by
      unfold fitC
      have := cnt_le (fun k => decide (0 < k % w) && jn b0 (rw0 m p (k - 1)) (rw0 m p k) 0) p.length
      have := cnt_le (fun k => decide (w ≤ k) && jn b0 (rw0 m p (k - w)) (rw0 m p k) 1) p.length
      omega
    show ∃ g, p48 F (qr48 F K) h _ _ _ _ = some g ∧ _
    unfold p48
    rw [nI_clamp (by omega), if_neg (nI_in' (by omega) (by decide)), Lh.2.2.2 _ (by omega), if_nI (by have := jtF_le w n p.length; omega) (by rw [eU]; exact Nat.zero_lt_succ _), nI_add, M.2.1, Lh.1.1, if_neg (show ¬ nI p.length < nI n from nI_nlt (by omega) (by omega))]
    have ej : jtF w n p.length = 0 := by rw [hl']; exact jO.1
    have es : sumL (hpF b0 m n) (un n t) = 0 := by rw [eU]; rfl
    have m17 := M.2.2.1
    have zz : (nI (fitC b0 (rw0 m p) w p.length + 0) < bst σ.1) = (fitC b0 (rw0 m p) w p.length + 0 + 1 < σ.1) := lt_bst (by omega) (by omega)
    rw [ej, es, if_neg (Nat.lt_irrefl 0)]
    by_cases z : fitC b0 (rw0 m p) w p.length + 0 + 1 < σ.1
    · rw [if_pos (zz.mpr z)]
      refine ⟨h, rfl, ?_⟩
      rw [blk_less 0 p σ (un n t) hU (fun u hu => by
        have : u = [] := by rw [eU] at hu; exact List.Perm.eq_nil hu
        rw [this, List.append_nil, eφ]; omega)]
      exact M
    · rw [if_neg (fun y => z (zz.mp y))]
      unfold p48_j34
      obtain ⟨g, e1, M1⟩ := recd (φ := lphi b0 m w n) (c := fitC b0 (rw0 m p) w p.length) (h := h) (F := F) wf A L.1 hn M ht (fun k hk => by have := q3 k (by rw [ep]; exact hk); rw [ep] at this; exact this) (by omega) (fun u hu => by
        have : u = [] := by rw [eU] at hu; exact List.Perm.eq_nil hu
        rw [this, List.append_nil, eφ]) f16 (by omega) (by rw [hU]; exact hB) hF
      rw [e1, ob]
      rw [hU] at M1
      exact ⟨g, rfl, M1⟩
  | succ r ih =>
    intro p t σ h K hU hl ht hp M hK hB
    obtain ⟨K, rfl⟩ : ∃ K', K = K' + 1 := ⟨K - 1, by omega⟩
    have Lh := L.fk w0 M.1
    have hU' : (un n t).length ≤ 8 := by omega
    have bd : ∀ u, u.Perm (un n t) → fitC b0 (rw0 m p) w p.length ≤ lphi b0 m w n (p ++ u) ∧ lphi b0 m w n (p ++ u) ≤ fitC b0 (rw0 m p) w p.length + sumL (hpF b0 m n) (un n t) ∧ lphi b0 m w n (p ++ u) ≤ fitC b0 (rw0 m p) w p.length + jtF w n p.length := by
      intro u hu
      obtain ⟨q1, q2, q3⟩ := pf_nd (pf_u hp hu)
      have := phi_le (q := p ++ u) hw hO jO q1 q2 q3 (n - p.length) p.length (by omega)
      rw [List.drop_left, sumL_p hu] at this
      have e : fitC b0 (rw0 m (p ++ u)) w p.length = fitC b0 (rw0 m p) w p.length := fitC_cg fun k hk => rw0_l hk
      rw [e] at this
      exact this
    have f16 : fitC b0 (rw0 m p) w p.length ≤ 16 := by
      unfold fitC
      have := cnt_le (fun k => decide (0 < k % w) && jn b0 (rw0 m p (k - 1)) (rw0 m p k) 0) p.length
      have := cnt_le (fun k => decide (w ≤ k) && jn b0 (rw0 m p (k - w)) (rw0 m p k) 1) p.length
      omega
    have s16 : sumL (hpF b0 m n) (un n t) ≤ 16 := by
      have := sumL_le (un n t) (hpF_le b0 m n)
      omega
    have j16 := jtF_le w n p.length
    have m17 := M.2.2.1
    have pn : ∀ k, k < p.length → p.getD k 0 < n := fun k hk => by
      obtain ⟨-, -, q3⟩ := pf_nd hp
      have := q3 k (by rw [List.length_append]; omega)
      rw [gdA, if_pos hk] at this
      exact this
    show ∃ g, p48 F (qr48 F K) h _ _ _ _ = some g ∧ _
    unfold p48
    rw [nI_clamp (by omega), if_neg (nI_in' (by omega) (by decide)), Lh.2.2.2 _ (by omega), if_nI (by omega) (by omega), nI_add, M.2.1, Lh.1.1, if_pos (show nI p.length < nI n from nI_lt (by omega) (by omega))]
    have zz : (nI (fitC b0 (rw0 m p) w p.length + (if jtF w n p.length < sumL (hpF b0 m n) (un n t) then jtF w n p.length else sumL (hpF b0 m n) (un n t))) < bst σ.1) = (fitC b0 (rw0 m p) w p.length + (if jtF w n p.length < sumL (hpF b0 m n) (un n t) then jtF w n p.length else sumL (hpF b0 m n) (un n t)) + 1 < σ.1) := lt_bst (by split <;> omega) (by omega)
    by_cases z : fitC b0 (rw0 m p) w p.length + (if jtF w n p.length < sumL (hpF b0 m n) (un n t) then jtF w n p.length else sumL (hpF b0 m n) (un n t)) + 1 < σ.1
    · rw [if_pos (zz.mpr z)]
      refine ⟨h, rfl, ?_⟩
      rw [blk_less (r + 1) p σ (un n t) hU (fun u hu => by
        have := bd u hu
        split at z <;> omega)]
      exact M
    · rw [if_neg (fun y => z (zz.mp y))]
      by_cases z0 : sumL (hpF b0 m n) (un n t) = 0
      · rw [z0, if_pos (show nI 0 = 0 from rfl)]
        rw [z0, if_neg (Nat.not_lt_zero _)] at z
        unfold p48_j34
        obtain ⟨g, e1, M1⟩ := recd (φ := lphi b0 m w n) (c := fitC b0 (rw0 m p) w p.length) (h := h) (F := F) wf A L.1 hn M ht pn (by omega) (fun u hu => by have := bd u hu; omega) f16 (by omega) (by rw [hU]; exact hB) hF
        rw [e1, ob]
        rw [hU] at M1
        exact ⟨g, rfl, M1⟩
      · rw [if_neg (nI_ne0 (by omega) (by omega))]
        have lp : ∀ (d i f : Nat) (τ : LYS) (g : HS), i + d = n → d < f → CSt h0 g m n τ p → τ.2.1 + ((List.range' i d).filter (fun j => !t.testBit j)).length * fct r < 2 ^ 30 → ∃ g', p48_L45 F (qr48 F K) (nI p.length) (nI t) (nI (fitC b0 (rw0 m p) w p.length)) (nI (sumL (hpF b0 m n) (un n t))) f g (nI i) = some g' ∧ CSt h0 g' m n (((List.range' i d).filter (fun j => !t.testBit j)).foldl (fun σ x => blk (lphi b0 m w n) r (p ++ [x]) σ ((un n t).erase x)) τ) p := by
          intro d
          induction d with
          | zero =>
            intro i f τ g hi hf Mg _
            obtain ⟨f, rfl⟩ : ∃ f', f = f' + 1 := ⟨f - 1, by omega⟩
            have Lg := L.fk w0 Mg.1
            have : i = n := by omega
            subst this
            rw [p48_L45, Lg.1.1, if_neg Int32.lt_irrefl]
            exact ⟨g, rfl, Mg⟩
          | succ d ihd =>
            intro i f τ g hi hf Mg hBt
            obtain ⟨f, rfl⟩ : ∃ f', f = f' + 1 := ⟨f - 1, by omega⟩
            have Lg := L.fk w0 Mg.1
            rw [List.range'_succ] at hBt ⊢
            rw [p48_L45, Lg.1.1, if_pos (nI_lt (by omega) (by omega)), usT t ht i (by omega)]
            unfold p48_j103
            cases hb : t.testBit i
            · have mi : i ∈ un n t := un_m.mpr ⟨by omega, hb⟩
              rw [List.filter_cons_of_pos (by rw [hb]; rfl)] at hBt ⊢
              rw [List.length_cons, Nat.add_mul] at hBt
              rw [List.foldl_cons]
              have M1 := Mg.dn (x := i)
              have L1 := L.fk w0 M1.1
              have ni : ∀ k, k < p.length → ¬ p.getD k 0 = i := fun k hk e => by
                obtain ⟨q1, -, -⟩ := pf_nd hp
                have := (List.nodup_append.mp q1).2.2 (p.getD k 0) (by rw [gd_l hk]; exact List.getElem_mem _) i mi
                exact this e
              have eg := gainE L1 hn hw hw8 (p := p) (x := i) (by omega) (fun k hk => ⟨by
                have := M1.2.2.2.2.1 k (by rw [List.length_append]; omega)
                rw [gdA, if_pos hk] at this
                exact this, pn k hk, ni k hk⟩) (by omega)
              have ef : fitC b0 (rw0 m p) w p.length + gnn b0 (rw0 m (p ++ [i])) w p.length = fitC b0 (rw0 m (p ++ [i])) w (p ++ [i]).length := by
                rw [List.length_append]
                show _ = fitC b0 (rw0 m (p ++ [i])) w (p.length + 1)
                rw [fitC_s]
                congr 1
                exact fitC_cg fun k hk => (rw0_l hk).symm
              have eh : sumL (hpF b0 m n) (un n t) - hpF b0 m n i = sumL (hpF b0 m n) (un n (t ||| 2 ^ i)) ∧ hpF b0 m n i ≤ sumL (hpF b0 m n) (un n t) := by
                have := sumL_p (f := hpF b0 m n) (List.perm_cons_erase mi)
                rw [sumL, un_e (by omega) hb] at this
                omega
              obtain ⟨bb1, bb2⟩ := un_bit t ht i (by omega)
              have lU : (un n (t ||| 2 ^ i)).length = r := by rw [← un_e (by omega) hb]; exact le_e mi hU
              obtain ⟨g2, e2, M2⟩ := ih (p ++ [i]) (t ||| 2 ^ i) τ (hsI g 45 p.length (nI i)) K lU (by rw [List.length_append]; show p.length + 1 + r = n; omega) bb2 (by
                rw [← un_e (by omega) hb, la_ap]
                exact pf_u hp (List.perm_cons_erase mi).symm) M1 (by omega) (by omega)
              have el : (p ++ [i]).length = p.length + 1 := by rw [List.length_append]; rfl
              rw [el, ← el, ← ef, el] at e2
              rw [if_neg (show ¬ false = true by decide), if_pos (show nI 0 = 0 from rfl), nI_clamp (n := p.length) (by omega), if_neg (nI_in' (by omega) (by decide)), eg, ob, nI_clamp (n := i) (by omega), if_neg (nI_in' (by omega) (by decide)), L1.2.2.1 i (by omega), bb1, nI_1, nI_add, pk_sub eh.2, eh.1, e2, ob, nI_1]
              rw [un_e (by omega) hb]
              exact ihd (i + 1) f _ g2 (by omega) (by omega) M2.up (by
                have := blk_le (φ := lphi b0 m w n) r (p ++ [i]) τ (un n (t ||| 2 ^ i)) lU
                omega)
            · rw [List.filter_cons_of_neg (by rw [hb]; decide)] at hBt ⊢
              rw [if_pos rfl, if_neg (show ¬ nI 1 = 0 by decide), nI_1]
              exact ihd (i + 1) f τ g (by omega) (by omega) Mg hBt
        have eu : (List.range' 0 n).filter (fun j => !t.testBit j) = un n t := by unfold un; rw [List.range_eq_range']
        have := lp n 0 F σ h (by omega) (by omega) M (by rw [eu, hU]; exact hB)
        rw [eu] at this
        exact this
end LA7
