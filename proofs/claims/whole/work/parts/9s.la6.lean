/-! laying, the class: a way is written down -/
theorem un_s (n t : Nat) : un (n + 1) t = un n t ++ (if t.testBit n then [] else [n]) := by
  unfold un
  rw [List.range_succ, List.filter_append]
  congr 1
  cases e : t.testBit n
  · simp [e]
  · simp [e]
theorem un_len (t : Nat) : ∀ n, (un n t).length = cnt (fun i => !t.testBit i) n
  | 0 => rfl
  | n + 1 => by
    rw [un_s, List.length_append, un_len t n, cnt_ss]
    cases e : t.testBit n
    · rfl
    · rfl
theorem un_g (t : Nat) : ∀ n i, i < n → t.testBit i = false → (un n t).getD (cnt (fun i => !t.testBit i) i) 0 = i
  | 0, i, h, _ => absurd h (Nat.not_lt_zero i)
  | n + 1, i, h, hb => by
    rw [un_s, gdA, un_len]
    by_cases z : i = n
    · subst z
      rw [if_neg (Nat.lt_irrefl _), Nat.sub_self, hb]
      rfl
    · rw [if_pos (cnt_lt (by rw [hb]; rfl) (by omega))]
      exact un_g t n i (by omega) hb
theorem sw2_len : ∀ t : List Nat, (sw2 t).length = t.length
  | [] => rfl
  | [_] => rfl
  | [_, _] => rfl
  | x :: y :: z :: t => by
    show (sw2 (y :: z :: t)).length + 1 = _
    rw [sw2_len (y :: z :: t)]
    rfl
theorem sw2_g : ∀ (t : List Nat) (k : Nat), 2 ≤ t.length → k < t.length → (sw2 t).getD k 0 = if k = t.length - 1 then t.getD (t.length - 2) 0 else if k = t.length - 2 then t.getD (t.length - 1) 0 else t.getD k 0
  | [], _, h, _ => absurd h (by decide)
  | [_], _, h, _ => absurd h (by simp)
  | [x, y], k, _, hk => by
    rcases (show k = 0 ∨ k = 1 by simp at hk; omega) with rfl | rfl <;> rfl
  | x :: y :: z :: t, k, _, hk => by
    have e : sw2 (x :: y :: z :: t) = x :: sw2 (y :: z :: t) := rfl
    have hl : (x :: y :: z :: t).length = t.length + 3 := rfl
    have hl2 : (y :: z :: t).length = t.length + 2 := rfl
    rw [e, hl]
    cases k with
    | zero => rw [if_neg (by omega), if_neg (by omega)]; rfl
    | succ k =>
      have ih := sw2_g (y :: z :: t) k (by rw [hl2]; omega) (by rw [hl2]; rw [hl] at hk; omega)
      rw [hl2] at ih
      show (sw2 (y :: z :: t)).getD k 0 = _
      rw [ih]
      by_cases z1 : k = t.length + 1
      · rw [if_pos (by omega), if_pos (by omega)]
        show (y :: z :: t).getD (t.length + 2 - 2) 0 = (x :: y :: z :: t).getD (t.length + 3 - 2) 0
        rw [show t.length + 2 - 2 = t.length by omega, show t.length + 3 - 2 = t.length + 1 by omega]
        rfl
      · rw [if_neg (show ¬ k = t.length + 2 - 1 by omega), if_neg (show ¬ k + 1 = t.length + 3 - 1 by omega)]
        by_cases z2 : k = t.length
        · rw [if_pos (show k = t.length + 2 - 2 by omega), if_pos (show k + 1 = t.length + 3 - 2 by omega)]
          show (y :: z :: t).getD (t.length + 2 - 1) 0 = (x :: y :: z :: t).getD (t.length + 3 - 1) 0
          rw [show t.length + 2 - 1 = t.length + 1 by omega, show t.length + 3 - 1 = t.length + 2 by omega]
          rfl
        · rw [if_neg (show ¬ k = t.length + 2 - 2 by omega), if_neg (show ¬ k + 1 = t.length + 3 - 2 by omega)]
          rfl
theorem hsI_k {h : HS} {a j k : Nat} {v : Int32} (e : ¬ j = k) : hI (hsI h a k v) a j = hI h a j := if_neg (fun z => e z.2)
def FAc (h : HS) : Prop := hN h 0 = 9 ∧ ∀ v, v ≤ 8 → hI h 0 v = nI (fct v)
theorem FAc.fr {h g : HS} {W : List Nat} {K : List (Nat × Nat)} {D : Nat → Prop} (A : FAc h) (w : 160 ≤ h.1) (f : FR W K D h g) (ok : frO [0] W K) : FAc g := ⟨(f.N (by omega)).trans A.1, fun v hv => by rw [f.fA w 0 (ok 0 (by decide))]; exact A.2 v hv⟩
section LA6
variable {h g0 : HS} {m : Nat → Nat} {n w F : Nat}
theorem usT : ∀ t, t < 256 → ∀ i, i < 8 → ((nI t >>> (nI i &&& 31)) &&& 1) = nI (if t.testBit i then 1 else 0) := fun t ht i hi => by
  rw [(b9_bt t (by omega) i (by omega)).2.2]
  split <;> rfl
/-- a way: the ones that stand, then the others in their order -/
theorem fill (o : Nat) (ho : o = 46 ∨ o = 47) (wf : WF h) (L : LB h m n w) (hn : n ≤ 8) {p : List Nat} {t : Nat} (ht : t < 256) (hp : ∀ k, k < p.length → hI h 45 k = nI (p.getD k 0) ∧ p.getD k 0 < n) (hl : p.length + (un n t).length = n) (hF : 20 ≤ F) : ∃ g, p51 F h (some o) (nI p.length) (nI t) = some g ∧ FR [o] [] nD h g ∧ rowIs g o m (p ++ un n t) := by
  have wh := wf.1
  have t46 : hT h 46 = 20 := wf.t 46 (by decide)
  have t47 : hT h 47 = 20 := wf.t 47 (by decide)
  have n46 : hN h 46 = 8 := wf.n 46 (by decide)
  have n47 : hN h 47 = 8 := wf.n 47 (by decide)
  have to : hT h o = 20 ∧ hN h o = 8 := by rcases ho with rfl | rfl; exact ⟨t46, n46⟩; exact ⟨t47, n47⟩
  have lo : o < 160 := by rcases ho with rfl | rfl <;> decide
  have nm : ∀ x, x < 46 → ¬ x ∈ [o] := fun x hx z => by have := List.mem_singleton.mp z; omega
  have ng : ∀ g, FR [o] [] nD h g → LB g m n w ∧ hI g 45 = hI h 45 ∧ hT g o = 20 ∧ hN g o = 8 := fun g f => ⟨L.fr wh f ⟨nm 39 (by decide), nm 40 (by decide)⟩, f.fA wh 45 ⟨by decide, nm 45 (by decide), fun z => nomatch z⟩, (f.T (by omega)).trans to.1, (f.N (by omega)).trans to.2⟩
  have hq : ∀ i, cnt (fun i => !t.testBit i) i ≤ i := fun i => cnt_le _ i
  have un_l := un_len t n
  have B : ∀ (f i : Nat) (g : HS), i ≤ n → n - i < f → FR [o] [] nD h g → (∀ k, k < p.length → hI g o k = nI (rw0 m p k)) → (∀ j, j < i → t.testBit j = false → hI g o (p.length + cnt (fun i => !t.testBit i) j) = nI (m j)) → ∃ g', p51_L37 F (some o) (nI p.length) (nI t) f g (nI (p.length + cnt (fun i => !t.testBit i) i)) (nI i) = some g' ∧ FR [o] [] nD h g' ∧ (∀ k, k < p.length → hI g' o k = nI (rw0 m p k)) ∧ (∀ j, j < n → t.testBit j = false → hI g' o (p.length + cnt (fun i => !t.testBit i) j) = nI (m j)) := by
    intro f
    induction f with
    | zero => intro i g _ z; omega
    | succ f ih =>
      intro i g hi hf fg r1 r2
      obtain ⟨Lg, -, tg, ngo⟩ := ng g fg
      rw [p51_L37, Lg.1]
      by_cases hlt : i < n
      · have cs := cnt_ss (fun i => !t.testBit i) i
        rw [if_pos (nI_lt hlt (by omega)), usT t ht i (by omega)]
        unfold p51_j78
        cases hb : t.testBit i
        · have hc := cnt_lt (P := fun i => !t.testBit i) (show (!t.testBit i) = true by rw [hb]; rfl) hlt
          rw [if_neg (show ¬ false = true by decide), if_pos (show nI 0 = 0 from rfl), if_pos (nI_lt (by omega) (by omega)), if_neg (nI_in (by omega) (by decide)), ob, if_pos tg, ngo, if_neg (nI_in (by omega) (by decide)), nI_clamp (by omega), nI_clamp (by omega), Lg.2.2 i hlt, nI_1, nI_1]
          have ih' := ih (i + 1) (hsI g o (p.length + cnt (fun i => !t.testBit i) i) (nI (m i))) (by omega) (by omega) (fg.sI (Or.inl (List.mem_singleton.mpr rfl))) (fun k hk => (if_neg (fun y => by omega)).trans (r1 k hk)) (fun j hj hbj => by
            by_cases z : j = i
            · subst z; exact hsI_s _ _ _ _
            · have := cnt_lt (P := fun i => !t.testBit i) (show (!t.testBit j) = true by rw [hbj]; rfl) (show j < i by omega)
              exact (if_neg (fun y => by omega)).trans (r2 j (by omega) hbj))
          rw [cs, hb, ← Nat.add_assoc] at ih'
          exact ih'
        · rw [if_pos rfl, if_neg (show ¬ nI 1 = 0 by decide), nI_1]
          have ih' := ih (i + 1) g (by omega) (by omega) fg r1 (fun j hj hbj => r2 j (Nat.lt_of_le_of_ne (by omega) (fun z => by rw [z, hb] at hbj; cases hbj)) hbj)
          rw [cs, hb] at ih'
          exact ih'
      · have : i = n := by omega
        subst this
        rw [if_neg Int32.lt_irrefl]
        exact ⟨g, rfl, fg, r1, r2⟩
  have A : ∀ (f i : Nat) (g : HS), i ≤ p.length → p.length - i < f → FR [o] [] nD h g → (∀ k, k < i → hI g o k = nI (rw0 m p k)) → ∃ g', p51_L3 F (some o) (nI p.length) (nI t) f g (nI i) = p51_L37 F (some o) (nI p.length) (nI t) F g' (nI p.length) 0 ∧ FR [o] [] nD h g' ∧ (∀ k, k < p.length → hI g' o k = nI (rw0 m p k)) := by
    intro f
    induction f with
    | zero => intro i g _ z; omega
    | succ f ih =>
      intro i g hi hf fg r1
      obtain ⟨Lg, g45, tg, ngo⟩ := ng g fg
      rw [p51_L3]
      by_cases hlt : i < p.length
      · obtain ⟨e1, e2⟩ := hp i hlt
        rw [if_pos (nI_lt hlt (by omega)), if_neg (nI_in (by omega) (by decide)), nI_clamp (by omega), g45, e1, if_neg (nI_in (by omega) (by decide)), ob, if_pos tg, ngo, if_neg (nI_in' (by omega) (by decide)), nI_clamp (by omega), Lg.2.2 _ e2, ob, nI_1]
        exact ih (i + 1) _ (by omega) (by omega) (fg.sI (Or.inl (List.mem_singleton.mpr rfl))) (fun k hk => by
          by_cases z : k = i
          · subst z; exact hsI_s _ _ _ _
          · exact (if_neg (fun y => z y.2)).trans (r1 k (by omega)))
      · have : i = p.length := by omega
        subst this
        rw [if_neg Int32.lt_irrefl]
        exact ⟨g, rfl, fg, r1⟩
  obtain ⟨g1, e1, f1, r1⟩ := A F 0 h (by omega) (by omega) (FR.rf nD160) (fun k z => by omega)
  obtain ⟨g2, e2, f2, r2, r3⟩ := B F 0 g1 (by omega) (by omega) f1 r1 (fun k z => by omega)
  refine ⟨g2, ?_, f2, fun k hk => ?_⟩
  · unfold p51
    rw [show p51_L3 F (some o) (nI p.length) (nI t) F h 0 = _ from e1, ← e2]
    rfl
  · rw [List.length_append, hl] at hk
    unfold rw0
    rw [gdA]
    by_cases z : k < p.length
    · rw [if_pos z]; exact r2 k z
    · rw [if_neg z]
      obtain ⟨j, j1, j2, j3⟩ := cnt_ex (P := fun i => !t.testBit i) n (k - p.length) (by omega)
      have jb : t.testBit j = false := by simpa using j2
      have := r3 j j1 jb
      rw [j3, show p.length + (k - p.length) = k by omega] at this
      rw [this, ← j3, un_g t n j j1 jb]
/-- what the search holds -/
def CSt (h0 h : HS) (m : Nat → Nat) (n : Nat) (σ : LYS) (p : List Nat) : Prop := FR [45, 46, 47] [(39, 3), (39, 4)] nD h0 h ∧ hI h 39 3 = bst σ.1 ∧ σ.1 ≤ 17 ∧ hI h 39 4 = nI σ.2.1 ∧ (∀ k, k < p.length → hI h 45 k = nI (p.getD k 0)) ∧ (0 < σ.2.1 → σ.2.2.1.length = n ∧ rowIs h 46 m σ.2.2.1) ∧ (1 < σ.2.1 → σ.2.2.2.length = n ∧ rowIs h 47 m σ.2.2.2)
theorem LB.fk {g : HS} {W : List Nat} {K : List (Nat × Nat)} {D : Nat → Prop} (L : LB h m n w) (wh : 160 ≤ h.1) (f : FR W K D h g) (ok : ¬ 39 ∈ W ∧ ¬ 40 ∈ W ∧ ¬ (39, 1) ∈ K ∧ ¬ (39, 2) ∈ K ∧ ¬ 40 ∈ K.map (fun p => p.1)) : LB g m n w := ⟨(f.fI wh 39 1 ⟨by decide, ok.1, ok.2.2.1⟩).trans L.1, (f.fI wh 39 2 ⟨by decide, ok.1, ok.2.2.2.1⟩).trans L.2.1, fun k hk => by rw [f.fA wh 40 ⟨by decide, ok.2.1, ok.2.2.2.2⟩]; exact L.2.2 k hk⟩
/-- from here on nothing more can fit -/
theorem recd {φ : List Nat → Nat} {c : Nat} {σ : LYS} {p : List Nat} {t : Nat} (wf : WF g0) (A : FAc g0) (L : LB g0 m n w) (hn : n ≤ 8) (M : CSt g0 h m n σ p) (ht : t < 256) (hpn : ∀ k, k < p.length → p.getD k 0 < n) (hl : p.length + (un n t).length = n) (hc : ∀ u, u.Perm (un n t) → φ (p ++ u) = c) (c16 : c ≤ 16) (hb : σ.1 ≤ c + 1) (hB : σ.2.1 + fct (un n t).length < 2 ^ 30) (hF : 20 ≤ F) : ∃ g, p50 F h (nI p.length) (nI t) (nI c) = some g ∧ CSt g0 g m n (blk φ (un n t).length p σ (un n t)) p := by
  obtain ⟨m1, m2, m3, m4, m5, m6, m7⟩ := M
  have w0 := wf.1
  have wfh : WF h := wf.fr m1 (by decide)
  have Lh : LB h m n w := L.fk w0 m1 (by decide)
  have er : nI n - nI p.length = nI (un n t).length := by rw [pk_sub (by omega)]; congr 1; omega
  have fp := fct_pos (un n t).length
  -- j26
  have J128 : ∀ (g : HS) (W : Nat), FR [45, 46, 47] [(39, 3), (39, 4)] nD g0 g → hI g 39 4 = nI W → p50_j128 F (nI p.length) (nI t) (nI c) g (nI (un n t).length) = some (hsI g 39 4 (nI (W + fct (un n t).length))) := by
    intro g W fg e4
    have Ag := A.fr w0 fg (by decide)
    unfold p50_j128
    rw [Ag.1, nI_clamp (by omega), if_neg (nI_in' (by omega) (by decide)), Ag.2 _ (by omega), e4, nI_add]
  have hp45 : ∀ (g : HS), hI g 45 = hI h 45 → ∀ k, k < p.length → hI g 45 k = nI (p.getD k 0) ∧ p.getD k 0 < n := fun g e k hk => ⟨by rw [e]; exact m5 k hk, hpn k hk⟩
  have main : ∀ (g : HS) (W : Nat), FR [45, 46, 47] [(39, 3), (39, 4)] nD g0 g → hI g 45 = hI h 45 → hI g 46 = hI h 46 → hI g 47 = hI h 47 → hI g 39 3 = nI c → hI g 39 4 = nI W → W = lsw σ c → ∃ g', p50_j26 F (nI p.length) (nI t) (nI c) g (nI (un n t).length) = some g' ∧ CSt g0 g' m n (blk φ (un n t).length p σ (un n t)) p := by
    intro g W fg g45 g46 g47 g3 g4 hW
    have wg : WF g := wf.fr fg (by decide)
    have Lg : LB g m n w := L.fk w0 fg (by decide)
    have c17 : c + 1 ≤ 17 := by omega
    have eb : nI c = bst (c + 1) := by unfold bst; rw [nI_pred]
    have k46 : (∀ a, a ∈ [46] → a ∈ [45, 46, 47]) ∧ (∀ a, a ∈ [47] → a ∈ [45, 46, 47]) := by decide
    by_cases z0 : W = 0
    · subst z0
      obtain ⟨g1, e1, f1, r1⟩ := fill 46 (Or.inl rfl) wg Lg hn ht (hp45 g g45) hl hF
      have F1 : FR [45, 46, 47] [(39, 3), (39, 4)] nD g0 g1 := fg.tr (f1.mo k46.1 (fun _ z => nomatch z) (fun _ z => z) nD160)
      have wg1 : WF g1 := wf.fr F1 (by decide)
      have Lg1 : LB g1 m n w := L.fk w0 F1 (by decide)
      have b0 := blk_eq0 (un n t).length p σ (un n t) rfl hc hb hW.symm
      by_cases r2 : 2 ≤ (un n t).length
      · obtain ⟨g2, e2, f2, q2⟩ := fill 47 (Or.inr rfl) wg1 Lg1 hn ht (hp45 g1 ((f1.fA wg.1 45 (by decide)).trans g45)) hl hF
        have F2 : FR [45, 46, 47] [(39, 3), (39, 4)] nD g0 g2 := F1.tr (f2.mo k46.2 (fun _ z => nomatch z) (fun _ z => z) nD160)
        have Lg2 : LB g2 m n w := L.fk w0 F2 (by decide)
        have F3 : FR [45, 46, 47] [(39, 3), (39, 4)] nD g0 (hsI (hsI g2 47 (n - 1) (hI g2 47 (n - 2))) 47 (n - 2) (hI g2 47 (n - 1))) := (F2.sI (Or.inl (by decide))).sI (Or.inl (by decide))
        have s39 : ∀ k, hI (hsI (hsI g2 47 (n - 1) (hI g2 47 (n - 2))) 47 (n - 2) (hI g2 47 (n - 1))) 39 k = hI g 39 k := fun k => by
          rw [hsI_n (by decide), hsI_n (by decide), f2.fI wg1.1 39 k ⟨by decide, by decide, fun z => nomatch z⟩, f1.fI wg.1 39 k ⟨by decide, by decide, fun z => nomatch z⟩]
        have n1 : nI n - 1 = nI (n - 1) := pk_sub (a := n) (b := 1) (by omega)
        have n2 : nI n - 2 = nI (n - 2) := pk_sub (a := n) (b := 2) (by omega)
        have e39 : hI (hsI g2 47 (n - 1) (hI g2 47 (n - 2))) 39 1 = nI n := by rw [hsI_n (by decide)]; exact Lg2.1
        refine ⟨hsI (hsI (hsI g2 47 (n - 1) (hI g2 47 (n - 2))) 47 (n - 2) (hI g2 47 (n - 1))) 39 4 (nI (0 + fct (un n t).length)), ?_, ?_, ?_⟩
        rotate_left
        · exact F3.sI (k := 4) (v := nI (0 + fct (un n t).length)) (Or.inr (Or.inr (Or.inl (by decide))))
        · rw [b0, if_pos r2]
          refine ⟨?_, c17, ?_, fun k hk => ?_, fun _ => ⟨by rw [List.length_append]; exact hl, fun k hk => ?_⟩, fun _ => ⟨by rw [List.length_append, sw2_len]; exact hl, fun k hk => ?_⟩⟩
          · rw [hsI_k (by decide), s39, g3, eb]
          · rw [hsI_s, Nat.zero_add]
          · rw [hsI_n (by decide), hsI_n (by decide), hsI_n (by decide), f2.fA wg1.1 45 (by decide), f1.fA wg.1 45 (by decide), g45]
            exact m5 k hk
          · rw [hsI_n (by decide), hsI_n (by decide), hsI_n (by decide), f2.fA wg1.1 46 (by decide)]
            exact r1 k hk
          · rw [hsI_n (by decide)]
            rw [List.length_append, sw2_len, hl] at hk
            have rv : ∀ j, j < n → hI g2 47 j = nI (m ((p ++ un n t).getD j 0)) := fun j hj => q2 j (by rw [List.length_append, hl]; exact hj)
            have gg : ∀ j, p.length ≤ j → (p ++ un n t).getD j 0 = (un n t).getD (j - p.length) 0 := fun j hj => by rw [gdA, if_neg (by omega)]
            unfold rw0
            show u2 (hI (hsI g2 47 (n - 1) (hI g2 47 (n - 2)))) 47 (n - 2) (hI g2 47 (n - 1)) 47 k = _
            by_cases z2 : k = n - 2
            · refine (if_pos ⟨rfl, z2⟩).trans ?_
              rw [rv _ (by omega), gdA, gdA, if_neg (by omega), if_neg (by omega), sw2_g _ _ r2 (by omega), if_neg (by omega), if_pos (by omega)]
              congr 3
              omega
            · refine (if_neg (fun y => z2 y.2)).trans ?_
              by_cases z1 : k = n - 1
              · refine (if_pos ⟨rfl, z1⟩).trans ?_
                rw [rv _ (by omega), gdA, gdA, if_neg (by omega), if_neg (by omega), sw2_g _ _ r2 (by omega), if_pos (by omega)]
                congr 3
                omega
              · refine (if_neg (fun y => z1 y.2)).trans ?_
                show hI g2 47 k = _
                rw [rv k hk, gdA, gdA]
                by_cases zp : k < p.length
                · rw [if_pos zp, if_pos zp]
                · rw [if_neg zp, if_neg zp, sw2_g _ _ r2 (by omega), if_neg (by omega), if_neg (by omega)]
        · unfold p50_j26
          rw [g4, if_pos (show nI 0 = 0 from rfl), e1, ob, if_pos (show (1 : Int32) < nI (un n t).length from nI_lt (a := 1) (by omega) (by omega)), e2, ob, Lg2.1, n1, n2, nI_clamp (by omega), nI_clamp (by omega), if_neg (nI_in' (by omega) (by decide)), if_neg (nI_in' (by omega) (by decide)), if_neg (nI_in' (by omega) (by decide)), ob, e39, n2, nI_clamp (by omega), if_neg (nI_in' (by omega) (by decide)), ob]
          exact J128 _ 0 F3 ((s39 4).trans g4)
      · refine ⟨hsI g1 39 4 (nI (0 + fct (un n t).length)), ?_, ?_, ?_⟩
        rotate_left
        · exact F1.sI (a := 39) (k := 4) (v := nI (0 + fct (un n t).length)) (Or.inr (Or.inr (Or.inl (by decide))))
        · have fs : fct (un n t).length = 1 := by
            rcases (show (un n t).length = 0 ∨ (un n t).length = 1 by omega) with z | z <;> rw [z] <;> rfl
          rw [b0, if_neg r2]
          refine ⟨?_, c17, ?_, fun k hk => ?_, fun _ => ⟨by rw [List.length_append]; exact hl, fun k hk => ?_⟩, fun z => ?_⟩
          · rw [hsI_k (by decide), f1.fI wg.1 39 3 (by decide), g3, eb]
          · rw [hsI_s, Nat.zero_add]
          · rw [hsI_n (by decide), f1.fA wg.1 45 (by decide), g45]
            exact m5 k hk
          · rw [hsI_n (by decide)]
            exact r1 k hk
          · rw [show ((c + 1, fct (un n t).length, p ++ un n t, σ.2.2.2) : LYS).2.1 = fct (un n t).length from rfl, fs] at z
            exact absurd z (by decide)
        · unfold p50_j26
          rw [g4, if_pos (show nI 0 = 0 from rfl), e1, ob, if_neg (show ¬ (1 : Int32) < nI (un n t).length from nI_nlt (a := 1) (by omega) (by omega))]
          exact J128 _ 0 F1 ((f1.fI wg.1 39 4 (by decide)).trans g4)
    · have hs : ¬ σ.1 < c + 1 := fun y => z0 (by rw [hW]; exact if_pos y)
      have eW : W = σ.2.1 := by rw [hW]; exact if_neg hs
      have b1 := blk_eq1 (un n t).length p σ (un n t) rfl hc (by omega) (by omega)
      have zn : ¬ nI W = 0 := nI_ne0 (by omega) (by omega)
      by_cases z1 : W = 1
      · obtain ⟨g1, e1, f1, r1⟩ := fill 47 (Or.inr rfl) wg Lg hn ht (hp45 g g45) hl hF
        have F1 : FR [45, 46, 47] [(39, 3), (39, 4)] nD g0 g1 := fg.tr (f1.mo k46.2 (fun _ z => nomatch z) (fun _ z => z) nD160)
        refine ⟨hsI g1 39 4 (nI (W + fct (un n t).length)), ?_, ?_, ?_⟩
        rotate_left
        · exact F1.sI (a := 39) (k := 4) (v := nI (W + fct (un n t).length)) (Or.inr (Or.inr (Or.inl (by decide))))
        · rw [b1, if_pos (by omega)]
          refine ⟨?_, c17, ?_, fun k hk => ?_, fun _ => ⟨(m6 (by omega)).1, fun k hk => ?_⟩, fun _ => ⟨by rw [List.length_append]; exact hl, fun k hk => ?_⟩⟩
          · rw [hsI_k (by decide), f1.fI wg.1 39 3 (by decide), g3, eb]
          · rw [hsI_s, eW]
          · rw [hsI_n (by decide), f1.fA wg.1 45 (by decide), g45]
            exact m5 k hk
          · rw [hsI_n (by decide), f1.fA wg.1 46 (by decide), g46]
            exact (m6 (by omega)).2 k hk
          · rw [hsI_n (by decide)]
            exact r1 k hk
        · unfold p50_j26
          rw [g4, if_neg zn, if_pos (show nI W = 1 by rw [z1]; rfl), e1, ob]
          exact J128 _ W F1 ((f1.fI wg.1 39 4 (by decide)).trans g4)
      · refine ⟨hsI g 39 4 (nI (W + fct (un n t).length)), ?_, ?_, ?_⟩
        rotate_left
        · exact fg.sI (a := 39) (k := 4) (v := nI (W + fct (un n t).length)) (Or.inr (Or.inr (Or.inl (by decide))))
        · rw [b1, if_neg (by omega)]
          refine ⟨?_, c17, ?_, fun k hk => ?_, fun _ => ⟨(m6 (by omega)).1, fun k hk => ?_⟩, fun _ => ⟨(m7 (by omega)).1, fun k hk => ?_⟩⟩
          · rw [hsI_k (by decide), g3, eb]
          · rw [hsI_s, eW]
          · rw [hsI_n (by decide), g45]
            exact m5 k hk
          · rw [hsI_n (by decide), g46]
            exact (m6 (by omega)).2 k hk
          · rw [hsI_n (by decide), g47]
            exact (m7 (by omega)).2 k hk
        · unfold p50_j26
          rw [g4, if_neg zn, if_neg (show ¬ nI W = 1 from fun y => z1 ((nI_eq (b := 1) (by omega) (by omega)).mp y))]
          exact J128 _ W fg g4
  unfold p50
  rw [m2, Lh.1, er]
  by_cases c1 : σ.1 < c + 1
  · rw [if_pos (by rw [bst_lt (by omega) (by omega)]; exact c1)]
    refine main (hsI (hsI h 39 3 (nI c)) 39 4 0) 0 ((m1.sI (Or.inr (Or.inr (Or.inl (by decide))))).sI (Or.inr (Or.inr (Or.inl (by decide))))) ?_ ?_ ?_ ?_ (hsI_s _ _ _ _) (by unfold lsw; rw [if_pos c1])
    · rw [hsI_n (by decide), hsI_n (by decide)]
    · rw [hsI_n (by decide), hsI_n (by decide)]
    · rw [hsI_n (by decide), hsI_n (by decide)]
    · rw [hsI_k (by decide)]
      exact hsI_s _ _ _ _
  · rw [if_neg (by rw [bst_lt (by omega) (by omega)]; exact c1)]
    exact main h σ.2.1 m1 rfl rfl rfl (by rw [m2, show σ.1 = c + 1 by omega]; unfold bst; rw [nI_pred]) m4 (by unfold lsw; rw [if_neg c1])
end LA6
