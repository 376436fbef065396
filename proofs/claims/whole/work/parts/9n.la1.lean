/-! laying: all ways in their order, folded -/
abbrev LYS : Type := Nat × Nat × List Nat × List Nat
def lsw (σ : LYS) (c : Nat) : Nat := if σ.1 < c + 1 then 0 else σ.2.1
def lst (φ : List Nat → Nat) (σ : LYS) (q : List Nat) : LYS := if σ.1 ≤ φ q + 1 then (φ q + 1, lsw σ (φ q) + 1, if lsw σ (φ q) = 0 then q else σ.2.2.1, if lsw σ (φ q) = 1 then q else σ.2.2.2) else σ
def blk (φ : List Nat → Nat) : Nat → List Nat → LYS → List Nat → LYS
  | 0, p, σ, _ => lst φ σ p
  | r + 1, p, σ, U => U.foldl (fun σ x => blk φ r (p ++ [x]) σ (U.erase x)) σ
def fct : Nat → Nat
  | 0 => 1
  | n + 1 => (n + 1) * fct n
def sw2 : List Nat → List Nat
  | [] => []
  | [x] => [x]
  | [x, y] => [y, x]
  | x :: y :: z :: t => x :: sw2 (y :: z :: t)
theorem fct_pos : ∀ n, 1 ≤ fct n
  | 0 => Nat.le_refl _
  | n + 1 => Nat.mul_pos (Nat.succ_pos n) (fct_pos n)
theorem fct_2 : ∀ n, 2 ≤ n → 2 ≤ fct n := by
  intro n hn
  obtain ⟨k, rfl⟩ : ∃ k, n = k + 1 := ⟨n - 1, by omega⟩
  have := fct_pos k
  rw [fct]
  exact Nat.le_trans (by omega) (Nat.mul_le_mul (show 2 ≤ k + 1 by omega) this)
theorem foldl_id {α β : Type} {g : α → β → α} {a : α} : ∀ l : List β, (∀ x, x ∈ l → g a x = a) → l.foldl g a = a
  | [], _ => rfl
  | x :: t, h => by
    rw [List.foldl_cons, h x (List.mem_cons_self ..)]
    exact foldl_id t (fun y m => h y (List.mem_cons_of_mem _ m))
theorem la_ap (p t : List Nat) (x : Nat) : p ++ [x] ++ t = p ++ x :: t := by rw [List.append_assoc]; rfl
theorem pe_c {U t : List Nat} {x : Nat} (m : x ∈ U) (ht : t.Perm (U.erase x)) : (x :: t).Perm U := (List.Perm.cons x ht).trans (List.perm_cons_erase m).symm
theorem le_e {U : List Nat} {x r : Nat} (m : x ∈ U) (h : U.length = r + 1) : (U.erase x).length = r := by rw [List.length_erase_of_mem m]; omega
theorem blk_less {φ : List Nat → Nat} : ∀ (r : Nat) (p : List Nat) (σ : LYS) (U : List Nat), U.length = r → (∀ t, t.Perm U → φ (p ++ t) + 1 < σ.1) → blk φ r p σ U = σ := by
  intro r
  induction r with
  | zero =>
    intro p σ U hU h
    have e : U = [] := List.length_eq_zero_iff.mp hU
    subst e
    have := h [] (List.Perm.refl _)
    rw [List.append_nil] at this
    rw [blk]
    exact if_neg (by omega)
  | succ r ih =>
    intro p σ U hU h
    rw [blk]
    exact foldl_id U (fun x m => ih (p ++ [x]) σ (U.erase x) (le_e m hU) (fun t ht => by
      have := h (x :: t) (pe_c m ht)
      rw [la_ap]
      exact this))
theorem blk_eq1 {φ : List Nat → Nat} {c : Nat} : ∀ (r : Nat) (p : List Nat) (σ : LYS) (U : List Nat), U.length = r → (∀ t, t.Perm U → φ (p ++ t) = c) → σ.1 = c + 1 → 1 ≤ σ.2.1 → blk φ r p σ U = (c + 1, σ.2.1 + fct r, σ.2.2.1, if σ.2.1 = 1 then p ++ U else σ.2.2.2) := by
  intro r
  induction r with
  | zero =>
    intro p σ U hU h h1 hw
    have e : U = [] := List.length_eq_zero_iff.mp hU
    subst e
    have := h [] (List.Perm.refl _)
    rw [List.append_nil] at this
    have ew : lsw σ c = σ.2.1 := if_neg (by omega)
    rw [blk, lst, this, ew, if_pos (by omega), if_neg (show ¬ σ.2.1 = 0 by omega), List.append_nil]
    rfl
  | succ r ih =>
    intro p σ U hU h h1 hw
    obtain ⟨x, T, rfl⟩ : ∃ x T, U = x :: T := by
      cases U with
      | nil => cases hU
      | cons x T => exact ⟨x, T, rfl⟩
    have hT : T.length = r := by simpa using hU
    have more : ∀ (l : List Nat) (τ : LYS), (∀ y, y ∈ l → y ∈ x :: T) → τ.1 = c + 1 → 2 ≤ τ.2.1 → l.foldl (fun σ y => blk φ r (p ++ [y]) σ ((x :: T).erase y)) τ = (c + 1, τ.2.1 + l.length * fct r, τ.2.2.1, τ.2.2.2) := by
      intro l
      induction l with
      | nil =>
        intro τ _ t1 _
        show τ = _
        rw [← t1, List.length_nil, Nat.zero_mul, Nat.add_zero]
      | cons y l ihl =>
        intro τ hm t1 t2
        have m := hm y (List.mem_cons_self ..)
        rw [List.foldl_cons, ih (p ++ [y]) τ ((x :: T).erase y) (le_e m hU) (fun t ht => by rw [la_ap]; exact h _ (pe_c m ht)) t1 (by omega), ihl _ (fun z mz => hm z (List.mem_cons_of_mem _ mz)) rfl (by show 2 ≤ τ.2.1 + fct r; omega), if_neg (show ¬ τ.2.1 = 1 by omega), List.length_cons, Nat.add_mul]
        show (c + 1, τ.2.1 + fct r + l.length * fct r, _, _) = _
        rw [show τ.2.1 + fct r + l.length * fct r = τ.2.1 + (l.length * fct r + 1 * fct r) by omega]
    have m : x ∈ x :: T := List.mem_cons_self ..
    have ee : (x :: T).erase x = T := List.erase_cons_head _ _
    rw [blk, List.foldl_cons, ee, ih (p ++ [x]) σ T hT (fun t ht => by rw [la_ap]; exact h _ (List.Perm.cons x ht)) h1 hw]
    have fp := fct_pos r
    rw [more T _ (fun y my => List.mem_cons_of_mem _ my) rfl (by show 2 ≤ σ.2.1 + fct r; omega), hT, la_ap]
    show (c + 1, σ.2.1 + fct r + r * fct r, _, _) = (c + 1, σ.2.1 + (r + 1) * fct r, _, _)
    rw [Nat.add_mul, show σ.2.1 + fct r + r * fct r = σ.2.1 + (r * fct r + 1 * fct r) by omega]
theorem blk_more {φ : List Nat → Nat} {c r : Nat} {p U : List Nat} (hU : U.length = r + 1) (h : ∀ t, t.Perm U → φ (p ++ t) = c) : ∀ (l : List Nat) (τ : LYS), (∀ y, y ∈ l → y ∈ U) → τ.1 = c + 1 → 2 ≤ τ.2.1 → l.foldl (fun σ y => blk φ r (p ++ [y]) σ (U.erase y)) τ = (c + 1, τ.2.1 + l.length * fct r, τ.2.2.1, τ.2.2.2) := by
  intro l
  induction l with
  | nil =>
    intro τ _ t1 _
    show τ = _
    rw [← t1, List.length_nil, Nat.zero_mul, Nat.add_zero]
  | cons y l ihl =>
    intro τ hm t1 t2
    have m := hm y (List.mem_cons_self ..)
    rw [List.foldl_cons, blk_eq1 r (p ++ [y]) τ (U.erase y) (le_e m hU) (fun t ht => by rw [la_ap]; exact h _ (pe_c m ht)) t1 (by omega), ihl _ (fun z mz => hm z (List.mem_cons_of_mem _ mz)) rfl (by show 2 ≤ τ.2.1 + fct r; omega), if_neg (show ¬ τ.2.1 = 1 by omega), List.length_cons, Nat.add_mul]
    show (c + 1, τ.2.1 + fct r + l.length * fct r, _, _) = _
    rw [show τ.2.1 + fct r + l.length * fct r = τ.2.1 + (l.length * fct r + 1 * fct r) by omega]
theorem blk_eq0 {φ : List Nat → Nat} {c : Nat} : ∀ (r : Nat) (p : List Nat) (σ : LYS) (U : List Nat), U.length = r → (∀ t, t.Perm U → φ (p ++ t) = c) → σ.1 ≤ c + 1 → lsw σ c = 0 → blk φ r p σ U = (c + 1, fct r, p ++ U, if 2 ≤ r then p ++ sw2 U else σ.2.2.2) := by
  intro r
  induction r with
  | zero =>
    intro p σ U hU h h1 hw
    have e : U = [] := List.length_eq_zero_iff.mp hU
    subst e
    have := h [] (List.Perm.refl _)
    rw [List.append_nil] at this
    rw [blk, lst, this, hw, if_pos h1, List.append_nil]
    rfl
  | succ r ih =>
    intro p σ U hU h h1 hw
    obtain ⟨x, T, rfl⟩ : ∃ x T, U = x :: T := by
      cases U with
      | nil => cases hU
      | cons x T => exact ⟨x, T, rfl⟩
    have hT : T.length = r := by simpa using hU
    have ee : (x :: T).erase x = T := List.erase_cons_head _ _
    rw [blk, List.foldl_cons, ee, ih (p ++ [x]) σ T hT (fun t ht => by rw [la_ap]; exact h _ (List.Perm.cons x ht)) h1 hw, la_ap, la_ap]
    match r, T, hT, hU with
    | 0, [], _, _ => rfl
    | 1, [y], _, hU =>
      have e2 : [x, y].erase y = [x] := by
        by_cases z : x = y
        · rw [z, List.erase_cons_head]
        · rw [List.erase_cons_tail (by simpa using z), List.erase_cons_head]
      have m : y ∈ [x, y] := List.mem_cons_of_mem _ (List.mem_cons_self ..)
      rw [List.foldl_cons, List.foldl_nil, e2, blk_eq1 1 (p ++ [y]) _ [x] rfl (fun t ht => by rw [la_ap]; exact h _ (pe_c m (by rw [e2]; exact ht))) rfl (Nat.le_refl _)]
      rw [if_pos (show fct 1 = 1 from rfl), if_pos (show 2 ≤ 1 + 1 from Nat.le_refl _), la_ap]
      rfl
    | r + 2, y :: z :: T, hT, hU =>
      have f2 := fct_2 (r + 2) (by omega)
      rw [blk_more hU h (y :: z :: T) _ (fun w mw => List.mem_cons_of_mem _ mw) rfl f2, hT, if_pos (show 2 ≤ r + 2 by omega), if_pos (show 2 ≤ r + 2 + 1 by omega)]
      show (c + 1, fct (r + 2) + (r + 2) * fct (r + 2), _, _) = (c + 1, (r + 2 + 1) * fct (r + 2), _, _)
      rw [Nat.add_mul (r + 2) 1, Nat.add_comm (fct (r + 2)), Nat.one_mul]
      rfl
/-! the unused, by a mask -/
def un (n t : Nat) : List Nat := (List.range n).filter (fun i => !t.testBit i)
theorem un_e {n t i : Nat} (_hi : i < n) (_hb : t.testBit i = false) : (un n t).erase i = un n (t ||| 2 ^ i) := by
  unfold un
  rw [List.Nodup.erase_eq_filter (List.Pairwise.filter _ List.nodup_range), List.filter_filter]
  refine List.filter_congr fun j _ => ?_
  rw [Nat.testBit_or, Nat.testBit_two_pow]
  by_cases e : j = i
  · subst e
    simp
  · have : ¬ i = j := fun z => e z.symm
    simp [e, this]
theorem un_m {n t i : Nat} : i ∈ un n t ↔ i < n ∧ t.testBit i = false := by
  unfold un
  rw [List.mem_filter, List.mem_range]
  simp
theorem un_0 (n : Nat) : un n 0 = List.range n := by
  unfold un
  exact List.filter_eq_self.mpr (fun i _ => by simp)
def sumL (f : Nat → Nat) : List Nat → Nat
  | [] => 0
  | x :: t => f x + sumL f t
theorem sumL_p {f : Nat → Nat} {a b : List Nat} (h : a.Perm b) : sumL f a = sumL f b := by
  induction h with
  | nil => rfl
  | cons x _ ih => rw [sumL, sumL, ih]
  | swap x y l => rw [sumL, sumL, sumL, sumL]; omega
  | trans _ _ h1 h2 => rw [h1, h2]
theorem sumL_a {f : Nat → Nat} (b : List Nat) : ∀ a : List Nat, sumL f (a ++ b) = sumL f a + sumL f b
  | [] => (Nat.zero_add _).symm
  | x :: t => by rw [List.cons_append, sumL, sumL, sumL_a b t]; omega
theorem sumL_r {f : Nat → Nat} : ∀ n, sumL f (List.range n) = sumN f n
  | 0 => rfl
  | n + 1 => by rw [List.range_succ, sumL_a, sumL_r n]; rfl
/-! fits along a row -/
def gnn (h : HS) (r : Nat → Nat) (w k : Nat) : Nat := (if decide (0 < k % w) && jn h (r (k - 1)) (r k) 0 then 1 else 0) + (if decide (w ≤ k) && jn h (r (k - w)) (r k) 1 then 1 else 0)
theorem fitC_s (h : HS) (r : Nat → Nat) (w i : Nat) : fitC h r w (i + 1) = fitC h r w i + gnn h r w i := by
  unfold fitC gnn
  rw [cnt_ss, cnt_ss]
  omega
theorem fitC_cg {h : HS} {r r' : Nat → Nat} {w i : Nat} (e : ∀ k, k < i → r k = r' k) : fitC h r w i = fitC h r' w i := by
  unfold fitC
  congr 1
  · exact cnt_congr fun k hk => by rw [e k hk, e (k - 1) (by omega)]
  · exact cnt_congr fun k hk => by rw [e k hk, e (k - w) (by omega)]
theorem gnn_cg {h : HS} {r r' : Nat → Nat} {w i : Nat} (e : ∀ k, k < i + 1 → r k = r' k) : gnn h r w i = gnn h r' w i := by
  unfold gnn
  rw [e i (by omega), e (i - 1) (by omega), e (i - w) (by omega)]
/-- a list of places as a row -/
def rw0 (m : Nat → Nat) (q : List Nat) (k : Nat) : Nat := m (q.getD k 0)
def lphi (h : HS) (m : Nat → Nat) (w n : Nat) (q : List Nat) : Nat := fitC h (rw0 m q) w n
theorem rw0_l {m : Nat → Nat} {p t : List Nat} {k : Nat} (hk : k < p.length) : rw0 m (p ++ t) k = rw0 m p k := by
  unfold rw0
  rw [List.getD_eq_getElem?_getD, List.getD_eq_getElem?_getD, List.getElem?_append_left hk]
def jtO (jt : Nat → Nat) (w n : Nat) : Prop := jt n = 0 ∧ ∀ i, i < n → jt i = jt (i + 1) + ((if 0 < i % w then 1 else 0) + (if w ≤ i then 1 else 0))
def hpO (h : HS) (m hp : Nat → Nat) (n : Nat) : Prop := ∀ a b c, a < n → b < n → c < n → (if decide (¬ a = b) && jn h (m a) (m b) 0 then 1 else 0) + (if decide (¬ c = b) && jn h (m c) (m b) 1 then 1 else 0) ≤ hp b
theorem gd_l {q : List Nat} {k : Nat} (hk : k < q.length) : q.getD k 0 = q[k] := by rw [List.getD_eq_getElem?_getD, List.getElem?_eq_getElem hk]; rfl
theorem nd_ne {q : List Nat} (hq : q.Nodup) {i j : Nat} (hj : j < q.length) (hi : i < j) : ¬ q.getD i 0 = q.getD j 0 := by
  rw [gd_l hj, gd_l (show i < q.length by omega)]
  intro e
  have := (List.getElem_inj hq).mp e
  omega
theorem gnn_hp {h : HS} {m hp : Nat → Nat} {w n k : Nat} {q : List Nat} (hw : 0 < w) (ho : hpO h m hp n) (hq : q.Nodup) (hk : k < q.length) (hl : ∀ j, j < q.length → q.getD j 0 < n) : gnn h (rw0 m q) w k ≤ hp (q.getD k 0) ∧ gnn h (rw0 m q) w k ≤ (if 0 < k % w then 1 else 0) + (if w ≤ k then 1 else 0) := by
  have b0 := hl k hk
  unfold gnn rw0
  have e1 : (if decide (0 < k % w) && jn h (m (q.getD (k - 1) 0)) (m (q.getD k 0)) 0 then 1 else 0) ≤ (if decide (¬ q.getD (k - 1) 0 = q.getD k 0) && jn h (m (q.getD (k - 1) 0)) (m (q.getD k 0)) 0 then 1 else 0) ∧ (if decide (0 < k % w) && jn h (m (q.getD (k - 1) 0)) (m (q.getD k 0)) 0 then 1 else 0) ≤ (if 0 < k % w then 1 else 0) := by
    by_cases z : 0 < k % w
    · have k0 : 0 < k := by rcases Nat.eq_zero_or_pos k with rfl | y <;> simp_all
      rw [decide_eq_true z, decide_eq_true (nd_ne hq hk (show k - 1 < k by omega)), if_pos z]
      exact ⟨Nat.le_refl _, by split <;> decide⟩
    · rw [decide_eq_false z, Bool.false_and]
      exact ⟨Nat.zero_le _, Nat.zero_le _⟩
  have e2 : (if decide (w ≤ k) && jn h (m (q.getD (k - w) 0)) (m (q.getD k 0)) 1 then 1 else 0) ≤ (if decide (¬ q.getD (k - w) 0 = q.getD k 0) && jn h (m (q.getD (k - w) 0)) (m (q.getD k 0)) 1 then 1 else 0) ∧ (if decide (w ≤ k) && jn h (m (q.getD (k - w) 0)) (m (q.getD k 0)) 1 then 1 else 0) ≤ (if w ≤ k then 1 else 0) := by
    by_cases z : w ≤ k
    · rw [decide_eq_true z, decide_eq_true (nd_ne hq hk (show k - w < k by omega)), if_pos z]
      exact ⟨Nat.le_refl _, by split <;> decide⟩
    · rw [decide_eq_false z, Bool.false_and]
      exact ⟨Nat.zero_le _, Nat.zero_le _⟩
  have := ho (q.getD (k - 1) 0) (q.getD k 0) (q.getD (k - w) 0) (hl _ (by omega)) b0 (hl _ (by omega))
  exact ⟨by omega, by omega⟩
theorem phi_le {h : HS} {m hp jt : Nat → Nat} {w n : Nat} {q : List Nat} (hw : 0 < w) (ho : hpO h m hp n) (hj : jtO jt w n) (hq : q.Nodup) (hn : q.length = n) (hl : ∀ j, j < q.length → q.getD j 0 < n) : ∀ (j i : Nat), i + j = n → fitC h (rw0 m q) w i ≤ lphi h m w n q ∧ lphi h m w n q ≤ fitC h (rw0 m q) w i + sumL hp (q.drop i) ∧ lphi h m w n q ≤ fitC h (rw0 m q) w i + jt i := by
  intro j
  induction j with
  | zero =>
    intro i hi
    have e : i = n := by omega
    subst e
    unfold lphi
    exact ⟨Nat.le_refl _, Nat.le_add_right _ _, Nat.le_add_right _ _⟩
  | succ j ih =>
    intro i hi
    obtain ⟨a1, a2, a3⟩ := ih (i + 1) (by omega)
    have hk : i < q.length := by omega
    obtain ⟨g1, g2⟩ := gnn_hp hw ho hq hk hl
    have j1 := hj.2 i (by omega)
    rw [fitC_s] at a1 a2 a3
    rw [List.drop_eq_getElem_cons hk, sumL, ← gd_l hk]
    exact ⟨by omega, by omega, by omega⟩
