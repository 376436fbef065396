/-! stores, loads, new cells: the machine's rows in the relation's words -/
theorem arrE_i {g : GX} {h : HS} {i t : Nat} (ht : 20 ≤ t ∧ t < 23) : arrE g h i t = (hN h i, .inl (fun j => hI h i j)) := by
  unfold arrE; rw [if_neg (by omega), if_neg (by omega)]
theorem arrE_l {g : GX} {h : HS} {i : Nat} : arrE g h i 23 = (hN h i, .inr (.inl (fun j => hL h i j))) := rfl
theorem arrE_r {g : GX} {h : HS} {i t : Nat} (ht : 24 ≤ t) : arrE g h i t = (hN h i, .inr (.inr (.inr (.inr (fun j => (hR h i j).map (ad g)))))) := by
  unfold arrE; rw [if_neg (by omega), if_pos ht]
theorem flds_len (g : GX) (h : HS) (i c : Nat) : (flds g h i c).length = cF c := by simp [flds]
theorem flds_get {g : GX} {h : HS} {i c k : Nat} (hk : k < cF c) : (flds g h i c)[k]? = some (fvl g h i (cY c k) k) := by
  simp [flds, hk]
theorem fvl_eq {g : GX} {h h' : HS} {i k : Nat} (t : FieldType) (h1 : hI h' i k = hI h i k) (h2 : hR h' i k = hR h i k) : fvl g h' i t k = fvl g h i t k := by
  unfold fvl; rw [h1, h2]
theorem cellE_eq {g : GX} {h h' : HS} {i : Nat} (hT' : hT h' i = hT h i) (hN' : hN h' i = hN h i) (h1 : ∀ k, hI h' i k = hI h i k) (h2 : ∀ k, hL h' i k = hL h i k) (h3 : ∀ k, hR h' i k = hR h i k) : cellE g h' i = cellE g h i := by
  have e1 : flds g h' i (hT h i) = flds g h i (hT h i) := by
    unfold flds
    exact List.map_congr_left (fun k _ => fvl_eq _ (h1 k) (h3 k))
  have e2 : arrE g h' i (hT h i) = arrE g h i (hT h i) := by
    unfold arrE
    rw [hN', show (fun j => hL h' i j) = (fun j => hL h i j) from funext h2, show (fun j => (hR h' i j).map (ad g)) = (fun j => (hR h i j).map (ad g)) from funext (fun j => by rw [h3]), show (fun j => hI h' i j) = (fun j => hI h i j) from funext h1]
  unfold cellE
  rw [hT', e1, e2]
theorem Rel.own {g : GX} {xt : XT} {h : HS} {H : Heap} {o : Nat} (hr : Rel g xt h H) (ht : hT h o < 28) : 32 ≤ o ∧ o < h.1 := by
  obtain ⟨-, -, -, h4, -, h6⟩ := hr
  refine ⟨?_, ?_⟩
  · rcases Nat.lt_or_ge o 32 with q | q
    · obtain ⟨e, -, -, z⟩ := h6 o q
      rw [e] at ht
      omega
    · exact q
  · rcases Nat.lt_or_ge o h.1 with q | q
    · exact q
    · rw [h4 o q] at ht
      omega
theorem Rel.at {g : GX} {xt : XT} {h : HS} {H : Heap} {o : Nat} (hr : Rel g xt h H) (ht : hT h o < 28) : va_at (gD g) clsL (ad g o, cellE g h o) H := by
  obtain ⟨a, b⟩ := hr.own ht
  exact (hr.2.2.1 o a b).1
theorem Rel.obj {g : GX} {xt : XT} {h : HS} {H : Heap} {o : Nat} (hr : Rel g xt h H) (ht : hT h o < 13) : va_at (gD g) clsL (ad g o, .inr (hT h o, flds g h o (hT h o))) H := by
  have := hr.at (show hT h o < 28 by omega)
  unfold cellE at this
  rw [if_pos ht] at this
  exact this
theorem Rel.arr {g : GX} {xt : XT} {h : HS} {H : Heap} {o : Nat} (hr : Rel g xt h H) (h1 : 20 ≤ hT h o) (h2 : hT h o < 28) : H[ad g o]? = some (vp_cell (gA g (hT h o - 20)) (arrE g h o (hT h o))) := by
  have := hr.at h2
  unfold cellE at this
  rw [if_neg (by omega)] at this
  exact this
theorem Rel.upd {g : GX} {xt : XT} {h h' : HS} {H H1 : Heap} {o : Nat} (hr : Rel g xt h H) (ho : hT h o < 28) (h1 : h'.1 = h.1) (eT : hT h' = hT h) (eN : hN h' = hN h)
    (es : ∀ i, i ≠ o → (∀ k, hI h' i k = hI h i k) ∧ (∀ k, hL h' i k = hL h i k) ∧ (∀ k, hR h' i k = hR h i k)) (z : H1.size = H.size) (oq : ∀ q : Nat, q ≠ ad g o → H1[q]? = H[q]?)
    (hat : va_at (gD g) clsL (ad g o, cellE g h' o) H1) : Rel g xt h' H1 := by
  obtain ⟨o1, o2⟩ := hr.own ho
  obtain ⟨r1, r2, r3, r4, r5, r6⟩ := hr
  refine ⟨by rw [z, h1]; exact r1, by rw [h1]; exact r2, fun i a b => ?_, fun i a => ?_, fun q hq => ?_, fun i hi => ?_⟩
  · rw [h1] at b
    obtain ⟨x, y⟩ := r3 i a b
    refine ⟨?_, by rw [eT]; exact y⟩
    by_cases e : i = o
    · subst e; exact hat
    · obtain ⟨s1, s2, s3⟩ := es i e
      rw [cellE_eq (by rw [eT]) (by rw [eN]) s1 s2 s3]
      exact x.kept (oq _ (fun w => e (ad_inj a o1 w)))
  · rw [eT]; exact r4 i (by rw [h1] at a; exact a)
  · rw [oq q (by rw [ad_lt o1]; omega)]
    exact r5 q hq
  · obtain ⟨a, b, d, e⟩ := r6 i hi
    obtain ⟨s1, -, -⟩ := es i (by omega)
    exact ⟨by rw [eT]; exact a, by rw [eN]; exact b, fun k => (s1 k).trans (d k), e⟩
theorem Rel.push {g : GX} {xt : XT} {h : HS} {H H1 : Heap} {t n : Nat} {f : Nat → Int32} (hr : Rel g xt h H) (ht : t < 13 ∨ (20 ≤ t ∧ t < 28)) (z : H1.size = H.size + 1) (oq : ∀ q : Nat, q < H.size → H1[q]? = H[q]?)
    (hat : va_at (gD g) clsL (ad g h.1, cellE g (hnew h t n f) h.1) H1) : Rel g xt (hnew h t n f) H1 := by
  obtain ⟨r1, r2, r3, r4, r5, r6⟩ := hr
  have e1 : (hnew h t n f).1 = h.1 + 1 := rfl
  have same : ∀ i, i ≠ h.1 → hT (hnew h t n f) i = hT h i ∧ hN (hnew h t n f) i = hN h i ∧ (∀ k, hI (hnew h t n f) i k = hI h i k) ∧ (∀ k, hL (hnew h t n f) i k = hL h i k) ∧ (∀ k, hR (hnew h t n f) i k = hR h i k) := by
    intro i hi
    refine ⟨if_neg hi, if_neg hi, fun k => if_neg hi, fun k => if_neg hi, fun k => if_neg hi⟩
  have sT : hT (hnew h t n f) h.1 = t := if_pos rfl
  refine ⟨by rw [z, r1, e1]; omega, by rw [e1]; omega, fun i a b => ?_, fun i a => ?_, fun q hq => ?_, fun i hi => ?_⟩
  · by_cases e : i = h.1
    · subst e
      exact ⟨hat, by rw [sT]; exact ht⟩
    · obtain ⟨x, y⟩ := r3 i a (by rw [e1] at b; omega)
      obtain ⟨s0, s1, s2, s3, s4⟩ := same i e
      rw [cellE_eq s0 s1 s2 s3 s4, s0]
      exact ⟨x.kept (oq _ x.lt), y⟩
  · obtain ⟨s0, -⟩ := same i (by rw [e1] at a; omega)
    rw [s0]; exact r4 i (by rw [e1] at a; omega)
  · rw [oq q (by omega)]
    exact r5 q hq
  · obtain ⟨a, b, d, e⟩ := r6 i hi
    obtain ⟨s0, s1, s2, -⟩ := same i (by omega)
    exact ⟨s0.trans a, s1.trans b, fun k => (s2 k).trans (d k), e⟩
theorem ad_new {g : GX} {xt : XT} {h : HS} {H : Heap} (hr : Rel g xt h H) : ad g h.1 = H.size := by
  obtain ⟨r1, r2, -⟩ := hr
  rw [ad_lt r2, r1]
theorem flds_I {g : GX} {h : HS} {o c b : Nat} {v : Int32} (hb : b < cF c) (hy : cY c b = .int ∨ cY c b = .boolean) : flds g (hsI h o b v) o c = (flds g h o c).set b (.int v) := by
  apply List.ext_getElem?
  intro j
  rw [List.getElem?_set, flds_len]
  by_cases hj : j < cF c
  · rw [flds_get hj]
    by_cases e : b = j
    · subst e
      rw [if_pos rfl, if_pos hb]
      congr 1
      have : hI (hsI h o b v) o b = v := if_pos ⟨rfl, rfl⟩
      rcases hy with hy | hy <;> rw [hy] <;> exact congrArg Value.int this
    · rw [if_neg e, flds_get hj]
      exact congrArg some (fvl_eq _ (if_neg (fun z => e z.2.symm)) rfl)
  · have e1 : (flds g (hsI h o b v) o c)[j]? = none := List.getElem?_eq_none (by rw [flds_len]; omega)
    rw [e1, if_neg (by omega)]
    exact (List.getElem?_eq_none (by rw [flds_len]; omega)).symm
theorem flds_R {g : GX} {h : HS} {o c b : Nat} {v : Option Nat} (hb : b < cF c) (hy : ∀ x, fvl g (hsR h o b v) o (cY c b) x = va_rf ((hR (hsR h o b v) o x).map (ad g))) : flds g (hsR h o b v) o c = (flds g h o c).set b (va_rf (v.map (ad g))) := by
  apply List.ext_getElem?
  intro j
  rw [List.getElem?_set, flds_len]
  by_cases hj : j < cF c
  · rw [flds_get hj]
    by_cases e : b = j
    · subst e
      rw [if_pos rfl, if_pos hb, hy]
      congr 3
      exact if_pos ⟨rfl, rfl⟩
    · rw [if_neg e, flds_get hj]
      exact congrArg some (fvl_eq _ rfl (if_neg (fun z => e z.2.symm)))
  · have e1 : (flds g (hsR h o b v) o c)[j]? = none := List.getElem?_eq_none (by rw [flds_len]; omega)
    rw [e1, if_neg (by omega)]
    exact (List.getElem?_eq_none (by rw [flds_len]; omega)).symm
theorem cls_at {a : Nat} (ha : a < 13) : clsL[a]? = some (cN a, cT a, cF a) := by
  have : ∀ a, a < 13 → clsL[a]? = some ((clsL.getD a ("", T0, 0)).1, (clsL.getD a ("", T0, 0)).2.1, (clsL.getD a ("", T0, 0)).2.2) := by
    intro a ha
    rw [List.getD_eq_getElem?_getD]
    have hl : a < clsL.length := ha
    rw [List.getElem?_eq_getElem hl]
    rfl
  exact this a ha
theorem cls_nm {a : Nat} (ha : a < 13) : ∀ x, x < cF a → ∀ y, y < cF a → x ≠ y → (cT a x).2.1 ≠ (cT a y).2.1 := by
  match a, ha with
  | 0, _ => exact nm0
  | 1, _ => exact nm1
  | 2, _ => exact nm2
  | 3, _ => exact nm3
  | 4, _ => exact nm4
  | 5, _ => exact nm5
  | 6, _ => exact nm6
  | 7, _ => exact nm7
  | 8, _ => exact nm8
  | 9, _ => exact nm9
  | 10, _ => exact nm10
  | 11, _ => exact nm11
  | 12, _ => exact nm12
theorem cls_ty {a : Nat} (ha : a < 13) : ∀ k, k < cF a → parseFieldDescriptor (cT a k).2.2.1 = some (cY a k) := by
  match a, ha with
  | 0, _ => exact ty0
  | 1, _ => exact ty1
  | 2, _ => exact ty2
  | 3, _ => exact ty3
  | 4, _ => exact ty4
  | 5, _ => exact ty5
  | 6, _ => exact ty6
  | 7, _ => exact ty7
  | 8, _ => exact ty8
  | 9, _ => exact ty9
  | 10, _ => exact ty10
  | 11, _ => exact ty11
  | 12, _ => exact ty12
set_option maxRecDepth 100000 in
theorem ck_L : (List.range 13).all (fun c => (List.range (cF c)).all (fun k => decide (lw_tbl[(lkL.getD c []).getD k 0]? = some (u_lay (cN c) (cT c) k)) && goodWord (u_lay (cN c) (cT c) k))) = true := by decide +kernel
set_option maxRecDepth 100000 in
theorem ck_I : (List.range 13).all (fun c => decide (lw_tbl[(lkI.getD c (0, 0)).1]? = some (Cond.instantiable (cN c) (cF c))) && decide (lw_tbl[(lkI.getD c (0, 0)).2]? = some (Cond.initialized (cN c)))) = true := by decide +kernel
theorem cls_lay {a : Nat} (ha : a < 13) : ∀ w ∈ u_ws (cN a) (cT a) (cF a), w ∈ tw := by
  intro w hw
  obtain ⟨k, hk, rfl⟩ := List.mem_map.mp hw
  have := List.all_eq_true.mp (List.all_eq_true.mp ck_L a (List.mem_range.mpr ha)) k hk
  rw [Bool.and_eq_true] at this
  exact tw_of (of_decide_eq_true this.1) this.2
theorem cls_inst {a : Nat} (ha : a < 13) : Cond.instantiable (cN a) (cF a) ∈ tw ∧ Cond.initialized (cN a) ∈ tw := by
  have := List.all_eq_true.mp ck_I a (List.mem_range.mpr ha)
  rw [Bool.and_eq_true] at this
  exact ⟨tw_of (of_decide_eq_true this.1) rfl, tw_of (of_decide_eq_true this.2) rfl⟩
set_option maxRecDepth 100000 in
theorem arrW : Cond.arrayClass .int ∈ tw ∧ Cond.arrayClass .byte ∈ tw ∧ Cond.arrayClass .boolean ∈ tw ∧ Cond.arrayClass .long ∈ tw :=
  ⟨tw_of (i := lkA.1) (by decide +kernel) rfl, tw_of (i := lkA.2.1) (by decide +kernel) rfl, tw_of (i := lkA.2.2.1) (by decide +kernel) rfl, tw_of (i := lkA.2.2.2) (by decide +kernel) rfl⟩
