/-! new cells, doubles on the stack, jumps -/
section SN
variable {p : Program} {l : Launch} {e : Env} {R : Room} {s : State} {m : MethodId} {args : Array Value} {below : List Frame} {meth : Method} {c : Code} {Q : State → Prop}
variable {g : GX} {xt : XT} {n0 s0 k : Nat}
theorem c_new {i a b pc : Nat} {x : Int} {ls : Lo} {st : List Value} {h : HS} (C0 : Ctx p s m args meth c g xt k) (hd : decode (qb k) pc = .ok (.new i, 3)) (hE : okE k (pc, .new i, a, b, x) = true)
    (hroom : h.1 + 1 - n0 ≤ R.cells ∧ h.2.1 + b - s0 ≤ R.slots)
    (kk : Goal p l e R s m args below meth c Q g xt n0 s0 k (pc + 3, ls, .ref h.1 :: st, hnew h a b (fun _ => 0))) : Goal p l e R s m args below meth c Q g xt n0 s0 k (pc, ls, st, h) := by
  obtain ⟨hk, hx, hb, hml, hown, hts, hK, -⟩ := id C0
  unfold okE at hE
  simp only [Bool.and_eq_true, decide_eq_true_eq] at hE
  obtain ⟨⟨hl, ha⟩, hbF⟩ := hE
  have hcl := hts _ (lkC_ok (i := i) (a := a) (oN_ok hk).2 (by
    obtain ⟨f, hf, hq⟩ := List.any_eq_true.mp hl
    simp only [Bool.and_eq_true, beq_iff_eq] at hq
    exact ⟨f, hf, hq.1, hq.2⟩))
  intro H locs la hr hlo hLR h1 h2
  have hr : Rel g xt h H := hr
  have h1' : n0 ≤ h.1 := h1
  have h2' : s0 ≤ h.2.1 := h2
  have hc := cls_at ha
  have hKn := hK.1.1 a _ hc
  subst hbF
  refine W.newcK (n := cF a) hx hb (own_ok C0) hcl (hts _ (cls_inst ha).1) (hts _ (cls_inst ha).2) rfl hd (by show h.1 - n0 + 1 ≤ _; omega) (by show h.2.1 - s0 + cF a ≤ _; omega) hKn.2.1 rfl fun H1 kC hkC e1 z1 o1 => ?_
  have hr1 : Rel g xt (hnew h a (cF a) (fun _ => 0)) H1 := by
    refine hr.push (Or.inl ha) z1 o1 ?_
    have sT : hT (hnew h a (cF a) (fun _ => 0)) h.1 = a := if_pos rfl
    unfold cellE
    rw [sT, if_pos ha, ad_new hr]
    refine ⟨_, hc, (u_born (cY a) hts (cls_lay ha) hKn hkC e1 (cls_ty ha)).to (fun j hj => ?_)⟩
    show defaultValue (cY a j) = (flds g (hnew h a (cF a) (fun _ => 0)) h.1 a).getD j .null
    rw [List.getD_eq_getElem?_getD, flds_get hj]
    show _ = fvl g (hnew h a (cF a) (fun _ => 0)) h.1 (cY a j) j
    have eI : hI (hnew h a (cF a) (fun _ => 0)) h.1 j = 0 := if_pos rfl
    have eR : hR (hnew h a (cF a) (fun _ => 0)) h.1 j = none := if_pos rfl
    have hty : okDef (cY a j) = true := by
      have hq : ∀ a, a < 13 → ∀ j, j < cF a → okDef (cY a j) = true := by decide +kernel
      exact hq a ha j hj
    unfold okDef at hty
    cases hc : cY a j <;> rw [hc] at hty <;> first | (exact absurd hty (by decide)) | (unfold fvl; rw [eI]; rfl) | (unfold fvl; rw [eR]; rfl)
  have := kk H1 locs la hr1 hlo hLR (by show n0 ≤ h.1 + 1; omega) (by show s0 ≤ h.2.1 + cF a; omega)
  have e1' : (hnew h a (cF a) (fun _ => 0)).1 - n0 = h.1 - n0 + 1 := by show h.1 + 1 - n0 = _; omega
  have e2' : (hnew h a (cF a) (fun _ => 0)).2.1 - s0 = h.2.1 - s0 + cF a := by show h.2.1 + cF a - s0 = _; omega
  rw [← ad_new hr]
  exact e1' ▸ e2' ▸ this
theorem ty_tag {t : ArrayType} {a : Nat} (h : (match t with
      | .int => a == 20
      | .byte => a == 21
      | .boolean => a == 22
      | .long => a == 23
      | _ => false) = true) : newarray.typeOf t = tyA a ∧ 20 ≤ a ∧ a < 24 ∧ Cond.arrayClass (newarray.typeOf t) ∈ tw ∧ componentBytes (newarray.typeOf t) ≤ 8 := by
  obtain ⟨w1, w2, w3, w4⟩ := arrW
  cases t <;> simp at h <;> subst h
  · exact ⟨rfl, by decide, by decide, w3, by decide⟩
  · exact ⟨rfl, by decide, by decide, w2, by decide⟩
  · exact ⟨rfl, by decide, by decide, w1, by decide⟩
  · exact ⟨rfl, by decide, by decide, w4, by decide⟩
theorem nlt_of {n : Int32} (h : ¬ (n < 0 ∨ 1000000 < n)) : ¬ n < 0 ∧ n.toNatClampNeg ≤ 1000000 := by
  have h1 : ¬ n < 0 := fun q => h (Or.inl q)
  have h2 : ¬ 1000000 < n := fun q => h (Or.inr q)
  obtain ⟨j, hj, rfl⟩ := nI_of h1
  refine ⟨h1, ?_⟩
  rw [nI_clamp hj]
  rcases Nat.lt_or_ge 1000000 j with q | q
  · exact absurd (nI_lt q hj) h2
  · exact q
theorem c_newA {t : ArrayType} {a b pc : Nat} {x : Int} {ls : Lo} {st : List Value} {h : HS} {f' : Cfg} (C0 : Ctx p s m args meth c g xt k) (hd : decode (qb k) pc = .ok (.newarray t, 2)) (hE : okE k (pc, .newarray t, a, b, x) = true) (hs : newA a 2 pc ls st h = some (.inl f'))
    (hroom : f'.2.2.2.1 - n0 ≤ R.cells ∧ f'.2.2.2.2.1 - s0 ≤ R.slots)
    (kk : Goal p l e R s m args below meth c Q g xt n0 s0 k f') : Goal p l e R s m args below meth c Q g xt n0 s0 k (pc, ls, st, h) := by
  obtain ⟨hk, hx, hb, hml, hown, hts, hK, -⟩ := id C0
  obtain ⟨et, ha1, ha2, hw, hcb⟩ := ty_tag (t := t) (a := a) hE
  unfold newA at hs
  split at hs
  · next n r =>
    split at hs
    · cases hs
    · next hn =>
      cases hs
      obtain ⟨hn0, hnN⟩ := nlt_of hn
      obtain ⟨hroom1, hroom2⟩ := hroom
      have hroom1 : h.1 + 1 - n0 ≤ R.cells := hroom1
      have hroom2 : h.2.1 + n.toNatClampNeg - s0 ≤ R.slots := hroom2
      intro H locs la hr hlo hLR h1 h2
      have hr : Rel g xt h H := hr
      have h1' : n0 ≤ h.1 := h1
      have h2' : s0 ≤ h.2.1 := h2
      refine va_newaK hx hb (hts _ hw) rfl hd rfl hn0 rfl (Nat.le_trans (Nat.mul_le_mul hnN hcb) (by decide)) (by show h.1 - n0 + 1 ≤ _; omega) (by show h.2.1 - s0 + n.toNatClampNeg ≤ _; omega) rfl fun H1 cA e1 z1 o1 hAr hNm => ?_
      have hcA : cA = gA g (a - 20) := by
        have hRA := (ks_arr hK (show 20 ≤ a ∧ a < 28 by omega)).2
        rw [et] at hNm
        rcases (show a = 20 ∨ a = 21 ∨ a = 22 ∨ a = 23 by omega) with rfl | rfl | rfl | rfl <;> exact Option.some.inj (hNm.symm.trans hRA)
      subst hcA
      have hr1 : Rel g xt (hnew h a n.toNatClampNeg (fun _ => 0)) H1 := by
        refine hr.push (Or.inr ⟨ha1, by omega⟩) z1 o1 ?_
        have sT : hT (hnew h a n.toNatClampNeg (fun _ => 0)) h.1 = a := if_pos rfl
        have sN : hN (hnew h a n.toNatClampNeg (fun _ => 0)) h.1 = n.toNatClampNeg := if_pos rfl
        have sI : (fun j => hI (hnew h a n.toNatClampNeg (fun _ => 0)) h.1 j) = fun _ => 0 := funext fun j => if_pos rfl
        have sL : (fun j => hL (hnew h a n.toNatClampNeg (fun _ => 0)) h.1 j) = fun _ => 0 := funext fun j => if_pos rfl
        unfold cellE
        rw [sT, if_neg (by omega), ad_new hr]
        show H1[H.size]? = some (vp_cell _ _)
        rw [e1, et]
        rcases (show a = 20 ∨ a = 21 ∨ a = 22 ∨ a = 23 by omega) with rfl | rfl | rfl | rfl
        · rw [arrE_i (by omega), sN, sI]; rfl
        · rw [arrE_i (by omega), sN, sI]; rfl
        · rw [arrE_i (by omega), sN, sI]; rfl
        · rw [arrE_l, sN, sL]; rfl
      have := kk H1 locs la hr1 hlo hLR (by show n0 ≤ h.1 + 1; omega) (by show s0 ≤ h.2.1 + n.toNatClampNeg; omega)
      have e1' : (hnew h a n.toNatClampNeg (fun _ => 0)).1 - n0 = h.1 - n0 + 1 := by show h.1 + 1 - n0 = _; omega
      have e2' : (hnew h a n.toNatClampNeg (fun _ => 0)).2.1 - s0 = h.2.1 - s0 + n.toNatClampNeg := by show h.2.1 + n.toNatClampNeg - s0 = _; omega
      rw [← ad_new hr]
      exact e1' ▸ e2' ▸ this
  · cases hs
theorem c_newR {i a b pc : Nat} {x : Int} {ls : Lo} {st : List Value} {h : HS} {f' : Cfg} (C0 : Ctx p s m args meth c g xt k) (hd : decode (qb k) pc = .ok (.anewarray i, 3)) (hE : okE k (pc, .anewarray i, a, b, x) = true) (hs : newA a 3 pc ls st h = some (.inl f'))
    (hroom : f'.2.2.2.1 - n0 ≤ R.cells ∧ f'.2.2.2.2.1 - s0 ≤ R.slots)
    (kk : Goal p l e R s m args below meth c Q g xt n0 s0 k f') : Goal p l e R s m args below meth c Q g xt n0 s0 k (pc, ls, st, h) := by
  obtain ⟨hk, hx, hb, hml, hown, hts, hK, -⟩ := id C0
  have hE' : ∃ f ∈ lkC.getD (qo k) [], f.1 = i ∧ f.2.1 = elT a ∧ (a = 24 ∨ a = 25 ∨ a = 26 ∨ a = 27) := by
    obtain ⟨f, hf, hq⟩ := List.any_eq_true.mp hE
    simp only [Bool.and_eq_true, beq_iff_eq, Bool.or_eq_true] at hq
    refine ⟨f, hf, hq.1, ?_⟩
    rcases hq.2 with ((⟨rfl, z⟩ | ⟨rfl, z⟩) | ⟨rfl, z⟩) | ⟨rfl, z⟩ <;> exact ⟨z, by simp⟩
  obtain ⟨f0, hf0, q1, q2, ha⟩ := hE'
  have hcl := hts _ (lkC_ok (oN_ok hk).2 ⟨f0, hf0, q1, q2⟩)
  unfold newA at hs
  split at hs
  · next n r =>
    split at hs
    · cases hs
    · next hn =>
      cases hs
      obtain ⟨hn0, hnN⟩ := nlt_of hn
      obtain ⟨hroom1, hroom2⟩ := hroom
      have hroom1 : h.1 + 1 - n0 ≤ R.cells := hroom1
      have hroom2 : h.2.1 + n.toNatClampNeg - s0 ≤ R.slots := hroom2
      intro H locs la hr hlo hLR h1 h2
      have hr : Rel g xt h H := hr
      have h1' : n0 ≤ h.1 := h1
      have h2' : s0 ≤ h.2.1 := h2
      have hAO : va_AO (cN (elT a)) s := hK.2.2.2.2.1 _ (by rcases ha with rfl | rfl | rfl | rfl <;> simp [elT, cN, clsL])
      refine W.anew hx hb (own_ok C0) hcl (va_AO.use hAO) rfl hd rfl hn0 (Nat.le_trans (Nat.mul_le_mul_right 4 hnN) (by decide)) (by show h.1 - n0 + 1 ≤ _; omega) (by show h.2.1 - s0 + n.toNatClampNeg ≤ _; omega) fun cA kA comp f1 f2 f3 f4 => ?_
      have hcA : cA = gA g (a - 20) := by
        have hRA := (ks_arr hK (show 20 ≤ a ∧ a < 28 by omega)).2
        rw [(tyA_obj ha).1] at hRA
        obtain ⟨_, _, _, _, _, r4⟩ := hRA
        exact Option.some.inj (f1.symm.trans r4)
      subst hcA
      generalize hH1 : H.push ({ cls := gA g (a - 20), slots := Array.replicate n.toNatClampNeg .null, vm := .none } : Cell) = H1
      have z1 : H1.size = H.size + 1 := by rw [← hH1, Array.size_push]
      have e1 : H1[H.size]? = some (arrV (gA g (a - 20)) n.toNatClampNeg (fun _ => .null)) := by rw [← hH1, Array.getElem?_push_size, ← arrV_new]
      have o1 : ∀ q : Nat, q < H.size → H1[q]? = H[q]? := fun q hq => by rw [← hH1, Array.getElem?_push, if_neg (Nat.ne_of_lt hq)]
      have hr1 : Rel g xt (hnew h a n.toNatClampNeg (fun _ => 0)) H1 := by
        refine hr.push (Or.inr ⟨by omega, by omega⟩) z1 o1 ?_
        have sT : hT (hnew h a n.toNatClampNeg (fun _ => 0)) h.1 = a := if_pos rfl
        have sN : hN (hnew h a n.toNatClampNeg (fun _ => 0)) h.1 = n.toNatClampNeg := if_pos rfl
        have sR : (fun j => (hR (hnew h a n.toNatClampNeg (fun _ => 0)) h.1 j).map (ad g)) = fun _ => none := funext fun j => by
          have : hR (hnew h a n.toNatClampNeg (fun _ => 0)) h.1 j = none := if_pos rfl
          rw [this]; rfl
        unfold cellE
        rw [sT, if_neg (by omega), ad_new hr]
        show H1[H.size]? = some (vp_cell _ _)
        rw [e1, arrE_r (by omega), sN, sR]
        rfl
      have := kk H1 locs la hr1 hlo hLR (by show n0 ≤ h.1 + 1; omega) (by show s0 ≤ h.2.1 + n.toNatClampNeg; omega)
      have e1' : (hnew h a n.toNatClampNeg (fun _ => 0)).1 - n0 = h.1 - n0 + 1 := by show h.1 + 1 - n0 = _; omega
      have e2' : (hnew h a n.toNatClampNeg (fun _ => 0)).2.1 - s0 = h.2.1 - s0 + n.toNatClampNeg := by show h.2.1 + n.toNatClampNeg - s0 = _; omega
      rw [← ad_new hr]
      exact e1' ▸ e2' ▸ this
  · cases hs
theorem c_brI {cond : Jvm.ClassFile.Cond} {off : Int} {a b pc : Nat} {x : Int} {ls : Lo} {st : List Value} {h : HS} {f' : Cfg} (hx : p.tables.exec = Jvm.exec) (hb : c.code = qb k) (hd : decode (qb k) pc = .ok (.ifCond cond off, 3)) (hE : okE k (pc, .ifCond cond off, a, b, x) = true) (hs : brI cond a pc ls st h = some (.inl f'))
    (kk : Goal p l e R s m args below meth c Q g xt n0 s0 k f') : Goal p l e R s m args below meth c Q g xt n0 s0 k (pc, ls, st, h) := by
  have ht : (pc : Int) + off = (a : Int) := of_decide_eq_true hE
  unfold brI at hs
  split at hs
  · next v r =>
    cases cond <;> (simp only [nx] at hs; cases hs; intro H locs la hr hlo hLR h1 h2; have hr : Rel g xt h H := hr; have K := kk H locs la hr hlo hLR h1 h2)
    · exact lv_if_eq hx hb hd ht (fun z => by rw [if_pos z] at K; exact K) (fun z => by rw [if_neg z] at K; exact K)
    · exact lv_if_ne hx hb hd ht (fun z => by rw [if_neg z] at K; exact K) (fun z => by rw [if_pos z] at K; exact K)
    · exact lv_if_lt hx hb hd ht (fun z => by rw [if_pos z] at K; exact K) (fun z => by rw [if_neg z] at K; exact K)
    · exact lv_if_ge hx hb hd ht (fun z => by rw [if_neg (Int32.not_lt.mpr z)] at K; exact K) (fun z => by rw [if_pos (Int32.not_le.mp z)] at K; exact K)
    · exact lv_if_gt hx hb hd ht (fun z => by rw [if_pos z] at K; exact K) (fun z => by rw [if_neg z] at K; exact K)
    · exact lv_if_le hx hb hd ht (fun z => by rw [if_neg (Int32.not_lt.mpr z)] at K; exact K) (fun z => by rw [if_pos (Int32.not_le.mp z)] at K; exact K)
  · cases hs
theorem c_brII {cond : Jvm.ClassFile.Cond} {off : Int} {a b pc : Nat} {x : Int} {ls : Lo} {st : List Value} {h : HS} {f' : Cfg} (hx : p.tables.exec = Jvm.exec) (hb : c.code = qb k) (hd : decode (qb k) pc = .ok (.if_icmp cond off, 3)) (hE : okE k (pc, .if_icmp cond off, a, b, x) = true) (hs : brII cond a pc ls st h = some (.inl f'))
    (kk : Goal p l e R s m args below meth c Q g xt n0 s0 k f') : Goal p l e R s m args below meth c Q g xt n0 s0 k (pc, ls, st, h) := by
  have ht : (pc : Int) + off = (a : Int) := of_decide_eq_true hE
  unfold brII at hs
  split at hs
  · next v w r =>
    cases cond <;> (simp only [nx] at hs; cases hs; intro H locs la hr hlo hLR h1 h2; have hr : Rel g xt h H := hr; have K := kk H locs la hr hlo hLR h1 h2)
    · exact lv_icmp_eq hx hb hd ht (fun z => by rw [if_pos z] at K; exact K) (fun z => by rw [if_neg z] at K; exact K)
    · exact lv_icmp_ne hx hb hd ht (fun z => by rw [if_neg z] at K; exact K) (fun z => by rw [if_pos z] at K; exact K)
    · exact lv_icmp_lt hx hb hd ht (fun z => by rw [if_pos z] at K; exact K) (fun z => by rw [if_neg z] at K; exact K)
    · exact lv_icmp_ge hx hb hd ht (fun z => by rw [if_neg (Int32.not_lt.mpr z)] at K; exact K) (fun z => by rw [if_pos (Int32.not_le.mp z)] at K; exact K)
    · exact lv_icmp_gt hx hb hd ht (fun z => by rw [if_pos z] at K; exact K) (fun z => by rw [if_neg z] at K; exact K)
    · exact lv_icmp_le hx hb hd ht (fun z => by rw [if_neg (Int32.not_lt.mpr z)] at K; exact K) (fun z => by rw [if_pos (Int32.not_le.mp z)] at K; exact K)
  · cases hs
theorem c_null {isN : Bool} {off : Int} {a pc : Nat} {ls : Lo} {st : List Value} {h : HS} {f' : Cfg} (hx : p.tables.exec = Jvm.exec) (hb : c.code = qb k) (hd : decode (qb k) pc = .ok (if isN then .ifnull off else .ifnonnull off, 3)) (ht : (pc : Int) + off = (a : Int)) (hs : nullF isN a pc ls st h = some (.inl f'))
    (kk : Goal p l e R s m args below meth c Q g xt n0 s0 k f') : Goal p l e R s m args below meth c Q g xt n0 s0 k (pc, ls, st, h) := by
  unfold nullF at hs
  split at hs
  · cases hs
    intro H locs la hr hlo hLR h1 h2
    have hr : Rel g xt h H := hr
    have K := kk H locs la hr hlo hLR h1 h2
    cases isN
    · exact lv_ifnonnullN hx hb hd K
    · exact lv_ifnullN hx hb hd ht K
  · cases hs
    intro H locs la hr hlo hLR h1 h2
    have hr : Rel g xt h H := hr
    have K := kk H locs la hr hlo hLR h1 h2
    cases isN
    · exact lv_ifnonnull hx hb hd ht K
    · exact lv_ifnull hx hb hd K
  · cases hs
theorem c_sw {dflt lo hi : Int} {offs : Array Int} {pc len : Nat} {ls : Lo} {st : List Value} {h : HS} {f' : Cfg} (hx : p.tables.exec = Jvm.exec) (hb : c.code = qb k) (hd : decode (qb k) pc = .ok (.tableswitch dflt lo hi offs, len)) (hs : swF dflt lo hi offs pc ls st h = some (.inl f'))
    (kk : Goal p l e R s m args below meth c Q g xt n0 s0 k f') : Goal p l e R s m args below meth c Q g xt n0 s0 k (pc, ls, st, h) := by
  unfold swF at hs
  split at hs
  · next x r =>
    split at hs
    · next hc =>
      cases hs
      obtain ⟨hc1, hc2⟩ := hc
      intro H locs la hr hlo hLR h1 h2
      have hr : Rel g xt h H := hr
      have K := kk H locs la hr hlo hLR h1 h2
      by_cases ho : x.toInt < lo ∨ hi < x.toInt
      · have e1 : swTo dflt lo hi offs x = dflt := if_pos ho
        rw [e1] at hc1
        simp only [e1] at K
        exact lv_tableOut hx hb hd ho (Int.toNat_of_nonneg hc1).symm K
      · have e1 : swTo dflt lo hi offs x = (offs[(x.toInt - lo).toNat]?).getD dflt := if_neg ho
        have hlt : (x.toInt - lo).toNat < offs.size := by omega
        rw [Array.getElem?_eq_getElem hlt] at e1
        have e2 : swTo dflt lo hi offs x = offs[(x.toInt - lo).toNat] := e1
        rw [e2] at hc1
        simp only [e2] at K
        exact lv_tableIn hx hb hd (fun z => ho (Or.inl z)) (fun z => ho (Or.inr z)) (Array.getElem?_eq_getElem hlt) (Int.toNat_of_nonneg hc1).symm K
    · cases hs
  · cases hs
theorem c_look {dflt : Int} {ps : Array (Int × Int)} {pc len : Nat} {ls : Lo} {st : List Value} {h : HS} {f' : Cfg} (hx : p.tables.exec = Jvm.exec) (hb : c.code = qb k) (hd : decode (qb k) pc = .ok (.lookupswitch dflt ps, len)) (hs : lookF dflt ps pc ls st h = some (.inl f'))
    (kk : Goal p l e R s m args below meth c Q g xt n0 s0 k f') : Goal p l e R s m args below meth c Q g xt n0 s0 k (pc, ls, st, h) := by
  unfold lookF at hs
  split at hs
  · next x r =>
    split at hs
    · next hc =>
      cases hs
      obtain ⟨hc1, hc2⟩ := hc
      intro H locs la hr hlo hLR h1 h2
      have hr : Rel g xt h H := hr
      have K := kk H locs la hr hlo hLR h1 h2
      exact lv_lookup hx hb hd hc2 rfl (Int.toNat_of_nonneg hc1).symm K
    · cases hs
  · cases hs
theorem c_dup {pc : Nat} {ls : Lo} {st : List Value} {h : HS} {f' : Cfg} (hx : p.tables.exec = Jvm.exec) (hb : c.code = qb k) (hd : decode (qb k) pc = .ok (.dup, 1)) (hs : dupF pc ls st h = some (.inl f'))
    (kk : Goal p l e R s m args below meth c Q g xt n0 s0 k f') : Goal p l e R s m args below meth c Q g xt n0 s0 k (pc, ls, st, h) := by
  unfold dupF at hs
  split at hs
  · split at hs
    · next hc =>
      cases hs
      intro H locs la hr hlo hLR h1 h2
      have hr : Rel g xt h H := hr
      exact lv_dup hx hb hd (by rw [emb_cat]; exact hc) (kk H locs la hr hlo hLR h1 h2)
    · cases hs
  · cases hs
theorem c_pop {pc : Nat} {ls : Lo} {st : List Value} {h : HS} {f' : Cfg} (hx : p.tables.exec = Jvm.exec) (hb : c.code = qb k) (hd : decode (qb k) pc = .ok (.pop, 1)) (hs : popF pc ls st h = some (.inl f'))
    (kk : Goal p l e R s m args below meth c Q g xt n0 s0 k f') : Goal p l e R s m args below meth c Q g xt n0 s0 k (pc, ls, st, h) := by
  unfold popF at hs
  split at hs
  · split at hs
    · next hc =>
      cases hs
      intro H locs la hr hlo hLR h1 h2
      have hr : Rel g xt h H := hr
      exact lv_pop hx hb hd (by rw [emb_cat]; exact hc) (kk H locs la hr hlo hLR h1 h2)
    · cases hs
  · cases hs
theorem c_dupx1 {pc : Nat} {ls : Lo} {st : List Value} {h : HS} {f' : Cfg} (hx : p.tables.exec = Jvm.exec) (hb : c.code = qb k) (hd : decode (qb k) pc = .ok (.dup_x1, 1)) (hs : dupx1F pc ls st h = some (.inl f'))
    (kk : Goal p l e R s m args below meth c Q g xt n0 s0 k f') : Goal p l e R s m args below meth c Q g xt n0 s0 k (pc, ls, st, h) := by
  unfold dupx1F at hs
  split at hs
  · split at hs
    · next hc =>
      cases hs
      intro H locs la hr hlo hLR h1 h2
      have hr : Rel g xt h H := hr
      exact lv_dup_x1 hx hb hd (by rw [emb_cat]; exact hc.1) (by rw [emb_cat]; exact hc.2) (kk H locs la hr hlo hLR h1 h2)
    · cases hs
  · cases hs
theorem c_dup2 {pc : Nat} {ls : Lo} {st : List Value} {h : HS} {f' : Cfg} (hx : p.tables.exec = Jvm.exec) (hb : c.code = qb k) (hd : decode (qb k) pc = .ok (.dup2, 1)) (hs : dup2F pc ls st h = some (.inl f'))
    (kk : Goal p l e R s m args below meth c Q g xt n0 s0 k f') : Goal p l e R s m args below meth c Q g xt n0 s0 k (pc, ls, st, h) := by
  unfold dup2F at hs
  split at hs
  · split at hs
    · next hc =>
      cases hs
      intro H locs la hr hlo hLR h1 h2
      have hr : Rel g xt h H := hr
      exact lv_dup2_11 hx hb hd (by rw [emb_cat]; exact hc.1) (by rw [emb_cat]; exact hc.2) (kk H locs la hr hlo hLR h1 h2)
    · cases hs
  · cases hs
end SN
